/-! THE LAW: its instructions by their places (printed by gcase.py) -/
set_option maxRecDepth 100000 in
theorem lk_0 : mj_lk ip_L_law 0 = some (.new 8, 3) := by decide +kernel
set_option maxRecDepth 100000 in
theorem lk_3 : mj_lk ip_L_law 3 = some (.dup, 1) := by decide +kernel
set_option maxRecDepth 100000 in
theorem lk_4 : mj_lk ip_L_law 4 = some (.invokespecial 155, 3) := by decide +kernel
set_option maxRecDepth 100000 in
theorem lk_7 : mj_lk ip_L_law 7 = some (.astore_n 1, 1) := by decide +kernel
set_option maxRecDepth 100000 in
theorem lk_8 : mj_lk ip_L_law 8 = some (.new 156, 3) := by decide +kernel
set_option maxRecDepth 100000 in
theorem lk_11 : mj_lk ip_L_law 11 = some (.dup, 1) := by decide +kernel
set_option maxRecDepth 100000 in
theorem lk_12 : mj_lk ip_L_law 12 = some (.invokespecial 158, 3) := by decide +kernel
set_option maxRecDepth 100000 in
theorem lk_15 : mj_lk ip_L_law 15 = some (.astore_n 2, 1) := by decide +kernel
set_option maxRecDepth 100000 in
theorem lk_16 : mj_lk ip_L_law 16 = some (.iconst 1, 1) := by decide +kernel
set_option maxRecDepth 100000 in
theorem lk_17 : mj_lk ip_L_law 17 = some (.newarray .long, 2) := by decide +kernel
set_option maxRecDepth 100000 in
theorem lk_19 : mj_lk ip_L_law 19 = some (.astore_n 3, 1) := by decide +kernel
set_option maxRecDepth 100000 in
theorem lk_20 : mj_lk ip_L_law 20 = some (.iconst 0, 1) := by decide +kernel
set_option maxRecDepth 100000 in
theorem lk_21 : mj_lk ip_L_law 21 = some (.istore 4, 2) := by decide +kernel
set_option maxRecDepth 100000 in
theorem lk_23 : mj_lk ip_L_law 23 = some (.iload 4, 2) := by decide +kernel
set_option maxRecDepth 100000 in
theorem lk_25 : mj_lk ip_L_law 25 = some (.aload_n 0, 1) := by decide +kernel
set_option maxRecDepth 100000 in
theorem lk_26 : mj_lk ip_L_law 26 = some (.arraylength, 1) := by decide +kernel
set_option maxRecDepth 100000 in
theorem lk_27 : mj_lk ip_L_law 27 = some (.bipush 7, 2) := by decide +kernel
set_option maxRecDepth 100000 in
theorem lk_29 : mj_lk ip_L_law 29 = some (.isub, 1) := by decide +kernel
set_option maxRecDepth 100000 in
theorem lk_30 : mj_lk ip_L_law 30 = some (.if_icmp .gt 3251, 3) := by decide +kernel
set_option maxRecDepth 100000 in
theorem lk_33 : mj_lk ip_L_law 33 = some (.aload_n 0, 1) := by decide +kernel
set_option maxRecDepth 100000 in
theorem lk_34 : mj_lk ip_L_law 34 = some (.iload 4, 2) := by decide +kernel
set_option maxRecDepth 100000 in
theorem lk_36 : mj_lk ip_L_law 36 = some (.iaload, 1) := by decide +kernel
set_option maxRecDepth 100000 in
theorem lk_37 : mj_lk ip_L_law 37 = some (.bipush 63, 2) := by decide +kernel
set_option maxRecDepth 100000 in
theorem lk_39 : mj_lk ip_L_law 39 = some (.iand, 1) := by decide +kernel
set_option maxRecDepth 100000 in
theorem lk_40 : mj_lk ip_L_law 40 = some (.tableswitch 3235 0 45 #[200, 241, 297, 353, 409, 477, 533, 624, 680, 748, 820, 904, 984, 1052, 1150, 1242, 1322, 1390, 1446, 1526, 1594, 1673, 1736, 1804, 1922, 1978, 1991, 2046, 2114, 2182, 2249, 2317, 2373, 2441, 2532, 2588, 2675, 2743, 2799, 2855, 2923, 3003, 3028, 3041, 3113, 3180], 200) := by decide +kernel
set_option maxRecDepth 100000 in
theorem lk_240 : mj_lk ip_L_law 240 = some (.aload_n 1, 1) := by decide +kernel
set_option maxRecDepth 100000 in
theorem lk_241 : mj_lk ip_L_law 241 = some (.aload_n 0, 1) := by decide +kernel
set_option maxRecDepth 100000 in
theorem lk_242 : mj_lk ip_L_law 242 = some (.iload 4, 2) := by decide +kernel
set_option maxRecDepth 100000 in
theorem lk_244 : mj_lk ip_L_law 244 = some (.iconst 1, 1) := by decide +kernel
set_option maxRecDepth 100000 in
theorem lk_245 : mj_lk ip_L_law 245 = some (.iadd, 1) := by decide +kernel
set_option maxRecDepth 100000 in
theorem lk_246 : mj_lk ip_L_law 246 = some (.iaload, 1) := by decide +kernel
set_option maxRecDepth 100000 in
theorem lk_247 : mj_lk ip_L_law 247 = some (.ifCond .eq 7, 3) := by decide +kernel
set_option maxRecDepth 100000 in
theorem lk_250 : mj_lk ip_L_law 250 = some (.iconst 1, 1) := by decide +kernel
set_option maxRecDepth 100000 in
theorem lk_251 : mj_lk ip_L_law 251 = some (.goto 4, 3) := by decide +kernel
set_option maxRecDepth 100000 in
theorem lk_254 : mj_lk ip_L_law 254 = some (.iconst 0, 1) := by decide +kernel
set_option maxRecDepth 100000 in
theorem lk_255 : mj_lk ip_L_law 255 = some (.invokevirtual 159, 3) := by decide +kernel
set_option maxRecDepth 100000 in
theorem lk_258 : mj_lk ip_L_law 258 = some (.aload_n 2, 1) := by decide +kernel
set_option maxRecDepth 100000 in
theorem lk_259 : mj_lk ip_L_law 259 = some (.aload_n 0, 1) := by decide +kernel
set_option maxRecDepth 100000 in
theorem lk_260 : mj_lk ip_L_law 260 = some (.iload 4, 2) := by decide +kernel
set_option maxRecDepth 100000 in
theorem lk_262 : mj_lk ip_L_law 262 = some (.iconst 1, 1) := by decide +kernel
set_option maxRecDepth 100000 in
theorem lk_263 : mj_lk ip_L_law 263 = some (.iadd, 1) := by decide +kernel
set_option maxRecDepth 100000 in
theorem lk_264 : mj_lk ip_L_law 264 = some (.iaload, 1) := by decide +kernel
set_option maxRecDepth 100000 in
theorem lk_265 : mj_lk ip_L_law 265 = some (.ifCond .eq 7, 3) := by decide +kernel
set_option maxRecDepth 100000 in
theorem lk_268 : mj_lk ip_L_law 268 = some (.iconst 1, 1) := by decide +kernel
set_option maxRecDepth 100000 in
theorem lk_269 : mj_lk ip_L_law 269 = some (.goto 4, 3) := by decide +kernel
set_option maxRecDepth 100000 in
theorem lk_272 : mj_lk ip_L_law 272 = some (.iconst 0, 1) := by decide +kernel
set_option maxRecDepth 100000 in
theorem lk_273 : mj_lk ip_L_law 273 = some (.invokevirtual 162, 3) := by decide +kernel
set_option maxRecDepth 100000 in
theorem lk_276 : mj_lk ip_L_law 276 = some (.if_icmp .eq 2999, 3) := by decide +kernel
set_option maxRecDepth 100000 in
theorem lk_279 : mj_lk ip_L_law 279 = some (.iconst 0, 1) := by decide +kernel
set_option maxRecDepth 100000 in
theorem lk_280 : mj_lk ip_L_law 280 = some (.ireturn, 1) := by decide +kernel
set_option maxRecDepth 100000 in
theorem lk_281 : mj_lk ip_L_law 281 = some (.aload_n 1, 1) := by decide +kernel
set_option maxRecDepth 100000 in
theorem lk_282 : mj_lk ip_L_law 282 = some (.aload_n 0, 1) := by decide +kernel
set_option maxRecDepth 100000 in
theorem lk_283 : mj_lk ip_L_law 283 = some (.iload 4, 2) := by decide +kernel
set_option maxRecDepth 100000 in
theorem lk_285 : mj_lk ip_L_law 285 = some (.iconst 1, 1) := by decide +kernel
set_option maxRecDepth 100000 in
theorem lk_286 : mj_lk ip_L_law 286 = some (.iadd, 1) := by decide +kernel
set_option maxRecDepth 100000 in
theorem lk_287 : mj_lk ip_L_law 287 = some (.iaload, 1) := by decide +kernel
set_option maxRecDepth 100000 in
theorem lk_288 : mj_lk ip_L_law 288 = some (.aload_n 3, 1) := by decide +kernel
set_option maxRecDepth 100000 in
theorem lk_289 : mj_lk ip_L_law 289 = some (.invokestatic 163, 3) := by decide +kernel
set_option maxRecDepth 100000 in
theorem lk_292 : mj_lk ip_L_law 292 = some (.istore 5, 2) := by decide +kernel
set_option maxRecDepth 100000 in
theorem lk_294 : mj_lk ip_L_law 294 = some (.aload_n 2, 1) := by decide +kernel
set_option maxRecDepth 100000 in
theorem lk_295 : mj_lk ip_L_law 295 = some (.aload_n 0, 1) := by decide +kernel
set_option maxRecDepth 100000 in
theorem lk_296 : mj_lk ip_L_law 296 = some (.iload 4, 2) := by decide +kernel
set_option maxRecDepth 100000 in
theorem lk_298 : mj_lk ip_L_law 298 = some (.iconst 1, 1) := by decide +kernel
set_option maxRecDepth 100000 in
theorem lk_299 : mj_lk ip_L_law 299 = some (.iadd, 1) := by decide +kernel
set_option maxRecDepth 100000 in
theorem lk_300 : mj_lk ip_L_law 300 = some (.iaload, 1) := by decide +kernel
set_option maxRecDepth 100000 in
theorem lk_301 : mj_lk ip_L_law 301 = some (.invokevirtual 168, 3) := by decide +kernel
set_option maxRecDepth 100000 in
theorem lk_304 : mj_lk ip_L_law 304 = some (.istore 6, 2) := by decide +kernel
set_option maxRecDepth 100000 in
theorem lk_306 : mj_lk ip_L_law 306 = some (.aload_n 2, 1) := by decide +kernel
set_option maxRecDepth 100000 in
theorem lk_307 : mj_lk ip_L_law 307 = some (.invokevirtual 169, 3) := by decide +kernel
set_option maxRecDepth 100000 in
theorem lk_310 : mj_lk ip_L_law 310 = some (.iload 5, 2) := by decide +kernel
set_option maxRecDepth 100000 in
theorem lk_312 : mj_lk ip_L_law 312 = some (.if_icmp .eq 5, 3) := by decide +kernel
set_option maxRecDepth 100000 in
theorem lk_315 : mj_lk ip_L_law 315 = some (.iconst 0, 1) := by decide +kernel
set_option maxRecDepth 100000 in
theorem lk_316 : mj_lk ip_L_law 316 = some (.ireturn, 1) := by decide +kernel
set_option maxRecDepth 100000 in
theorem lk_317 : mj_lk ip_L_law 317 = some (.iload 5, 2) := by decide +kernel
set_option maxRecDepth 100000 in
theorem lk_319 : mj_lk ip_L_law 319 = some (.ifCond .ne 15, 3) := by decide +kernel
set_option maxRecDepth 100000 in
theorem lk_322 : mj_lk ip_L_law 322 = some (.aload_n 3, 1) := by decide +kernel
set_option maxRecDepth 100000 in
theorem lk_323 : mj_lk ip_L_law 323 = some (.iconst 0, 1) := by decide +kernel
set_option maxRecDepth 100000 in
theorem lk_324 : mj_lk ip_L_law 324 = some (.laload, 1) := by decide +kernel
set_option maxRecDepth 100000 in
theorem lk_325 : mj_lk ip_L_law 325 = some (.iload 6, 2) := by decide +kernel
set_option maxRecDepth 100000 in
theorem lk_327 : mj_lk ip_L_law 327 = some (.i2l, 1) := by decide +kernel
set_option maxRecDepth 100000 in
theorem lk_328 : mj_lk ip_L_law 328 = some (.lcmp, 1) := by decide +kernel
set_option maxRecDepth 100000 in
theorem lk_329 : mj_lk ip_L_law 329 = some (.ifCond .eq 5, 3) := by decide +kernel
set_option maxRecDepth 100000 in
theorem lk_332 : mj_lk ip_L_law 332 = some (.iconst 0, 1) := by decide +kernel
set_option maxRecDepth 100000 in
theorem lk_333 : mj_lk ip_L_law 333 = some (.ireturn, 1) := by decide +kernel
set_option maxRecDepth 100000 in
theorem lk_334 : mj_lk ip_L_law 334 = some (.goto 2941, 3) := by decide +kernel
set_option maxRecDepth 100000 in
theorem lk_337 : mj_lk ip_L_law 337 = some (.aload_n 1, 1) := by decide +kernel
set_option maxRecDepth 100000 in
theorem lk_338 : mj_lk ip_L_law 338 = some (.aload_n 0, 1) := by decide +kernel
set_option maxRecDepth 100000 in
theorem lk_339 : mj_lk ip_L_law 339 = some (.iload 4, 2) := by decide +kernel
set_option maxRecDepth 100000 in
theorem lk_341 : mj_lk ip_L_law 341 = some (.iconst 1, 1) := by decide +kernel
set_option maxRecDepth 100000 in
theorem lk_342 : mj_lk ip_L_law 342 = some (.iadd, 1) := by decide +kernel
set_option maxRecDepth 100000 in
theorem lk_343 : mj_lk ip_L_law 343 = some (.iaload, 1) := by decide +kernel
set_option maxRecDepth 100000 in
theorem lk_344 : mj_lk ip_L_law 344 = some (.aload_n 3, 1) := by decide +kernel
set_option maxRecDepth 100000 in
theorem lk_345 : mj_lk ip_L_law 345 = some (.invokestatic 173, 3) := by decide +kernel
set_option maxRecDepth 100000 in
theorem lk_348 : mj_lk ip_L_law 348 = some (.istore 5, 2) := by decide +kernel
set_option maxRecDepth 100000 in
theorem lk_350 : mj_lk ip_L_law 350 = some (.aload_n 2, 1) := by decide +kernel
set_option maxRecDepth 100000 in
theorem lk_351 : mj_lk ip_L_law 351 = some (.aload_n 0, 1) := by decide +kernel
set_option maxRecDepth 100000 in
theorem lk_352 : mj_lk ip_L_law 352 = some (.iload 4, 2) := by decide +kernel
set_option maxRecDepth 100000 in
theorem lk_354 : mj_lk ip_L_law 354 = some (.iconst 1, 1) := by decide +kernel
set_option maxRecDepth 100000 in
theorem lk_355 : mj_lk ip_L_law 355 = some (.iadd, 1) := by decide +kernel
set_option maxRecDepth 100000 in
theorem lk_356 : mj_lk ip_L_law 356 = some (.iaload, 1) := by decide +kernel
set_option maxRecDepth 100000 in
theorem lk_357 : mj_lk ip_L_law 357 = some (.invokevirtual 175, 3) := by decide +kernel
set_option maxRecDepth 100000 in
theorem lk_360 : mj_lk ip_L_law 360 = some (.istore 6, 2) := by decide +kernel
set_option maxRecDepth 100000 in
theorem lk_362 : mj_lk ip_L_law 362 = some (.aload_n 2, 1) := by decide +kernel
set_option maxRecDepth 100000 in
theorem lk_363 : mj_lk ip_L_law 363 = some (.invokevirtual 169, 3) := by decide +kernel
set_option maxRecDepth 100000 in
theorem lk_366 : mj_lk ip_L_law 366 = some (.iload 5, 2) := by decide +kernel
set_option maxRecDepth 100000 in
theorem lk_368 : mj_lk ip_L_law 368 = some (.if_icmp .eq 5, 3) := by decide +kernel
set_option maxRecDepth 100000 in
theorem lk_371 : mj_lk ip_L_law 371 = some (.iconst 0, 1) := by decide +kernel
set_option maxRecDepth 100000 in
theorem lk_372 : mj_lk ip_L_law 372 = some (.ireturn, 1) := by decide +kernel
set_option maxRecDepth 100000 in
theorem lk_373 : mj_lk ip_L_law 373 = some (.iload 5, 2) := by decide +kernel
set_option maxRecDepth 100000 in
theorem lk_375 : mj_lk ip_L_law 375 = some (.ifCond .ne 15, 3) := by decide +kernel
set_option maxRecDepth 100000 in
theorem lk_378 : mj_lk ip_L_law 378 = some (.aload_n 3, 1) := by decide +kernel
set_option maxRecDepth 100000 in
theorem lk_379 : mj_lk ip_L_law 379 = some (.iconst 0, 1) := by decide +kernel
set_option maxRecDepth 100000 in
theorem lk_380 : mj_lk ip_L_law 380 = some (.laload, 1) := by decide +kernel
set_option maxRecDepth 100000 in
theorem lk_381 : mj_lk ip_L_law 381 = some (.iload 6, 2) := by decide +kernel
set_option maxRecDepth 100000 in
theorem lk_383 : mj_lk ip_L_law 383 = some (.i2l, 1) := by decide +kernel
set_option maxRecDepth 100000 in
theorem lk_384 : mj_lk ip_L_law 384 = some (.lcmp, 1) := by decide +kernel
set_option maxRecDepth 100000 in
theorem lk_385 : mj_lk ip_L_law 385 = some (.ifCond .eq 5, 3) := by decide +kernel
set_option maxRecDepth 100000 in
theorem lk_388 : mj_lk ip_L_law 388 = some (.iconst 0, 1) := by decide +kernel
set_option maxRecDepth 100000 in
theorem lk_389 : mj_lk ip_L_law 389 = some (.ireturn, 1) := by decide +kernel
set_option maxRecDepth 100000 in
theorem lk_390 : mj_lk ip_L_law 390 = some (.goto 2885, 3) := by decide +kernel
set_option maxRecDepth 100000 in
theorem lk_393 : mj_lk ip_L_law 393 = some (.aload_n 1, 1) := by decide +kernel
set_option maxRecDepth 100000 in
theorem lk_394 : mj_lk ip_L_law 394 = some (.aload_n 0, 1) := by decide +kernel
set_option maxRecDepth 100000 in
theorem lk_395 : mj_lk ip_L_law 395 = some (.iload 4, 2) := by decide +kernel
set_option maxRecDepth 100000 in
theorem lk_397 : mj_lk ip_L_law 397 = some (.iconst 1, 1) := by decide +kernel
set_option maxRecDepth 100000 in
theorem lk_398 : mj_lk ip_L_law 398 = some (.iadd, 1) := by decide +kernel
set_option maxRecDepth 100000 in
theorem lk_399 : mj_lk ip_L_law 399 = some (.iaload, 1) := by decide +kernel
set_option maxRecDepth 100000 in
theorem lk_400 : mj_lk ip_L_law 400 = some (.aload_n 3, 1) := by decide +kernel
set_option maxRecDepth 100000 in
theorem lk_401 : mj_lk ip_L_law 401 = some (.invokestatic 176, 3) := by decide +kernel
set_option maxRecDepth 100000 in
theorem lk_404 : mj_lk ip_L_law 404 = some (.istore 5, 2) := by decide +kernel
set_option maxRecDepth 100000 in
theorem lk_406 : mj_lk ip_L_law 406 = some (.aload_n 2, 1) := by decide +kernel
set_option maxRecDepth 100000 in
theorem lk_407 : mj_lk ip_L_law 407 = some (.aload_n 0, 1) := by decide +kernel
set_option maxRecDepth 100000 in
theorem lk_408 : mj_lk ip_L_law 408 = some (.iload 4, 2) := by decide +kernel
set_option maxRecDepth 100000 in
theorem lk_410 : mj_lk ip_L_law 410 = some (.iconst 1, 1) := by decide +kernel
set_option maxRecDepth 100000 in
theorem lk_411 : mj_lk ip_L_law 411 = some (.iadd, 1) := by decide +kernel
set_option maxRecDepth 100000 in
theorem lk_412 : mj_lk ip_L_law 412 = some (.iaload, 1) := by decide +kernel
set_option maxRecDepth 100000 in
theorem lk_413 : mj_lk ip_L_law 413 = some (.invokevirtual 178, 3) := by decide +kernel
set_option maxRecDepth 100000 in
theorem lk_416 : mj_lk ip_L_law 416 = some (.istore 6, 2) := by decide +kernel
set_option maxRecDepth 100000 in
theorem lk_418 : mj_lk ip_L_law 418 = some (.aload_n 2, 1) := by decide +kernel
set_option maxRecDepth 100000 in
theorem lk_419 : mj_lk ip_L_law 419 = some (.invokevirtual 169, 3) := by decide +kernel
set_option maxRecDepth 100000 in
theorem lk_422 : mj_lk ip_L_law 422 = some (.iload 5, 2) := by decide +kernel
set_option maxRecDepth 100000 in
theorem lk_424 : mj_lk ip_L_law 424 = some (.if_icmp .eq 5, 3) := by decide +kernel
set_option maxRecDepth 100000 in
theorem lk_427 : mj_lk ip_L_law 427 = some (.iconst 0, 1) := by decide +kernel
set_option maxRecDepth 100000 in
theorem lk_428 : mj_lk ip_L_law 428 = some (.ireturn, 1) := by decide +kernel
set_option maxRecDepth 100000 in
theorem lk_429 : mj_lk ip_L_law 429 = some (.iload 5, 2) := by decide +kernel
set_option maxRecDepth 100000 in
theorem lk_431 : mj_lk ip_L_law 431 = some (.ifCond .ne 15, 3) := by decide +kernel
set_option maxRecDepth 100000 in
theorem lk_434 : mj_lk ip_L_law 434 = some (.aload_n 3, 1) := by decide +kernel
set_option maxRecDepth 100000 in
theorem lk_435 : mj_lk ip_L_law 435 = some (.iconst 0, 1) := by decide +kernel
set_option maxRecDepth 100000 in
theorem lk_436 : mj_lk ip_L_law 436 = some (.laload, 1) := by decide +kernel
set_option maxRecDepth 100000 in
theorem lk_437 : mj_lk ip_L_law 437 = some (.iload 6, 2) := by decide +kernel
set_option maxRecDepth 100000 in
theorem lk_439 : mj_lk ip_L_law 439 = some (.i2l, 1) := by decide +kernel
set_option maxRecDepth 100000 in
theorem lk_440 : mj_lk ip_L_law 440 = some (.lcmp, 1) := by decide +kernel
set_option maxRecDepth 100000 in
theorem lk_441 : mj_lk ip_L_law 441 = some (.ifCond .eq 5, 3) := by decide +kernel
set_option maxRecDepth 100000 in
theorem lk_444 : mj_lk ip_L_law 444 = some (.iconst 0, 1) := by decide +kernel
set_option maxRecDepth 100000 in
theorem lk_445 : mj_lk ip_L_law 445 = some (.ireturn, 1) := by decide +kernel
set_option maxRecDepth 100000 in
theorem lk_446 : mj_lk ip_L_law 446 = some (.goto 2829, 3) := by decide +kernel
set_option maxRecDepth 100000 in
theorem lk_449 : mj_lk ip_L_law 449 = some (.aload_n 1, 1) := by decide +kernel
set_option maxRecDepth 100000 in
theorem lk_450 : mj_lk ip_L_law 450 = some (.aload_n 0, 1) := by decide +kernel
set_option maxRecDepth 100000 in
theorem lk_451 : mj_lk ip_L_law 451 = some (.iload 4, 2) := by decide +kernel
set_option maxRecDepth 100000 in
theorem lk_453 : mj_lk ip_L_law 453 = some (.iconst 1, 1) := by decide +kernel
set_option maxRecDepth 100000 in
theorem lk_454 : mj_lk ip_L_law 454 = some (.iadd, 1) := by decide +kernel
set_option maxRecDepth 100000 in
theorem lk_455 : mj_lk ip_L_law 455 = some (.iaload, 1) := by decide +kernel
set_option maxRecDepth 100000 in
theorem lk_456 : mj_lk ip_L_law 456 = some (.aload_n 0, 1) := by decide +kernel
set_option maxRecDepth 100000 in
theorem lk_457 : mj_lk ip_L_law 457 = some (.iload 4, 2) := by decide +kernel
set_option maxRecDepth 100000 in
theorem lk_459 : mj_lk ip_L_law 459 = some (.iconst 2, 1) := by decide +kernel
set_option maxRecDepth 100000 in
theorem lk_460 : mj_lk ip_L_law 460 = some (.iadd, 1) := by decide +kernel
set_option maxRecDepth 100000 in
theorem lk_461 : mj_lk ip_L_law 461 = some (.iaload, 1) := by decide +kernel
set_option maxRecDepth 100000 in
theorem lk_462 : mj_lk ip_L_law 462 = some (.aload_n 3, 1) := by decide +kernel
set_option maxRecDepth 100000 in
theorem lk_463 : mj_lk ip_L_law 463 = some (.invokestatic 179, 3) := by decide +kernel
set_option maxRecDepth 100000 in
theorem lk_466 : mj_lk ip_L_law 466 = some (.istore 5, 2) := by decide +kernel
set_option maxRecDepth 100000 in
theorem lk_468 : mj_lk ip_L_law 468 = some (.aload_n 2, 1) := by decide +kernel
set_option maxRecDepth 100000 in
theorem lk_469 : mj_lk ip_L_law 469 = some (.aload_n 0, 1) := by decide +kernel
set_option maxRecDepth 100000 in
theorem lk_470 : mj_lk ip_L_law 470 = some (.iload 4, 2) := by decide +kernel
set_option maxRecDepth 100000 in
theorem lk_472 : mj_lk ip_L_law 472 = some (.iconst 1, 1) := by decide +kernel
set_option maxRecDepth 100000 in
theorem lk_473 : mj_lk ip_L_law 473 = some (.iadd, 1) := by decide +kernel
set_option maxRecDepth 100000 in
theorem lk_474 : mj_lk ip_L_law 474 = some (.iaload, 1) := by decide +kernel
set_option maxRecDepth 100000 in
theorem lk_475 : mj_lk ip_L_law 475 = some (.aload_n 0, 1) := by decide +kernel
set_option maxRecDepth 100000 in
theorem lk_476 : mj_lk ip_L_law 476 = some (.iload 4, 2) := by decide +kernel
set_option maxRecDepth 100000 in
theorem lk_478 : mj_lk ip_L_law 478 = some (.iconst 2, 1) := by decide +kernel
set_option maxRecDepth 100000 in
theorem lk_479 : mj_lk ip_L_law 479 = some (.iadd, 1) := by decide +kernel
set_option maxRecDepth 100000 in
theorem lk_480 : mj_lk ip_L_law 480 = some (.iaload, 1) := by decide +kernel
set_option maxRecDepth 100000 in
theorem lk_481 : mj_lk ip_L_law 481 = some (.invokevirtual 182, 3) := by decide +kernel
set_option maxRecDepth 100000 in
theorem lk_484 : mj_lk ip_L_law 484 = some (.istore 6, 2) := by decide +kernel
set_option maxRecDepth 100000 in
theorem lk_486 : mj_lk ip_L_law 486 = some (.aload_n 2, 1) := by decide +kernel
set_option maxRecDepth 100000 in
theorem lk_487 : mj_lk ip_L_law 487 = some (.invokevirtual 169, 3) := by decide +kernel
set_option maxRecDepth 100000 in
theorem lk_490 : mj_lk ip_L_law 490 = some (.iload 5, 2) := by decide +kernel
set_option maxRecDepth 100000 in
theorem lk_492 : mj_lk ip_L_law 492 = some (.if_icmp .eq 5, 3) := by decide +kernel
set_option maxRecDepth 100000 in
theorem lk_495 : mj_lk ip_L_law 495 = some (.iconst 0, 1) := by decide +kernel
set_option maxRecDepth 100000 in
theorem lk_496 : mj_lk ip_L_law 496 = some (.ireturn, 1) := by decide +kernel
set_option maxRecDepth 100000 in
theorem lk_497 : mj_lk ip_L_law 497 = some (.iload 5, 2) := by decide +kernel
set_option maxRecDepth 100000 in
theorem lk_499 : mj_lk ip_L_law 499 = some (.ifCond .ne 15, 3) := by decide +kernel
set_option maxRecDepth 100000 in
theorem lk_502 : mj_lk ip_L_law 502 = some (.aload_n 3, 1) := by decide +kernel
set_option maxRecDepth 100000 in
theorem lk_503 : mj_lk ip_L_law 503 = some (.iconst 0, 1) := by decide +kernel
set_option maxRecDepth 100000 in
theorem lk_504 : mj_lk ip_L_law 504 = some (.laload, 1) := by decide +kernel
set_option maxRecDepth 100000 in
theorem lk_505 : mj_lk ip_L_law 505 = some (.iload 6, 2) := by decide +kernel
set_option maxRecDepth 100000 in
theorem lk_507 : mj_lk ip_L_law 507 = some (.i2l, 1) := by decide +kernel
set_option maxRecDepth 100000 in
theorem lk_508 : mj_lk ip_L_law 508 = some (.lcmp, 1) := by decide +kernel
set_option maxRecDepth 100000 in
theorem lk_509 : mj_lk ip_L_law 509 = some (.ifCond .eq 5, 3) := by decide +kernel
set_option maxRecDepth 100000 in
theorem lk_512 : mj_lk ip_L_law 512 = some (.iconst 0, 1) := by decide +kernel
set_option maxRecDepth 100000 in
theorem lk_513 : mj_lk ip_L_law 513 = some (.ireturn, 1) := by decide +kernel
set_option maxRecDepth 100000 in
theorem lk_514 : mj_lk ip_L_law 514 = some (.goto 2761, 3) := by decide +kernel
set_option maxRecDepth 100000 in
theorem lk_517 : mj_lk ip_L_law 517 = some (.aload_n 1, 1) := by decide +kernel
set_option maxRecDepth 100000 in
theorem lk_518 : mj_lk ip_L_law 518 = some (.aload_n 0, 1) := by decide +kernel
set_option maxRecDepth 100000 in
theorem lk_519 : mj_lk ip_L_law 519 = some (.iload 4, 2) := by decide +kernel
set_option maxRecDepth 100000 in
theorem lk_521 : mj_lk ip_L_law 521 = some (.iconst 1, 1) := by decide +kernel
set_option maxRecDepth 100000 in
theorem lk_522 : mj_lk ip_L_law 522 = some (.iadd, 1) := by decide +kernel
set_option maxRecDepth 100000 in
theorem lk_523 : mj_lk ip_L_law 523 = some (.iaload, 1) := by decide +kernel
set_option maxRecDepth 100000 in
theorem lk_524 : mj_lk ip_L_law 524 = some (.aload_n 3, 1) := by decide +kernel
set_option maxRecDepth 100000 in
theorem lk_525 : mj_lk ip_L_law 525 = some (.invokestatic 183, 3) := by decide +kernel
set_option maxRecDepth 100000 in
theorem lk_528 : mj_lk ip_L_law 528 = some (.istore 5, 2) := by decide +kernel
set_option maxRecDepth 100000 in
theorem lk_530 : mj_lk ip_L_law 530 = some (.aload_n 2, 1) := by decide +kernel
set_option maxRecDepth 100000 in
theorem lk_531 : mj_lk ip_L_law 531 = some (.aload_n 0, 1) := by decide +kernel
set_option maxRecDepth 100000 in
theorem lk_532 : mj_lk ip_L_law 532 = some (.iload 4, 2) := by decide +kernel
set_option maxRecDepth 100000 in
theorem lk_534 : mj_lk ip_L_law 534 = some (.iconst 1, 1) := by decide +kernel
set_option maxRecDepth 100000 in
theorem lk_535 : mj_lk ip_L_law 535 = some (.iadd, 1) := by decide +kernel
set_option maxRecDepth 100000 in
theorem lk_536 : mj_lk ip_L_law 536 = some (.iaload, 1) := by decide +kernel
set_option maxRecDepth 100000 in
theorem lk_537 : mj_lk ip_L_law 537 = some (.invokevirtual 185, 3) := by decide +kernel
set_option maxRecDepth 100000 in
theorem lk_540 : mj_lk ip_L_law 540 = some (.istore 6, 2) := by decide +kernel
set_option maxRecDepth 100000 in
theorem lk_542 : mj_lk ip_L_law 542 = some (.aload_n 2, 1) := by decide +kernel
set_option maxRecDepth 100000 in
theorem lk_543 : mj_lk ip_L_law 543 = some (.invokevirtual 169, 3) := by decide +kernel
set_option maxRecDepth 100000 in
theorem lk_546 : mj_lk ip_L_law 546 = some (.iload 5, 2) := by decide +kernel
set_option maxRecDepth 100000 in
theorem lk_548 : mj_lk ip_L_law 548 = some (.if_icmp .eq 5, 3) := by decide +kernel
set_option maxRecDepth 100000 in
theorem lk_551 : mj_lk ip_L_law 551 = some (.iconst 0, 1) := by decide +kernel
set_option maxRecDepth 100000 in
theorem lk_552 : mj_lk ip_L_law 552 = some (.ireturn, 1) := by decide +kernel
set_option maxRecDepth 100000 in
theorem lk_553 : mj_lk ip_L_law 553 = some (.iload 5, 2) := by decide +kernel
set_option maxRecDepth 100000 in
theorem lk_555 : mj_lk ip_L_law 555 = some (.ifCond .ne 15, 3) := by decide +kernel
set_option maxRecDepth 100000 in
theorem lk_558 : mj_lk ip_L_law 558 = some (.aload_n 3, 1) := by decide +kernel
set_option maxRecDepth 100000 in
theorem lk_559 : mj_lk ip_L_law 559 = some (.iconst 0, 1) := by decide +kernel
set_option maxRecDepth 100000 in
theorem lk_560 : mj_lk ip_L_law 560 = some (.laload, 1) := by decide +kernel
set_option maxRecDepth 100000 in
theorem lk_561 : mj_lk ip_L_law 561 = some (.iload 6, 2) := by decide +kernel
set_option maxRecDepth 100000 in
theorem lk_563 : mj_lk ip_L_law 563 = some (.i2l, 1) := by decide +kernel
set_option maxRecDepth 100000 in
theorem lk_564 : mj_lk ip_L_law 564 = some (.lcmp, 1) := by decide +kernel
set_option maxRecDepth 100000 in
theorem lk_565 : mj_lk ip_L_law 565 = some (.ifCond .eq 5, 3) := by decide +kernel
set_option maxRecDepth 100000 in
theorem lk_568 : mj_lk ip_L_law 568 = some (.iconst 0, 1) := by decide +kernel
set_option maxRecDepth 100000 in
theorem lk_569 : mj_lk ip_L_law 569 = some (.ireturn, 1) := by decide +kernel
set_option maxRecDepth 100000 in
theorem lk_570 : mj_lk ip_L_law 570 = some (.goto 2705, 3) := by decide +kernel
set_option maxRecDepth 100000 in
theorem lk_573 : mj_lk ip_L_law 573 = some (.aload_n 1, 1) := by decide +kernel
set_option maxRecDepth 100000 in
theorem lk_574 : mj_lk ip_L_law 574 = some (.aload_n 0, 1) := by decide +kernel
set_option maxRecDepth 100000 in
theorem lk_575 : mj_lk ip_L_law 575 = some (.iload 4, 2) := by decide +kernel
set_option maxRecDepth 100000 in
theorem lk_577 : mj_lk ip_L_law 577 = some (.iconst 1, 1) := by decide +kernel
set_option maxRecDepth 100000 in
theorem lk_578 : mj_lk ip_L_law 578 = some (.iadd, 1) := by decide +kernel
set_option maxRecDepth 100000 in
theorem lk_579 : mj_lk ip_L_law 579 = some (.iaload, 1) := by decide +kernel
set_option maxRecDepth 100000 in
theorem lk_580 : mj_lk ip_L_law 580 = some (.aload_n 0, 1) := by decide +kernel
set_option maxRecDepth 100000 in
theorem lk_581 : mj_lk ip_L_law 581 = some (.iload 4, 2) := by decide +kernel
set_option maxRecDepth 100000 in
theorem lk_583 : mj_lk ip_L_law 583 = some (.iconst 2, 1) := by decide +kernel
set_option maxRecDepth 100000 in
theorem lk_584 : mj_lk ip_L_law 584 = some (.iadd, 1) := by decide +kernel
set_option maxRecDepth 100000 in
theorem lk_585 : mj_lk ip_L_law 585 = some (.iaload, 1) := by decide +kernel
set_option maxRecDepth 100000 in
theorem lk_586 : mj_lk ip_L_law 586 = some (.ifCond .eq 7, 3) := by decide +kernel
set_option maxRecDepth 100000 in
theorem lk_589 : mj_lk ip_L_law 589 = some (.iconst 1, 1) := by decide +kernel
set_option maxRecDepth 100000 in
theorem lk_590 : mj_lk ip_L_law 590 = some (.goto 4, 3) := by decide +kernel
set_option maxRecDepth 100000 in
theorem lk_593 : mj_lk ip_L_law 593 = some (.iconst 0, 1) := by decide +kernel
set_option maxRecDepth 100000 in
theorem lk_594 : mj_lk ip_L_law 594 = some (.aload_n 3, 1) := by decide +kernel
set_option maxRecDepth 100000 in
theorem lk_595 : mj_lk ip_L_law 595 = some (.invokestatic 186, 3) := by decide +kernel
set_option maxRecDepth 100000 in
theorem lk_598 : mj_lk ip_L_law 598 = some (.istore 5, 2) := by decide +kernel
set_option maxRecDepth 100000 in
theorem lk_600 : mj_lk ip_L_law 600 = some (.aload_n 2, 1) := by decide +kernel
set_option maxRecDepth 100000 in
theorem lk_601 : mj_lk ip_L_law 601 = some (.aload_n 0, 1) := by decide +kernel
set_option maxRecDepth 100000 in
theorem lk_602 : mj_lk ip_L_law 602 = some (.iload 4, 2) := by decide +kernel
set_option maxRecDepth 100000 in
theorem lk_604 : mj_lk ip_L_law 604 = some (.iconst 1, 1) := by decide +kernel
set_option maxRecDepth 100000 in
theorem lk_605 : mj_lk ip_L_law 605 = some (.iadd, 1) := by decide +kernel
set_option maxRecDepth 100000 in
theorem lk_606 : mj_lk ip_L_law 606 = some (.iaload, 1) := by decide +kernel
set_option maxRecDepth 100000 in
theorem lk_607 : mj_lk ip_L_law 607 = some (.aload_n 0, 1) := by decide +kernel
set_option maxRecDepth 100000 in
theorem lk_608 : mj_lk ip_L_law 608 = some (.iload 4, 2) := by decide +kernel
set_option maxRecDepth 100000 in
theorem lk_610 : mj_lk ip_L_law 610 = some (.iconst 2, 1) := by decide +kernel
set_option maxRecDepth 100000 in
theorem lk_611 : mj_lk ip_L_law 611 = some (.iadd, 1) := by decide +kernel
set_option maxRecDepth 100000 in
theorem lk_612 : mj_lk ip_L_law 612 = some (.iaload, 1) := by decide +kernel
set_option maxRecDepth 100000 in
theorem lk_613 : mj_lk ip_L_law 613 = some (.ifCond .eq 7, 3) := by decide +kernel
set_option maxRecDepth 100000 in
theorem lk_616 : mj_lk ip_L_law 616 = some (.iconst 1, 1) := by decide +kernel
set_option maxRecDepth 100000 in
theorem lk_617 : mj_lk ip_L_law 617 = some (.goto 4, 3) := by decide +kernel
set_option maxRecDepth 100000 in
theorem lk_620 : mj_lk ip_L_law 620 = some (.iconst 0, 1) := by decide +kernel
set_option maxRecDepth 100000 in
theorem lk_621 : mj_lk ip_L_law 621 = some (.invokevirtual 189, 3) := by decide +kernel
set_option maxRecDepth 100000 in
theorem lk_624 : mj_lk ip_L_law 624 = some (.istore 6, 2) := by decide +kernel
set_option maxRecDepth 100000 in
theorem lk_626 : mj_lk ip_L_law 626 = some (.aload_n 2, 1) := by decide +kernel
set_option maxRecDepth 100000 in
theorem lk_627 : mj_lk ip_L_law 627 = some (.invokevirtual 169, 3) := by decide +kernel
set_option maxRecDepth 100000 in
theorem lk_630 : mj_lk ip_L_law 630 = some (.iload 5, 2) := by decide +kernel
set_option maxRecDepth 100000 in
theorem lk_632 : mj_lk ip_L_law 632 = some (.if_icmp .eq 5, 3) := by decide +kernel
set_option maxRecDepth 100000 in
theorem lk_635 : mj_lk ip_L_law 635 = some (.iconst 0, 1) := by decide +kernel
set_option maxRecDepth 100000 in
theorem lk_636 : mj_lk ip_L_law 636 = some (.ireturn, 1) := by decide +kernel
set_option maxRecDepth 100000 in
theorem lk_637 : mj_lk ip_L_law 637 = some (.iload 5, 2) := by decide +kernel
set_option maxRecDepth 100000 in
theorem lk_639 : mj_lk ip_L_law 639 = some (.ifCond .ne 22, 3) := by decide +kernel
set_option maxRecDepth 100000 in
theorem lk_642 : mj_lk ip_L_law 642 = some (.aload_n 3, 1) := by decide +kernel
set_option maxRecDepth 100000 in
theorem lk_643 : mj_lk ip_L_law 643 = some (.iconst 0, 1) := by decide +kernel
set_option maxRecDepth 100000 in
theorem lk_644 : mj_lk ip_L_law 644 = some (.laload, 1) := by decide +kernel
set_option maxRecDepth 100000 in
theorem lk_645 : mj_lk ip_L_law 645 = some (.iload 6, 2) := by decide +kernel
set_option maxRecDepth 100000 in
theorem lk_647 : mj_lk ip_L_law 647 = some (.ifCond .eq 7, 3) := by decide +kernel
set_option maxRecDepth 100000 in
theorem lk_650 : mj_lk ip_L_law 650 = some (.lconst 1, 1) := by decide +kernel
set_option maxRecDepth 100000 in
theorem lk_651 : mj_lk ip_L_law 651 = some (.goto 4, 3) := by decide +kernel
set_option maxRecDepth 100000 in
theorem lk_654 : mj_lk ip_L_law 654 = some (.lconst 0, 1) := by decide +kernel
set_option maxRecDepth 100000 in
theorem lk_655 : mj_lk ip_L_law 655 = some (.lcmp, 1) := by decide +kernel
set_option maxRecDepth 100000 in
theorem lk_656 : mj_lk ip_L_law 656 = some (.ifCond .eq 5, 3) := by decide +kernel
set_option maxRecDepth 100000 in
theorem lk_659 : mj_lk ip_L_law 659 = some (.iconst 0, 1) := by decide +kernel
set_option maxRecDepth 100000 in
theorem lk_660 : mj_lk ip_L_law 660 = some (.ireturn, 1) := by decide +kernel
set_option maxRecDepth 100000 in
theorem lk_661 : mj_lk ip_L_law 661 = some (.goto 2614, 3) := by decide +kernel
set_option maxRecDepth 100000 in
theorem lk_664 : mj_lk ip_L_law 664 = some (.aload_n 1, 1) := by decide +kernel
set_option maxRecDepth 100000 in
theorem lk_665 : mj_lk ip_L_law 665 = some (.aload_n 0, 1) := by decide +kernel
set_option maxRecDepth 100000 in
theorem lk_666 : mj_lk ip_L_law 666 = some (.iload 4, 2) := by decide +kernel
set_option maxRecDepth 100000 in
theorem lk_668 : mj_lk ip_L_law 668 = some (.iconst 1, 1) := by decide +kernel
set_option maxRecDepth 100000 in
theorem lk_669 : mj_lk ip_L_law 669 = some (.iadd, 1) := by decide +kernel
set_option maxRecDepth 100000 in
theorem lk_670 : mj_lk ip_L_law 670 = some (.iaload, 1) := by decide +kernel
set_option maxRecDepth 100000 in
theorem lk_671 : mj_lk ip_L_law 671 = some (.aload_n 3, 1) := by decide +kernel
set_option maxRecDepth 100000 in
theorem lk_672 : mj_lk ip_L_law 672 = some (.invokestatic 190, 3) := by decide +kernel
set_option maxRecDepth 100000 in
theorem lk_675 : mj_lk ip_L_law 675 = some (.istore 5, 2) := by decide +kernel
set_option maxRecDepth 100000 in
theorem lk_677 : mj_lk ip_L_law 677 = some (.aload_n 2, 1) := by decide +kernel
set_option maxRecDepth 100000 in
theorem lk_678 : mj_lk ip_L_law 678 = some (.aload_n 0, 1) := by decide +kernel
set_option maxRecDepth 100000 in
theorem lk_679 : mj_lk ip_L_law 679 = some (.iload 4, 2) := by decide +kernel
set_option maxRecDepth 100000 in
theorem lk_681 : mj_lk ip_L_law 681 = some (.iconst 1, 1) := by decide +kernel
set_option maxRecDepth 100000 in
theorem lk_682 : mj_lk ip_L_law 682 = some (.iadd, 1) := by decide +kernel
set_option maxRecDepth 100000 in
theorem lk_683 : mj_lk ip_L_law 683 = some (.iaload, 1) := by decide +kernel
set_option maxRecDepth 100000 in
theorem lk_684 : mj_lk ip_L_law 684 = some (.invokevirtual 192, 3) := by decide +kernel
set_option maxRecDepth 100000 in
theorem lk_687 : mj_lk ip_L_law 687 = some (.istore 6, 2) := by decide +kernel
set_option maxRecDepth 100000 in
theorem lk_689 : mj_lk ip_L_law 689 = some (.aload_n 2, 1) := by decide +kernel
set_option maxRecDepth 100000 in
theorem lk_690 : mj_lk ip_L_law 690 = some (.invokevirtual 169, 3) := by decide +kernel
set_option maxRecDepth 100000 in
theorem lk_693 : mj_lk ip_L_law 693 = some (.iload 5, 2) := by decide +kernel
set_option maxRecDepth 100000 in
theorem lk_695 : mj_lk ip_L_law 695 = some (.if_icmp .eq 5, 3) := by decide +kernel
set_option maxRecDepth 100000 in
theorem lk_698 : mj_lk ip_L_law 698 = some (.iconst 0, 1) := by decide +kernel
set_option maxRecDepth 100000 in
theorem lk_699 : mj_lk ip_L_law 699 = some (.ireturn, 1) := by decide +kernel
set_option maxRecDepth 100000 in
theorem lk_700 : mj_lk ip_L_law 700 = some (.iload 5, 2) := by decide +kernel
set_option maxRecDepth 100000 in
theorem lk_702 : mj_lk ip_L_law 702 = some (.ifCond .ne 15, 3) := by decide +kernel
set_option maxRecDepth 100000 in
theorem lk_705 : mj_lk ip_L_law 705 = some (.aload_n 3, 1) := by decide +kernel
set_option maxRecDepth 100000 in
theorem lk_706 : mj_lk ip_L_law 706 = some (.iconst 0, 1) := by decide +kernel
set_option maxRecDepth 100000 in
theorem lk_707 : mj_lk ip_L_law 707 = some (.laload, 1) := by decide +kernel
set_option maxRecDepth 100000 in
theorem lk_708 : mj_lk ip_L_law 708 = some (.iload 6, 2) := by decide +kernel
set_option maxRecDepth 100000 in
theorem lk_710 : mj_lk ip_L_law 710 = some (.i2l, 1) := by decide +kernel
set_option maxRecDepth 100000 in
theorem lk_711 : mj_lk ip_L_law 711 = some (.lcmp, 1) := by decide +kernel
set_option maxRecDepth 100000 in
theorem lk_712 : mj_lk ip_L_law 712 = some (.ifCond .eq 5, 3) := by decide +kernel
set_option maxRecDepth 100000 in
theorem lk_715 : mj_lk ip_L_law 715 = some (.iconst 0, 1) := by decide +kernel
set_option maxRecDepth 100000 in
theorem lk_716 : mj_lk ip_L_law 716 = some (.ireturn, 1) := by decide +kernel
set_option maxRecDepth 100000 in
theorem lk_717 : mj_lk ip_L_law 717 = some (.goto 2558, 3) := by decide +kernel
set_option maxRecDepth 100000 in
theorem lk_720 : mj_lk ip_L_law 720 = some (.aload_n 1, 1) := by decide +kernel
set_option maxRecDepth 100000 in
theorem lk_721 : mj_lk ip_L_law 721 = some (.aload_n 0, 1) := by decide +kernel
set_option maxRecDepth 100000 in
theorem lk_722 : mj_lk ip_L_law 722 = some (.iload 4, 2) := by decide +kernel
set_option maxRecDepth 100000 in
theorem lk_724 : mj_lk ip_L_law 724 = some (.iconst 1, 1) := by decide +kernel
set_option maxRecDepth 100000 in
theorem lk_725 : mj_lk ip_L_law 725 = some (.iadd, 1) := by decide +kernel
set_option maxRecDepth 100000 in
theorem lk_726 : mj_lk ip_L_law 726 = some (.iaload, 1) := by decide +kernel
set_option maxRecDepth 100000 in
theorem lk_727 : mj_lk ip_L_law 727 = some (.aload_n 0, 1) := by decide +kernel
set_option maxRecDepth 100000 in
theorem lk_728 : mj_lk ip_L_law 728 = some (.iload 4, 2) := by decide +kernel
set_option maxRecDepth 100000 in
theorem lk_730 : mj_lk ip_L_law 730 = some (.iconst 2, 1) := by decide +kernel
set_option maxRecDepth 100000 in
theorem lk_731 : mj_lk ip_L_law 731 = some (.iadd, 1) := by decide +kernel
set_option maxRecDepth 100000 in
theorem lk_732 : mj_lk ip_L_law 732 = some (.iaload, 1) := by decide +kernel
set_option maxRecDepth 100000 in
theorem lk_733 : mj_lk ip_L_law 733 = some (.aload_n 3, 1) := by decide +kernel
set_option maxRecDepth 100000 in
theorem lk_734 : mj_lk ip_L_law 734 = some (.invokestatic 193, 3) := by decide +kernel
set_option maxRecDepth 100000 in
theorem lk_737 : mj_lk ip_L_law 737 = some (.istore 5, 2) := by decide +kernel
set_option maxRecDepth 100000 in
theorem lk_739 : mj_lk ip_L_law 739 = some (.aload_n 2, 1) := by decide +kernel
set_option maxRecDepth 100000 in
theorem lk_740 : mj_lk ip_L_law 740 = some (.aload_n 0, 1) := by decide +kernel
set_option maxRecDepth 100000 in
theorem lk_741 : mj_lk ip_L_law 741 = some (.iload 4, 2) := by decide +kernel
set_option maxRecDepth 100000 in
theorem lk_743 : mj_lk ip_L_law 743 = some (.iconst 1, 1) := by decide +kernel
set_option maxRecDepth 100000 in
theorem lk_744 : mj_lk ip_L_law 744 = some (.iadd, 1) := by decide +kernel
set_option maxRecDepth 100000 in
theorem lk_745 : mj_lk ip_L_law 745 = some (.iaload, 1) := by decide +kernel
set_option maxRecDepth 100000 in
theorem lk_746 : mj_lk ip_L_law 746 = some (.aload_n 0, 1) := by decide +kernel
set_option maxRecDepth 100000 in
theorem lk_747 : mj_lk ip_L_law 747 = some (.iload 4, 2) := by decide +kernel
set_option maxRecDepth 100000 in
theorem lk_749 : mj_lk ip_L_law 749 = some (.iconst 2, 1) := by decide +kernel
set_option maxRecDepth 100000 in
theorem lk_750 : mj_lk ip_L_law 750 = some (.iadd, 1) := by decide +kernel
set_option maxRecDepth 100000 in
theorem lk_751 : mj_lk ip_L_law 751 = some (.iaload, 1) := by decide +kernel
set_option maxRecDepth 100000 in
theorem lk_752 : mj_lk ip_L_law 752 = some (.invokevirtual 195, 3) := by decide +kernel
set_option maxRecDepth 100000 in
theorem lk_755 : mj_lk ip_L_law 755 = some (.istore 6, 2) := by decide +kernel
set_option maxRecDepth 100000 in
theorem lk_757 : mj_lk ip_L_law 757 = some (.aload_n 2, 1) := by decide +kernel
set_option maxRecDepth 100000 in
theorem lk_758 : mj_lk ip_L_law 758 = some (.invokevirtual 169, 3) := by decide +kernel
set_option maxRecDepth 100000 in
theorem lk_761 : mj_lk ip_L_law 761 = some (.iload 5, 2) := by decide +kernel
set_option maxRecDepth 100000 in
theorem lk_763 : mj_lk ip_L_law 763 = some (.if_icmp .eq 5, 3) := by decide +kernel
set_option maxRecDepth 100000 in
theorem lk_766 : mj_lk ip_L_law 766 = some (.iconst 0, 1) := by decide +kernel
set_option maxRecDepth 100000 in
theorem lk_767 : mj_lk ip_L_law 767 = some (.ireturn, 1) := by decide +kernel
set_option maxRecDepth 100000 in
theorem lk_768 : mj_lk ip_L_law 768 = some (.iload 5, 2) := by decide +kernel
set_option maxRecDepth 100000 in
theorem lk_770 : mj_lk ip_L_law 770 = some (.ifCond .ne 15, 3) := by decide +kernel
set_option maxRecDepth 100000 in
theorem lk_773 : mj_lk ip_L_law 773 = some (.aload_n 3, 1) := by decide +kernel
set_option maxRecDepth 100000 in
theorem lk_774 : mj_lk ip_L_law 774 = some (.iconst 0, 1) := by decide +kernel
set_option maxRecDepth 100000 in
theorem lk_775 : mj_lk ip_L_law 775 = some (.laload, 1) := by decide +kernel
set_option maxRecDepth 100000 in
theorem lk_776 : mj_lk ip_L_law 776 = some (.iload 6, 2) := by decide +kernel
set_option maxRecDepth 100000 in
theorem lk_778 : mj_lk ip_L_law 778 = some (.i2l, 1) := by decide +kernel
set_option maxRecDepth 100000 in
theorem lk_779 : mj_lk ip_L_law 779 = some (.lcmp, 1) := by decide +kernel
set_option maxRecDepth 100000 in
theorem lk_780 : mj_lk ip_L_law 780 = some (.ifCond .eq 5, 3) := by decide +kernel
set_option maxRecDepth 100000 in
theorem lk_783 : mj_lk ip_L_law 783 = some (.iconst 0, 1) := by decide +kernel
set_option maxRecDepth 100000 in
theorem lk_784 : mj_lk ip_L_law 784 = some (.ireturn, 1) := by decide +kernel
set_option maxRecDepth 100000 in
theorem lk_785 : mj_lk ip_L_law 785 = some (.goto 2490, 3) := by decide +kernel
set_option maxRecDepth 100000 in
theorem lk_788 : mj_lk ip_L_law 788 = some (.aload_n 1, 1) := by decide +kernel
set_option maxRecDepth 100000 in
theorem lk_789 : mj_lk ip_L_law 789 = some (.aload_n 0, 1) := by decide +kernel
set_option maxRecDepth 100000 in
theorem lk_790 : mj_lk ip_L_law 790 = some (.iload 4, 2) := by decide +kernel
set_option maxRecDepth 100000 in
theorem lk_792 : mj_lk ip_L_law 792 = some (.iconst 1, 1) := by decide +kernel
set_option maxRecDepth 100000 in
theorem lk_793 : mj_lk ip_L_law 793 = some (.iadd, 1) := by decide +kernel
set_option maxRecDepth 100000 in
theorem lk_794 : mj_lk ip_L_law 794 = some (.iaload, 1) := by decide +kernel
set_option maxRecDepth 100000 in
theorem lk_795 : mj_lk ip_L_law 795 = some (.aload_n 0, 1) := by decide +kernel
set_option maxRecDepth 100000 in
theorem lk_796 : mj_lk ip_L_law 796 = some (.iload 4, 2) := by decide +kernel
set_option maxRecDepth 100000 in
theorem lk_798 : mj_lk ip_L_law 798 = some (.iconst 2, 1) := by decide +kernel
set_option maxRecDepth 100000 in
theorem lk_799 : mj_lk ip_L_law 799 = some (.iadd, 1) := by decide +kernel
set_option maxRecDepth 100000 in
theorem lk_800 : mj_lk ip_L_law 800 = some (.iaload, 1) := by decide +kernel
set_option maxRecDepth 100000 in
theorem lk_801 : mj_lk ip_L_law 801 = some (.aload_n 0, 1) := by decide +kernel
set_option maxRecDepth 100000 in
theorem lk_802 : mj_lk ip_L_law 802 = some (.iload 4, 2) := by decide +kernel
set_option maxRecDepth 100000 in
theorem lk_804 : mj_lk ip_L_law 804 = some (.iconst 3, 1) := by decide +kernel
set_option maxRecDepth 100000 in
theorem lk_805 : mj_lk ip_L_law 805 = some (.iadd, 1) := by decide +kernel
set_option maxRecDepth 100000 in
theorem lk_806 : mj_lk ip_L_law 806 = some (.iaload, 1) := by decide +kernel
set_option maxRecDepth 100000 in
theorem lk_807 : mj_lk ip_L_law 807 = some (.aload_n 0, 1) := by decide +kernel
set_option maxRecDepth 100000 in
theorem lk_808 : mj_lk ip_L_law 808 = some (.iload 4, 2) := by decide +kernel
set_option maxRecDepth 100000 in
theorem lk_810 : mj_lk ip_L_law 810 = some (.iconst 4, 1) := by decide +kernel
set_option maxRecDepth 100000 in
theorem lk_811 : mj_lk ip_L_law 811 = some (.iadd, 1) := by decide +kernel
set_option maxRecDepth 100000 in
theorem lk_812 : mj_lk ip_L_law 812 = some (.iaload, 1) := by decide +kernel
set_option maxRecDepth 100000 in
theorem lk_813 : mj_lk ip_L_law 813 = some (.invokestatic 196, 3) := by decide +kernel
set_option maxRecDepth 100000 in
theorem lk_816 : mj_lk ip_L_law 816 = some (.istore 5, 2) := by decide +kernel
set_option maxRecDepth 100000 in
theorem lk_818 : mj_lk ip_L_law 818 = some (.aload_n 2, 1) := by decide +kernel
set_option maxRecDepth 100000 in
theorem lk_819 : mj_lk ip_L_law 819 = some (.aload_n 0, 1) := by decide +kernel
set_option maxRecDepth 100000 in
theorem lk_820 : mj_lk ip_L_law 820 = some (.iload 4, 2) := by decide +kernel
set_option maxRecDepth 100000 in
theorem lk_822 : mj_lk ip_L_law 822 = some (.iconst 1, 1) := by decide +kernel
set_option maxRecDepth 100000 in
theorem lk_823 : mj_lk ip_L_law 823 = some (.iadd, 1) := by decide +kernel
set_option maxRecDepth 100000 in
theorem lk_824 : mj_lk ip_L_law 824 = some (.iaload, 1) := by decide +kernel
set_option maxRecDepth 100000 in
theorem lk_825 : mj_lk ip_L_law 825 = some (.aload_n 0, 1) := by decide +kernel
set_option maxRecDepth 100000 in
theorem lk_826 : mj_lk ip_L_law 826 = some (.iload 4, 2) := by decide +kernel
set_option maxRecDepth 100000 in
theorem lk_828 : mj_lk ip_L_law 828 = some (.iconst 2, 1) := by decide +kernel
set_option maxRecDepth 100000 in
theorem lk_829 : mj_lk ip_L_law 829 = some (.iadd, 1) := by decide +kernel
set_option maxRecDepth 100000 in
theorem lk_830 : mj_lk ip_L_law 830 = some (.iaload, 1) := by decide +kernel
set_option maxRecDepth 100000 in
theorem lk_831 : mj_lk ip_L_law 831 = some (.aload_n 0, 1) := by decide +kernel
set_option maxRecDepth 100000 in
theorem lk_832 : mj_lk ip_L_law 832 = some (.iload 4, 2) := by decide +kernel
set_option maxRecDepth 100000 in
theorem lk_834 : mj_lk ip_L_law 834 = some (.iconst 3, 1) := by decide +kernel
set_option maxRecDepth 100000 in
theorem lk_835 : mj_lk ip_L_law 835 = some (.iadd, 1) := by decide +kernel
set_option maxRecDepth 100000 in
theorem lk_836 : mj_lk ip_L_law 836 = some (.iaload, 1) := by decide +kernel
set_option maxRecDepth 100000 in
theorem lk_837 : mj_lk ip_L_law 837 = some (.aload_n 0, 1) := by decide +kernel
set_option maxRecDepth 100000 in
theorem lk_838 : mj_lk ip_L_law 838 = some (.iload 4, 2) := by decide +kernel
set_option maxRecDepth 100000 in
theorem lk_840 : mj_lk ip_L_law 840 = some (.iconst 4, 1) := by decide +kernel
set_option maxRecDepth 100000 in
theorem lk_841 : mj_lk ip_L_law 841 = some (.iadd, 1) := by decide +kernel
set_option maxRecDepth 100000 in
theorem lk_842 : mj_lk ip_L_law 842 = some (.iaload, 1) := by decide +kernel
set_option maxRecDepth 100000 in
theorem lk_843 : mj_lk ip_L_law 843 = some (.invokevirtual 199, 3) := by decide +kernel
set_option maxRecDepth 100000 in
theorem lk_846 : mj_lk ip_L_law 846 = some (.aload_n 2, 1) := by decide +kernel
set_option maxRecDepth 100000 in
theorem lk_847 : mj_lk ip_L_law 847 = some (.invokevirtual 169, 3) := by decide +kernel
set_option maxRecDepth 100000 in
theorem lk_850 : mj_lk ip_L_law 850 = some (.iload 5, 2) := by decide +kernel
set_option maxRecDepth 100000 in
theorem lk_852 : mj_lk ip_L_law 852 = some (.if_icmp .eq 5, 3) := by decide +kernel
set_option maxRecDepth 100000 in
theorem lk_855 : mj_lk ip_L_law 855 = some (.iconst 0, 1) := by decide +kernel
set_option maxRecDepth 100000 in
theorem lk_856 : mj_lk ip_L_law 856 = some (.ireturn, 1) := by decide +kernel
set_option maxRecDepth 100000 in
theorem lk_857 : mj_lk ip_L_law 857 = some (.goto 2418, 3) := by decide +kernel
set_option maxRecDepth 100000 in
theorem lk_860 : mj_lk ip_L_law 860 = some (.aload_n 1, 1) := by decide +kernel
set_option maxRecDepth 100000 in
theorem lk_861 : mj_lk ip_L_law 861 = some (.aload_n 0, 1) := by decide +kernel
set_option maxRecDepth 100000 in
theorem lk_862 : mj_lk ip_L_law 862 = some (.iload 4, 2) := by decide +kernel
set_option maxRecDepth 100000 in
theorem lk_864 : mj_lk ip_L_law 864 = some (.iconst 1, 1) := by decide +kernel
set_option maxRecDepth 100000 in
theorem lk_865 : mj_lk ip_L_law 865 = some (.iadd, 1) := by decide +kernel
set_option maxRecDepth 100000 in
theorem lk_866 : mj_lk ip_L_law 866 = some (.iaload, 1) := by decide +kernel
set_option maxRecDepth 100000 in
theorem lk_867 : mj_lk ip_L_law 867 = some (.aload_n 0, 1) := by decide +kernel
set_option maxRecDepth 100000 in
theorem lk_868 : mj_lk ip_L_law 868 = some (.iload 4, 2) := by decide +kernel
set_option maxRecDepth 100000 in
theorem lk_870 : mj_lk ip_L_law 870 = some (.iconst 2, 1) := by decide +kernel
set_option maxRecDepth 100000 in
theorem lk_871 : mj_lk ip_L_law 871 = some (.iadd, 1) := by decide +kernel
set_option maxRecDepth 100000 in
theorem lk_872 : mj_lk ip_L_law 872 = some (.iaload, 1) := by decide +kernel
set_option maxRecDepth 100000 in
theorem lk_873 : mj_lk ip_L_law 873 = some (.aload_n 0, 1) := by decide +kernel
set_option maxRecDepth 100000 in
theorem lk_874 : mj_lk ip_L_law 874 = some (.iload 4, 2) := by decide +kernel
set_option maxRecDepth 100000 in
theorem lk_876 : mj_lk ip_L_law 876 = some (.iconst 3, 1) := by decide +kernel
set_option maxRecDepth 100000 in
theorem lk_877 : mj_lk ip_L_law 877 = some (.iadd, 1) := by decide +kernel
set_option maxRecDepth 100000 in
theorem lk_878 : mj_lk ip_L_law 878 = some (.iaload, 1) := by decide +kernel
set_option maxRecDepth 100000 in
theorem lk_879 : mj_lk ip_L_law 879 = some (.aload_n 0, 1) := by decide +kernel
set_option maxRecDepth 100000 in
theorem lk_880 : mj_lk ip_L_law 880 = some (.iload 4, 2) := by decide +kernel
set_option maxRecDepth 100000 in
theorem lk_882 : mj_lk ip_L_law 882 = some (.iconst 4, 1) := by decide +kernel
set_option maxRecDepth 100000 in
theorem lk_883 : mj_lk ip_L_law 883 = some (.iadd, 1) := by decide +kernel
set_option maxRecDepth 100000 in
theorem lk_884 : mj_lk ip_L_law 884 = some (.iaload, 1) := by decide +kernel
set_option maxRecDepth 100000 in
theorem lk_885 : mj_lk ip_L_law 885 = some (.aload_n 0, 1) := by decide +kernel
set_option maxRecDepth 100000 in
theorem lk_886 : mj_lk ip_L_law 886 = some (.iload 4, 2) := by decide +kernel
set_option maxRecDepth 100000 in
theorem lk_888 : mj_lk ip_L_law 888 = some (.iconst 5, 1) := by decide +kernel
set_option maxRecDepth 100000 in
theorem lk_889 : mj_lk ip_L_law 889 = some (.iadd, 1) := by decide +kernel
set_option maxRecDepth 100000 in
theorem lk_890 : mj_lk ip_L_law 890 = some (.iaload, 1) := by decide +kernel
set_option maxRecDepth 100000 in
theorem lk_891 : mj_lk ip_L_law 891 = some (.invokestatic 200, 3) := by decide +kernel
set_option maxRecDepth 100000 in
theorem lk_894 : mj_lk ip_L_law 894 = some (.istore 5, 2) := by decide +kernel
set_option maxRecDepth 100000 in
theorem lk_896 : mj_lk ip_L_law 896 = some (.aload_n 2, 1) := by decide +kernel
set_option maxRecDepth 100000 in
theorem lk_897 : mj_lk ip_L_law 897 = some (.aload_n 0, 1) := by decide +kernel
set_option maxRecDepth 100000 in
theorem lk_898 : mj_lk ip_L_law 898 = some (.iload 4, 2) := by decide +kernel
set_option maxRecDepth 100000 in
theorem lk_900 : mj_lk ip_L_law 900 = some (.iconst 1, 1) := by decide +kernel
set_option maxRecDepth 100000 in
theorem lk_901 : mj_lk ip_L_law 901 = some (.iadd, 1) := by decide +kernel
set_option maxRecDepth 100000 in
theorem lk_902 : mj_lk ip_L_law 902 = some (.iaload, 1) := by decide +kernel
set_option maxRecDepth 100000 in
theorem lk_903 : mj_lk ip_L_law 903 = some (.aload_n 0, 1) := by decide +kernel
set_option maxRecDepth 100000 in
theorem lk_904 : mj_lk ip_L_law 904 = some (.iload 4, 2) := by decide +kernel
set_option maxRecDepth 100000 in
theorem lk_906 : mj_lk ip_L_law 906 = some (.iconst 2, 1) := by decide +kernel
set_option maxRecDepth 100000 in
theorem lk_907 : mj_lk ip_L_law 907 = some (.iadd, 1) := by decide +kernel
set_option maxRecDepth 100000 in
theorem lk_908 : mj_lk ip_L_law 908 = some (.iaload, 1) := by decide +kernel
set_option maxRecDepth 100000 in
theorem lk_909 : mj_lk ip_L_law 909 = some (.aload_n 0, 1) := by decide +kernel
set_option maxRecDepth 100000 in
theorem lk_910 : mj_lk ip_L_law 910 = some (.iload 4, 2) := by decide +kernel
set_option maxRecDepth 100000 in
theorem lk_912 : mj_lk ip_L_law 912 = some (.iconst 3, 1) := by decide +kernel
set_option maxRecDepth 100000 in
theorem lk_913 : mj_lk ip_L_law 913 = some (.iadd, 1) := by decide +kernel
set_option maxRecDepth 100000 in
theorem lk_914 : mj_lk ip_L_law 914 = some (.iaload, 1) := by decide +kernel
set_option maxRecDepth 100000 in
theorem lk_915 : mj_lk ip_L_law 915 = some (.aload_n 0, 1) := by decide +kernel
set_option maxRecDepth 100000 in
theorem lk_916 : mj_lk ip_L_law 916 = some (.iload 4, 2) := by decide +kernel
set_option maxRecDepth 100000 in
theorem lk_918 : mj_lk ip_L_law 918 = some (.iconst 4, 1) := by decide +kernel
set_option maxRecDepth 100000 in
theorem lk_919 : mj_lk ip_L_law 919 = some (.iadd, 1) := by decide +kernel
set_option maxRecDepth 100000 in
theorem lk_920 : mj_lk ip_L_law 920 = some (.iaload, 1) := by decide +kernel
set_option maxRecDepth 100000 in
theorem lk_921 : mj_lk ip_L_law 921 = some (.aload_n 0, 1) := by decide +kernel
set_option maxRecDepth 100000 in
theorem lk_922 : mj_lk ip_L_law 922 = some (.iload 4, 2) := by decide +kernel
set_option maxRecDepth 100000 in
theorem lk_924 : mj_lk ip_L_law 924 = some (.iconst 5, 1) := by decide +kernel
set_option maxRecDepth 100000 in
theorem lk_925 : mj_lk ip_L_law 925 = some (.iadd, 1) := by decide +kernel
set_option maxRecDepth 100000 in
theorem lk_926 : mj_lk ip_L_law 926 = some (.iaload, 1) := by decide +kernel
set_option maxRecDepth 100000 in
theorem lk_927 : mj_lk ip_L_law 927 = some (.invokevirtual 203, 3) := by decide +kernel
set_option maxRecDepth 100000 in
theorem lk_930 : mj_lk ip_L_law 930 = some (.aload_n 2, 1) := by decide +kernel
set_option maxRecDepth 100000 in
theorem lk_931 : mj_lk ip_L_law 931 = some (.invokevirtual 169, 3) := by decide +kernel
set_option maxRecDepth 100000 in
theorem lk_934 : mj_lk ip_L_law 934 = some (.iload 5, 2) := by decide +kernel
set_option maxRecDepth 100000 in
theorem lk_936 : mj_lk ip_L_law 936 = some (.if_icmp .eq 5, 3) := by decide +kernel
set_option maxRecDepth 100000 in
theorem lk_939 : mj_lk ip_L_law 939 = some (.iconst 0, 1) := by decide +kernel
set_option maxRecDepth 100000 in
theorem lk_940 : mj_lk ip_L_law 940 = some (.ireturn, 1) := by decide +kernel
set_option maxRecDepth 100000 in
theorem lk_941 : mj_lk ip_L_law 941 = some (.goto 2334, 3) := by decide +kernel
set_option maxRecDepth 100000 in
theorem lk_944 : mj_lk ip_L_law 944 = some (.aload_n 1, 1) := by decide +kernel
set_option maxRecDepth 100000 in
theorem lk_945 : mj_lk ip_L_law 945 = some (.aload_n 0, 1) := by decide +kernel
set_option maxRecDepth 100000 in
theorem lk_946 : mj_lk ip_L_law 946 = some (.iload 4, 2) := by decide +kernel
set_option maxRecDepth 100000 in
theorem lk_948 : mj_lk ip_L_law 948 = some (.iconst 1, 1) := by decide +kernel
set_option maxRecDepth 100000 in
theorem lk_949 : mj_lk ip_L_law 949 = some (.iadd, 1) := by decide +kernel
set_option maxRecDepth 100000 in
theorem lk_950 : mj_lk ip_L_law 950 = some (.iaload, 1) := by decide +kernel
set_option maxRecDepth 100000 in
theorem lk_951 : mj_lk ip_L_law 951 = some (.aload_n 0, 1) := by decide +kernel
set_option maxRecDepth 100000 in
theorem lk_952 : mj_lk ip_L_law 952 = some (.iload 4, 2) := by decide +kernel
set_option maxRecDepth 100000 in
theorem lk_954 : mj_lk ip_L_law 954 = some (.iconst 2, 1) := by decide +kernel
set_option maxRecDepth 100000 in
theorem lk_955 : mj_lk ip_L_law 955 = some (.iadd, 1) := by decide +kernel
set_option maxRecDepth 100000 in
theorem lk_956 : mj_lk ip_L_law 956 = some (.iaload, 1) := by decide +kernel
set_option maxRecDepth 100000 in
theorem lk_957 : mj_lk ip_L_law 957 = some (.aload_n 0, 1) := by decide +kernel
set_option maxRecDepth 100000 in
theorem lk_958 : mj_lk ip_L_law 958 = some (.iload 4, 2) := by decide +kernel
set_option maxRecDepth 100000 in
theorem lk_960 : mj_lk ip_L_law 960 = some (.iconst 3, 1) := by decide +kernel
set_option maxRecDepth 100000 in
theorem lk_961 : mj_lk ip_L_law 961 = some (.iadd, 1) := by decide +kernel
set_option maxRecDepth 100000 in
theorem lk_962 : mj_lk ip_L_law 962 = some (.iaload, 1) := by decide +kernel
set_option maxRecDepth 100000 in
theorem lk_963 : mj_lk ip_L_law 963 = some (.aload_n 3, 1) := by decide +kernel
set_option maxRecDepth 100000 in
theorem lk_964 : mj_lk ip_L_law 964 = some (.invokestatic 204, 3) := by decide +kernel
set_option maxRecDepth 100000 in
theorem lk_967 : mj_lk ip_L_law 967 = some (.istore 5, 2) := by decide +kernel
set_option maxRecDepth 100000 in
theorem lk_969 : mj_lk ip_L_law 969 = some (.aload_n 2, 1) := by decide +kernel
set_option maxRecDepth 100000 in
theorem lk_970 : mj_lk ip_L_law 970 = some (.aload_n 0, 1) := by decide +kernel
set_option maxRecDepth 100000 in
theorem lk_971 : mj_lk ip_L_law 971 = some (.iload 4, 2) := by decide +kernel
set_option maxRecDepth 100000 in
theorem lk_973 : mj_lk ip_L_law 973 = some (.iconst 1, 1) := by decide +kernel
set_option maxRecDepth 100000 in
theorem lk_974 : mj_lk ip_L_law 974 = some (.iadd, 1) := by decide +kernel
set_option maxRecDepth 100000 in
theorem lk_975 : mj_lk ip_L_law 975 = some (.iaload, 1) := by decide +kernel
set_option maxRecDepth 100000 in
theorem lk_976 : mj_lk ip_L_law 976 = some (.aload_n 0, 1) := by decide +kernel
set_option maxRecDepth 100000 in
theorem lk_977 : mj_lk ip_L_law 977 = some (.iload 4, 2) := by decide +kernel
set_option maxRecDepth 100000 in
theorem lk_979 : mj_lk ip_L_law 979 = some (.iconst 2, 1) := by decide +kernel
set_option maxRecDepth 100000 in
theorem lk_980 : mj_lk ip_L_law 980 = some (.iadd, 1) := by decide +kernel
set_option maxRecDepth 100000 in
theorem lk_981 : mj_lk ip_L_law 981 = some (.iaload, 1) := by decide +kernel
set_option maxRecDepth 100000 in
theorem lk_982 : mj_lk ip_L_law 982 = some (.aload_n 0, 1) := by decide +kernel
set_option maxRecDepth 100000 in
theorem lk_983 : mj_lk ip_L_law 983 = some (.iload 4, 2) := by decide +kernel
set_option maxRecDepth 100000 in
theorem lk_985 : mj_lk ip_L_law 985 = some (.iconst 3, 1) := by decide +kernel
set_option maxRecDepth 100000 in
theorem lk_986 : mj_lk ip_L_law 986 = some (.iadd, 1) := by decide +kernel
set_option maxRecDepth 100000 in
theorem lk_987 : mj_lk ip_L_law 987 = some (.iaload, 1) := by decide +kernel
set_option maxRecDepth 100000 in
theorem lk_988 : mj_lk ip_L_law 988 = some (.invokevirtual 207, 3) := by decide +kernel
set_option maxRecDepth 100000 in
theorem lk_991 : mj_lk ip_L_law 991 = some (.istore 6, 2) := by decide +kernel
set_option maxRecDepth 100000 in
theorem lk_993 : mj_lk ip_L_law 993 = some (.aload_n 2, 1) := by decide +kernel
set_option maxRecDepth 100000 in
theorem lk_994 : mj_lk ip_L_law 994 = some (.invokevirtual 169, 3) := by decide +kernel
set_option maxRecDepth 100000 in
theorem lk_997 : mj_lk ip_L_law 997 = some (.iload 5, 2) := by decide +kernel
set_option maxRecDepth 100000 in
theorem lk_999 : mj_lk ip_L_law 999 = some (.if_icmp .eq 5, 3) := by decide +kernel
set_option maxRecDepth 100000 in
theorem lk_1002 : mj_lk ip_L_law 1002 = some (.iconst 0, 1) := by decide +kernel
set_option maxRecDepth 100000 in
theorem lk_1003 : mj_lk ip_L_law 1003 = some (.ireturn, 1) := by decide +kernel
set_option maxRecDepth 100000 in
theorem lk_1004 : mj_lk ip_L_law 1004 = some (.iload 5, 2) := by decide +kernel
set_option maxRecDepth 100000 in
theorem lk_1006 : mj_lk ip_L_law 1006 = some (.ifCond .ne 15, 3) := by decide +kernel
set_option maxRecDepth 100000 in
theorem lk_1009 : mj_lk ip_L_law 1009 = some (.aload_n 3, 1) := by decide +kernel
set_option maxRecDepth 100000 in
theorem lk_1010 : mj_lk ip_L_law 1010 = some (.iconst 0, 1) := by decide +kernel
set_option maxRecDepth 100000 in
theorem lk_1011 : mj_lk ip_L_law 1011 = some (.laload, 1) := by decide +kernel
set_option maxRecDepth 100000 in
theorem lk_1012 : mj_lk ip_L_law 1012 = some (.iload 6, 2) := by decide +kernel
set_option maxRecDepth 100000 in
theorem lk_1014 : mj_lk ip_L_law 1014 = some (.i2l, 1) := by decide +kernel
set_option maxRecDepth 100000 in
theorem lk_1015 : mj_lk ip_L_law 1015 = some (.lcmp, 1) := by decide +kernel
set_option maxRecDepth 100000 in
theorem lk_1016 : mj_lk ip_L_law 1016 = some (.ifCond .eq 5, 3) := by decide +kernel
set_option maxRecDepth 100000 in
theorem lk_1019 : mj_lk ip_L_law 1019 = some (.iconst 0, 1) := by decide +kernel
set_option maxRecDepth 100000 in
theorem lk_1020 : mj_lk ip_L_law 1020 = some (.ireturn, 1) := by decide +kernel
set_option maxRecDepth 100000 in
theorem lk_1021 : mj_lk ip_L_law 1021 = some (.goto 2254, 3) := by decide +kernel
set_option maxRecDepth 100000 in
theorem lk_1024 : mj_lk ip_L_law 1024 = some (.aload_n 1, 1) := by decide +kernel
set_option maxRecDepth 100000 in
theorem lk_1025 : mj_lk ip_L_law 1025 = some (.aload_n 0, 1) := by decide +kernel
set_option maxRecDepth 100000 in
theorem lk_1026 : mj_lk ip_L_law 1026 = some (.iload 4, 2) := by decide +kernel
set_option maxRecDepth 100000 in
theorem lk_1028 : mj_lk ip_L_law 1028 = some (.iconst 1, 1) := by decide +kernel
set_option maxRecDepth 100000 in
theorem lk_1029 : mj_lk ip_L_law 1029 = some (.iadd, 1) := by decide +kernel
set_option maxRecDepth 100000 in
theorem lk_1030 : mj_lk ip_L_law 1030 = some (.iaload, 1) := by decide +kernel
set_option maxRecDepth 100000 in
theorem lk_1031 : mj_lk ip_L_law 1031 = some (.aload_n 0, 1) := by decide +kernel
set_option maxRecDepth 100000 in
theorem lk_1032 : mj_lk ip_L_law 1032 = some (.iload 4, 2) := by decide +kernel
set_option maxRecDepth 100000 in
theorem lk_1034 : mj_lk ip_L_law 1034 = some (.iconst 2, 1) := by decide +kernel
set_option maxRecDepth 100000 in
theorem lk_1035 : mj_lk ip_L_law 1035 = some (.iadd, 1) := by decide +kernel
set_option maxRecDepth 100000 in
theorem lk_1036 : mj_lk ip_L_law 1036 = some (.iaload, 1) := by decide +kernel
set_option maxRecDepth 100000 in
theorem lk_1037 : mj_lk ip_L_law 1037 = some (.aload_n 3, 1) := by decide +kernel
set_option maxRecDepth 100000 in
theorem lk_1038 : mj_lk ip_L_law 1038 = some (.invokestatic 208, 3) := by decide +kernel
set_option maxRecDepth 100000 in
theorem lk_1041 : mj_lk ip_L_law 1041 = some (.istore 5, 2) := by decide +kernel
set_option maxRecDepth 100000 in
theorem lk_1043 : mj_lk ip_L_law 1043 = some (.aload_n 2, 1) := by decide +kernel
set_option maxRecDepth 100000 in
theorem lk_1044 : mj_lk ip_L_law 1044 = some (.aload_n 0, 1) := by decide +kernel
set_option maxRecDepth 100000 in
theorem lk_1045 : mj_lk ip_L_law 1045 = some (.iload 4, 2) := by decide +kernel
set_option maxRecDepth 100000 in
theorem lk_1047 : mj_lk ip_L_law 1047 = some (.iconst 1, 1) := by decide +kernel
set_option maxRecDepth 100000 in
theorem lk_1048 : mj_lk ip_L_law 1048 = some (.iadd, 1) := by decide +kernel
set_option maxRecDepth 100000 in
theorem lk_1049 : mj_lk ip_L_law 1049 = some (.iaload, 1) := by decide +kernel
set_option maxRecDepth 100000 in
theorem lk_1050 : mj_lk ip_L_law 1050 = some (.aload_n 0, 1) := by decide +kernel
set_option maxRecDepth 100000 in
theorem lk_1051 : mj_lk ip_L_law 1051 = some (.iload 4, 2) := by decide +kernel
set_option maxRecDepth 100000 in
theorem lk_1053 : mj_lk ip_L_law 1053 = some (.iconst 2, 1) := by decide +kernel
set_option maxRecDepth 100000 in
theorem lk_1054 : mj_lk ip_L_law 1054 = some (.iadd, 1) := by decide +kernel
set_option maxRecDepth 100000 in
theorem lk_1055 : mj_lk ip_L_law 1055 = some (.iaload, 1) := by decide +kernel
set_option maxRecDepth 100000 in
theorem lk_1056 : mj_lk ip_L_law 1056 = some (.invokevirtual 210, 3) := by decide +kernel
set_option maxRecDepth 100000 in
theorem lk_1059 : mj_lk ip_L_law 1059 = some (.istore 6, 2) := by decide +kernel
set_option maxRecDepth 100000 in
theorem lk_1061 : mj_lk ip_L_law 1061 = some (.aload_n 2, 1) := by decide +kernel
set_option maxRecDepth 100000 in
theorem lk_1062 : mj_lk ip_L_law 1062 = some (.invokevirtual 169, 3) := by decide +kernel
set_option maxRecDepth 100000 in
theorem lk_1065 : mj_lk ip_L_law 1065 = some (.iload 5, 2) := by decide +kernel
set_option maxRecDepth 100000 in
theorem lk_1067 : mj_lk ip_L_law 1067 = some (.if_icmp .eq 5, 3) := by decide +kernel
set_option maxRecDepth 100000 in
theorem lk_1070 : mj_lk ip_L_law 1070 = some (.iconst 0, 1) := by decide +kernel
set_option maxRecDepth 100000 in
theorem lk_1071 : mj_lk ip_L_law 1071 = some (.ireturn, 1) := by decide +kernel
set_option maxRecDepth 100000 in
theorem lk_1072 : mj_lk ip_L_law 1072 = some (.iload 5, 2) := by decide +kernel
set_option maxRecDepth 100000 in
theorem lk_1074 : mj_lk ip_L_law 1074 = some (.ifCond .ne 15, 3) := by decide +kernel
set_option maxRecDepth 100000 in
theorem lk_1077 : mj_lk ip_L_law 1077 = some (.aload_n 3, 1) := by decide +kernel
set_option maxRecDepth 100000 in
theorem lk_1078 : mj_lk ip_L_law 1078 = some (.iconst 0, 1) := by decide +kernel
set_option maxRecDepth 100000 in
theorem lk_1079 : mj_lk ip_L_law 1079 = some (.laload, 1) := by decide +kernel
set_option maxRecDepth 100000 in
theorem lk_1080 : mj_lk ip_L_law 1080 = some (.iload 6, 2) := by decide +kernel
set_option maxRecDepth 100000 in
theorem lk_1082 : mj_lk ip_L_law 1082 = some (.i2l, 1) := by decide +kernel
set_option maxRecDepth 100000 in
theorem lk_1083 : mj_lk ip_L_law 1083 = some (.lcmp, 1) := by decide +kernel
set_option maxRecDepth 100000 in
theorem lk_1084 : mj_lk ip_L_law 1084 = some (.ifCond .eq 5, 3) := by decide +kernel
set_option maxRecDepth 100000 in
theorem lk_1087 : mj_lk ip_L_law 1087 = some (.iconst 0, 1) := by decide +kernel
set_option maxRecDepth 100000 in
theorem lk_1088 : mj_lk ip_L_law 1088 = some (.ireturn, 1) := by decide +kernel
set_option maxRecDepth 100000 in
theorem lk_1089 : mj_lk ip_L_law 1089 = some (.goto 2186, 3) := by decide +kernel
set_option maxRecDepth 100000 in
theorem lk_1092 : mj_lk ip_L_law 1092 = some (.aload_n 1, 1) := by decide +kernel
set_option maxRecDepth 100000 in
theorem lk_1093 : mj_lk ip_L_law 1093 = some (.aload_n 0, 1) := by decide +kernel
set_option maxRecDepth 100000 in
theorem lk_1094 : mj_lk ip_L_law 1094 = some (.iload 4, 2) := by decide +kernel
set_option maxRecDepth 100000 in
theorem lk_1096 : mj_lk ip_L_law 1096 = some (.iconst 1, 1) := by decide +kernel
set_option maxRecDepth 100000 in
theorem lk_1097 : mj_lk ip_L_law 1097 = some (.iadd, 1) := by decide +kernel
set_option maxRecDepth 100000 in
theorem lk_1098 : mj_lk ip_L_law 1098 = some (.iaload, 1) := by decide +kernel
set_option maxRecDepth 100000 in
theorem lk_1099 : mj_lk ip_L_law 1099 = some (.aload_n 0, 1) := by decide +kernel
set_option maxRecDepth 100000 in
theorem lk_1100 : mj_lk ip_L_law 1100 = some (.iload 4, 2) := by decide +kernel
set_option maxRecDepth 100000 in
theorem lk_1102 : mj_lk ip_L_law 1102 = some (.iconst 2, 1) := by decide +kernel
set_option maxRecDepth 100000 in
theorem lk_1103 : mj_lk ip_L_law 1103 = some (.iadd, 1) := by decide +kernel
set_option maxRecDepth 100000 in
theorem lk_1104 : mj_lk ip_L_law 1104 = some (.iaload, 1) := by decide +kernel
set_option maxRecDepth 100000 in
theorem lk_1105 : mj_lk ip_L_law 1105 = some (.aload_n 0, 1) := by decide +kernel
set_option maxRecDepth 100000 in
theorem lk_1106 : mj_lk ip_L_law 1106 = some (.iload 4, 2) := by decide +kernel
set_option maxRecDepth 100000 in
theorem lk_1108 : mj_lk ip_L_law 1108 = some (.iconst 3, 1) := by decide +kernel
set_option maxRecDepth 100000 in
theorem lk_1109 : mj_lk ip_L_law 1109 = some (.iadd, 1) := by decide +kernel
set_option maxRecDepth 100000 in
theorem lk_1110 : mj_lk ip_L_law 1110 = some (.iaload, 1) := by decide +kernel
set_option maxRecDepth 100000 in
theorem lk_1111 : mj_lk ip_L_law 1111 = some (.aload_n 0, 1) := by decide +kernel
set_option maxRecDepth 100000 in
theorem lk_1112 : mj_lk ip_L_law 1112 = some (.iload 4, 2) := by decide +kernel
set_option maxRecDepth 100000 in
theorem lk_1114 : mj_lk ip_L_law 1114 = some (.iconst 4, 1) := by decide +kernel
set_option maxRecDepth 100000 in
theorem lk_1115 : mj_lk ip_L_law 1115 = some (.iadd, 1) := by decide +kernel
set_option maxRecDepth 100000 in
theorem lk_1116 : mj_lk ip_L_law 1116 = some (.iaload, 1) := by decide +kernel
set_option maxRecDepth 100000 in
theorem lk_1117 : mj_lk ip_L_law 1117 = some (.aload_n 0, 1) := by decide +kernel
set_option maxRecDepth 100000 in
theorem lk_1118 : mj_lk ip_L_law 1118 = some (.iload 4, 2) := by decide +kernel
set_option maxRecDepth 100000 in
theorem lk_1120 : mj_lk ip_L_law 1120 = some (.iconst 5, 1) := by decide +kernel
set_option maxRecDepth 100000 in
theorem lk_1121 : mj_lk ip_L_law 1121 = some (.iadd, 1) := by decide +kernel
set_option maxRecDepth 100000 in
theorem lk_1122 : mj_lk ip_L_law 1122 = some (.iaload, 1) := by decide +kernel
set_option maxRecDepth 100000 in
theorem lk_1123 : mj_lk ip_L_law 1123 = some (.aload_n 0, 1) := by decide +kernel
set_option maxRecDepth 100000 in
theorem lk_1124 : mj_lk ip_L_law 1124 = some (.iload 4, 2) := by decide +kernel
set_option maxRecDepth 100000 in
theorem lk_1126 : mj_lk ip_L_law 1126 = some (.bipush 6, 2) := by decide +kernel
set_option maxRecDepth 100000 in
theorem lk_1128 : mj_lk ip_L_law 1128 = some (.iadd, 1) := by decide +kernel
set_option maxRecDepth 100000 in
theorem lk_1129 : mj_lk ip_L_law 1129 = some (.iaload, 1) := by decide +kernel
set_option maxRecDepth 100000 in
theorem lk_1130 : mj_lk ip_L_law 1130 = some (.invokestatic 211, 3) := by decide +kernel
set_option maxRecDepth 100000 in
theorem lk_1133 : mj_lk ip_L_law 1133 = some (.istore 5, 2) := by decide +kernel
set_option maxRecDepth 100000 in
theorem lk_1135 : mj_lk ip_L_law 1135 = some (.aload_n 2, 1) := by decide +kernel
set_option maxRecDepth 100000 in
theorem lk_1136 : mj_lk ip_L_law 1136 = some (.aload_n 0, 1) := by decide +kernel
set_option maxRecDepth 100000 in
theorem lk_1137 : mj_lk ip_L_law 1137 = some (.iload 4, 2) := by decide +kernel
set_option maxRecDepth 100000 in
theorem lk_1139 : mj_lk ip_L_law 1139 = some (.iconst 1, 1) := by decide +kernel
set_option maxRecDepth 100000 in
theorem lk_1140 : mj_lk ip_L_law 1140 = some (.iadd, 1) := by decide +kernel
set_option maxRecDepth 100000 in
theorem lk_1141 : mj_lk ip_L_law 1141 = some (.iaload, 1) := by decide +kernel
set_option maxRecDepth 100000 in
theorem lk_1142 : mj_lk ip_L_law 1142 = some (.aload_n 0, 1) := by decide +kernel
set_option maxRecDepth 100000 in
theorem lk_1143 : mj_lk ip_L_law 1143 = some (.iload 4, 2) := by decide +kernel
set_option maxRecDepth 100000 in
theorem lk_1145 : mj_lk ip_L_law 1145 = some (.iconst 2, 1) := by decide +kernel
set_option maxRecDepth 100000 in
theorem lk_1146 : mj_lk ip_L_law 1146 = some (.iadd, 1) := by decide +kernel
set_option maxRecDepth 100000 in
theorem lk_1147 : mj_lk ip_L_law 1147 = some (.iaload, 1) := by decide +kernel
set_option maxRecDepth 100000 in
theorem lk_1148 : mj_lk ip_L_law 1148 = some (.aload_n 0, 1) := by decide +kernel
set_option maxRecDepth 100000 in
theorem lk_1149 : mj_lk ip_L_law 1149 = some (.iload 4, 2) := by decide +kernel
set_option maxRecDepth 100000 in
theorem lk_1151 : mj_lk ip_L_law 1151 = some (.iconst 3, 1) := by decide +kernel
set_option maxRecDepth 100000 in
theorem lk_1152 : mj_lk ip_L_law 1152 = some (.iadd, 1) := by decide +kernel
set_option maxRecDepth 100000 in
theorem lk_1153 : mj_lk ip_L_law 1153 = some (.iaload, 1) := by decide +kernel
set_option maxRecDepth 100000 in
theorem lk_1154 : mj_lk ip_L_law 1154 = some (.aload_n 0, 1) := by decide +kernel
set_option maxRecDepth 100000 in
theorem lk_1155 : mj_lk ip_L_law 1155 = some (.iload 4, 2) := by decide +kernel
set_option maxRecDepth 100000 in
theorem lk_1157 : mj_lk ip_L_law 1157 = some (.iconst 4, 1) := by decide +kernel
set_option maxRecDepth 100000 in
theorem lk_1158 : mj_lk ip_L_law 1158 = some (.iadd, 1) := by decide +kernel
set_option maxRecDepth 100000 in
theorem lk_1159 : mj_lk ip_L_law 1159 = some (.iaload, 1) := by decide +kernel
set_option maxRecDepth 100000 in
theorem lk_1160 : mj_lk ip_L_law 1160 = some (.aload_n 0, 1) := by decide +kernel
set_option maxRecDepth 100000 in
theorem lk_1161 : mj_lk ip_L_law 1161 = some (.iload 4, 2) := by decide +kernel
set_option maxRecDepth 100000 in
theorem lk_1163 : mj_lk ip_L_law 1163 = some (.iconst 5, 1) := by decide +kernel
set_option maxRecDepth 100000 in
theorem lk_1164 : mj_lk ip_L_law 1164 = some (.iadd, 1) := by decide +kernel
set_option maxRecDepth 100000 in
theorem lk_1165 : mj_lk ip_L_law 1165 = some (.iaload, 1) := by decide +kernel
set_option maxRecDepth 100000 in
theorem lk_1166 : mj_lk ip_L_law 1166 = some (.aload_n 0, 1) := by decide +kernel
set_option maxRecDepth 100000 in
theorem lk_1167 : mj_lk ip_L_law 1167 = some (.iload 4, 2) := by decide +kernel
set_option maxRecDepth 100000 in
theorem lk_1169 : mj_lk ip_L_law 1169 = some (.bipush 6, 2) := by decide +kernel
set_option maxRecDepth 100000 in
theorem lk_1171 : mj_lk ip_L_law 1171 = some (.iadd, 1) := by decide +kernel
set_option maxRecDepth 100000 in
theorem lk_1172 : mj_lk ip_L_law 1172 = some (.iaload, 1) := by decide +kernel
set_option maxRecDepth 100000 in
theorem lk_1173 : mj_lk ip_L_law 1173 = some (.invokevirtual 214, 3) := by decide +kernel
set_option maxRecDepth 100000 in
theorem lk_1176 : mj_lk ip_L_law 1176 = some (.aload_n 2, 1) := by decide +kernel
set_option maxRecDepth 100000 in
theorem lk_1177 : mj_lk ip_L_law 1177 = some (.invokevirtual 169, 3) := by decide +kernel
set_option maxRecDepth 100000 in
theorem lk_1180 : mj_lk ip_L_law 1180 = some (.iload 5, 2) := by decide +kernel
set_option maxRecDepth 100000 in
theorem lk_1182 : mj_lk ip_L_law 1182 = some (.if_icmp .eq 5, 3) := by decide +kernel
set_option maxRecDepth 100000 in
theorem lk_1185 : mj_lk ip_L_law 1185 = some (.iconst 0, 1) := by decide +kernel
set_option maxRecDepth 100000 in
theorem lk_1186 : mj_lk ip_L_law 1186 = some (.ireturn, 1) := by decide +kernel
set_option maxRecDepth 100000 in
theorem lk_1187 : mj_lk ip_L_law 1187 = some (.goto 2088, 3) := by decide +kernel
set_option maxRecDepth 100000 in
theorem lk_1190 : mj_lk ip_L_law 1190 = some (.aload_n 1, 1) := by decide +kernel
set_option maxRecDepth 100000 in
theorem lk_1191 : mj_lk ip_L_law 1191 = some (.aload_n 0, 1) := by decide +kernel
set_option maxRecDepth 100000 in
theorem lk_1192 : mj_lk ip_L_law 1192 = some (.iload 4, 2) := by decide +kernel
set_option maxRecDepth 100000 in
theorem lk_1194 : mj_lk ip_L_law 1194 = some (.iconst 1, 1) := by decide +kernel
set_option maxRecDepth 100000 in
theorem lk_1195 : mj_lk ip_L_law 1195 = some (.iadd, 1) := by decide +kernel
set_option maxRecDepth 100000 in
theorem lk_1196 : mj_lk ip_L_law 1196 = some (.iaload, 1) := by decide +kernel
set_option maxRecDepth 100000 in
theorem lk_1197 : mj_lk ip_L_law 1197 = some (.aload_n 0, 1) := by decide +kernel
set_option maxRecDepth 100000 in
theorem lk_1198 : mj_lk ip_L_law 1198 = some (.iload 4, 2) := by decide +kernel
set_option maxRecDepth 100000 in
theorem lk_1200 : mj_lk ip_L_law 1200 = some (.iconst 2, 1) := by decide +kernel
set_option maxRecDepth 100000 in
theorem lk_1201 : mj_lk ip_L_law 1201 = some (.iadd, 1) := by decide +kernel
set_option maxRecDepth 100000 in
theorem lk_1202 : mj_lk ip_L_law 1202 = some (.iaload, 1) := by decide +kernel
set_option maxRecDepth 100000 in
theorem lk_1203 : mj_lk ip_L_law 1203 = some (.aload_n 0, 1) := by decide +kernel
set_option maxRecDepth 100000 in
theorem lk_1204 : mj_lk ip_L_law 1204 = some (.iload 4, 2) := by decide +kernel
set_option maxRecDepth 100000 in
theorem lk_1206 : mj_lk ip_L_law 1206 = some (.iconst 3, 1) := by decide +kernel
set_option maxRecDepth 100000 in
theorem lk_1207 : mj_lk ip_L_law 1207 = some (.iadd, 1) := by decide +kernel
set_option maxRecDepth 100000 in
theorem lk_1208 : mj_lk ip_L_law 1208 = some (.iaload, 1) := by decide +kernel
set_option maxRecDepth 100000 in
theorem lk_1209 : mj_lk ip_L_law 1209 = some (.aload_n 0, 1) := by decide +kernel
set_option maxRecDepth 100000 in
theorem lk_1210 : mj_lk ip_L_law 1210 = some (.iload 4, 2) := by decide +kernel
set_option maxRecDepth 100000 in
theorem lk_1212 : mj_lk ip_L_law 1212 = some (.iconst 4, 1) := by decide +kernel
set_option maxRecDepth 100000 in
theorem lk_1213 : mj_lk ip_L_law 1213 = some (.iadd, 1) := by decide +kernel
set_option maxRecDepth 100000 in
theorem lk_1214 : mj_lk ip_L_law 1214 = some (.iaload, 1) := by decide +kernel
set_option maxRecDepth 100000 in
theorem lk_1215 : mj_lk ip_L_law 1215 = some (.aload_n 3, 1) := by decide +kernel
set_option maxRecDepth 100000 in
theorem lk_1216 : mj_lk ip_L_law 1216 = some (.invokestatic 215, 3) := by decide +kernel
set_option maxRecDepth 100000 in
theorem lk_1219 : mj_lk ip_L_law 1219 = some (.istore 5, 2) := by decide +kernel
set_option maxRecDepth 100000 in
theorem lk_1221 : mj_lk ip_L_law 1221 = some (.aload_n 2, 1) := by decide +kernel
set_option maxRecDepth 100000 in
theorem lk_1222 : mj_lk ip_L_law 1222 = some (.aload_n 0, 1) := by decide +kernel
set_option maxRecDepth 100000 in
theorem lk_1223 : mj_lk ip_L_law 1223 = some (.iload 4, 2) := by decide +kernel
set_option maxRecDepth 100000 in
theorem lk_1225 : mj_lk ip_L_law 1225 = some (.iconst 1, 1) := by decide +kernel
set_option maxRecDepth 100000 in
theorem lk_1226 : mj_lk ip_L_law 1226 = some (.iadd, 1) := by decide +kernel
set_option maxRecDepth 100000 in
theorem lk_1227 : mj_lk ip_L_law 1227 = some (.iaload, 1) := by decide +kernel
set_option maxRecDepth 100000 in
theorem lk_1228 : mj_lk ip_L_law 1228 = some (.aload_n 0, 1) := by decide +kernel
set_option maxRecDepth 100000 in
theorem lk_1229 : mj_lk ip_L_law 1229 = some (.iload 4, 2) := by decide +kernel
set_option maxRecDepth 100000 in
theorem lk_1231 : mj_lk ip_L_law 1231 = some (.iconst 2, 1) := by decide +kernel
set_option maxRecDepth 100000 in
theorem lk_1232 : mj_lk ip_L_law 1232 = some (.iadd, 1) := by decide +kernel
set_option maxRecDepth 100000 in
theorem lk_1233 : mj_lk ip_L_law 1233 = some (.iaload, 1) := by decide +kernel
set_option maxRecDepth 100000 in
theorem lk_1234 : mj_lk ip_L_law 1234 = some (.aload_n 0, 1) := by decide +kernel
set_option maxRecDepth 100000 in
theorem lk_1235 : mj_lk ip_L_law 1235 = some (.iload 4, 2) := by decide +kernel
set_option maxRecDepth 100000 in
theorem lk_1237 : mj_lk ip_L_law 1237 = some (.iconst 3, 1) := by decide +kernel
set_option maxRecDepth 100000 in
theorem lk_1238 : mj_lk ip_L_law 1238 = some (.iadd, 1) := by decide +kernel
set_option maxRecDepth 100000 in
theorem lk_1239 : mj_lk ip_L_law 1239 = some (.iaload, 1) := by decide +kernel
set_option maxRecDepth 100000 in
theorem lk_1240 : mj_lk ip_L_law 1240 = some (.aload_n 0, 1) := by decide +kernel
set_option maxRecDepth 100000 in
theorem lk_1241 : mj_lk ip_L_law 1241 = some (.iload 4, 2) := by decide +kernel
set_option maxRecDepth 100000 in
theorem lk_1243 : mj_lk ip_L_law 1243 = some (.iconst 4, 1) := by decide +kernel
set_option maxRecDepth 100000 in
theorem lk_1244 : mj_lk ip_L_law 1244 = some (.iadd, 1) := by decide +kernel
set_option maxRecDepth 100000 in
theorem lk_1245 : mj_lk ip_L_law 1245 = some (.iaload, 1) := by decide +kernel
set_option maxRecDepth 100000 in
theorem lk_1246 : mj_lk ip_L_law 1246 = some (.invokevirtual 218, 3) := by decide +kernel
set_option maxRecDepth 100000 in
theorem lk_1249 : mj_lk ip_L_law 1249 = some (.istore 6, 2) := by decide +kernel
set_option maxRecDepth 100000 in
theorem lk_1251 : mj_lk ip_L_law 1251 = some (.aload_n 2, 1) := by decide +kernel
set_option maxRecDepth 100000 in
theorem lk_1252 : mj_lk ip_L_law 1252 = some (.invokevirtual 169, 3) := by decide +kernel
set_option maxRecDepth 100000 in
theorem lk_1255 : mj_lk ip_L_law 1255 = some (.iload 5, 2) := by decide +kernel
set_option maxRecDepth 100000 in
theorem lk_1257 : mj_lk ip_L_law 1257 = some (.if_icmp .eq 5, 3) := by decide +kernel
set_option maxRecDepth 100000 in
theorem lk_1260 : mj_lk ip_L_law 1260 = some (.iconst 0, 1) := by decide +kernel
set_option maxRecDepth 100000 in
theorem lk_1261 : mj_lk ip_L_law 1261 = some (.ireturn, 1) := by decide +kernel
set_option maxRecDepth 100000 in
theorem lk_1262 : mj_lk ip_L_law 1262 = some (.iload 5, 2) := by decide +kernel
set_option maxRecDepth 100000 in
theorem lk_1264 : mj_lk ip_L_law 1264 = some (.ifCond .ne 15, 3) := by decide +kernel
set_option maxRecDepth 100000 in
theorem lk_1267 : mj_lk ip_L_law 1267 = some (.aload_n 3, 1) := by decide +kernel
set_option maxRecDepth 100000 in
theorem lk_1268 : mj_lk ip_L_law 1268 = some (.iconst 0, 1) := by decide +kernel
set_option maxRecDepth 100000 in
theorem lk_1269 : mj_lk ip_L_law 1269 = some (.laload, 1) := by decide +kernel
set_option maxRecDepth 100000 in
theorem lk_1270 : mj_lk ip_L_law 1270 = some (.iload 6, 2) := by decide +kernel
set_option maxRecDepth 100000 in
theorem lk_1272 : mj_lk ip_L_law 1272 = some (.i2l, 1) := by decide +kernel
set_option maxRecDepth 100000 in
theorem lk_1273 : mj_lk ip_L_law 1273 = some (.lcmp, 1) := by decide +kernel
set_option maxRecDepth 100000 in
theorem lk_1274 : mj_lk ip_L_law 1274 = some (.ifCond .eq 5, 3) := by decide +kernel
set_option maxRecDepth 100000 in
theorem lk_1277 : mj_lk ip_L_law 1277 = some (.iconst 0, 1) := by decide +kernel
set_option maxRecDepth 100000 in
theorem lk_1278 : mj_lk ip_L_law 1278 = some (.ireturn, 1) := by decide +kernel
set_option maxRecDepth 100000 in
theorem lk_1279 : mj_lk ip_L_law 1279 = some (.goto 1996, 3) := by decide +kernel
set_option maxRecDepth 100000 in
theorem lk_1282 : mj_lk ip_L_law 1282 = some (.aload_n 1, 1) := by decide +kernel
set_option maxRecDepth 100000 in
theorem lk_1283 : mj_lk ip_L_law 1283 = some (.aload_n 0, 1) := by decide +kernel
set_option maxRecDepth 100000 in
theorem lk_1284 : mj_lk ip_L_law 1284 = some (.iload 4, 2) := by decide +kernel
set_option maxRecDepth 100000 in
theorem lk_1286 : mj_lk ip_L_law 1286 = some (.iconst 1, 1) := by decide +kernel
set_option maxRecDepth 100000 in
theorem lk_1287 : mj_lk ip_L_law 1287 = some (.iadd, 1) := by decide +kernel
set_option maxRecDepth 100000 in
theorem lk_1288 : mj_lk ip_L_law 1288 = some (.iaload, 1) := by decide +kernel
set_option maxRecDepth 100000 in
theorem lk_1289 : mj_lk ip_L_law 1289 = some (.aload_n 0, 1) := by decide +kernel
set_option maxRecDepth 100000 in
theorem lk_1290 : mj_lk ip_L_law 1290 = some (.iload 4, 2) := by decide +kernel
set_option maxRecDepth 100000 in
theorem lk_1292 : mj_lk ip_L_law 1292 = some (.iconst 2, 1) := by decide +kernel
set_option maxRecDepth 100000 in
theorem lk_1293 : mj_lk ip_L_law 1293 = some (.iadd, 1) := by decide +kernel
set_option maxRecDepth 100000 in
theorem lk_1294 : mj_lk ip_L_law 1294 = some (.iaload, 1) := by decide +kernel
set_option maxRecDepth 100000 in
theorem lk_1295 : mj_lk ip_L_law 1295 = some (.aload_n 0, 1) := by decide +kernel
set_option maxRecDepth 100000 in
theorem lk_1296 : mj_lk ip_L_law 1296 = some (.iload 4, 2) := by decide +kernel
set_option maxRecDepth 100000 in
theorem lk_1298 : mj_lk ip_L_law 1298 = some (.iconst 3, 1) := by decide +kernel
set_option maxRecDepth 100000 in
theorem lk_1299 : mj_lk ip_L_law 1299 = some (.iadd, 1) := by decide +kernel
set_option maxRecDepth 100000 in
theorem lk_1300 : mj_lk ip_L_law 1300 = some (.iaload, 1) := by decide +kernel
set_option maxRecDepth 100000 in
theorem lk_1301 : mj_lk ip_L_law 1301 = some (.aload_n 3, 1) := by decide +kernel
set_option maxRecDepth 100000 in
theorem lk_1302 : mj_lk ip_L_law 1302 = some (.invokestatic 219, 3) := by decide +kernel
set_option maxRecDepth 100000 in
theorem lk_1305 : mj_lk ip_L_law 1305 = some (.istore 5, 2) := by decide +kernel
set_option maxRecDepth 100000 in
theorem lk_1307 : mj_lk ip_L_law 1307 = some (.aload_n 2, 1) := by decide +kernel
set_option maxRecDepth 100000 in
theorem lk_1308 : mj_lk ip_L_law 1308 = some (.aload_n 0, 1) := by decide +kernel
set_option maxRecDepth 100000 in
theorem lk_1309 : mj_lk ip_L_law 1309 = some (.iload 4, 2) := by decide +kernel
set_option maxRecDepth 100000 in
theorem lk_1311 : mj_lk ip_L_law 1311 = some (.iconst 1, 1) := by decide +kernel
set_option maxRecDepth 100000 in
theorem lk_1312 : mj_lk ip_L_law 1312 = some (.iadd, 1) := by decide +kernel
set_option maxRecDepth 100000 in
theorem lk_1313 : mj_lk ip_L_law 1313 = some (.iaload, 1) := by decide +kernel
set_option maxRecDepth 100000 in
theorem lk_1314 : mj_lk ip_L_law 1314 = some (.aload_n 0, 1) := by decide +kernel
set_option maxRecDepth 100000 in
theorem lk_1315 : mj_lk ip_L_law 1315 = some (.iload 4, 2) := by decide +kernel
set_option maxRecDepth 100000 in
theorem lk_1317 : mj_lk ip_L_law 1317 = some (.iconst 2, 1) := by decide +kernel
set_option maxRecDepth 100000 in
theorem lk_1318 : mj_lk ip_L_law 1318 = some (.iadd, 1) := by decide +kernel
set_option maxRecDepth 100000 in
theorem lk_1319 : mj_lk ip_L_law 1319 = some (.iaload, 1) := by decide +kernel
set_option maxRecDepth 100000 in
theorem lk_1320 : mj_lk ip_L_law 1320 = some (.aload_n 0, 1) := by decide +kernel
set_option maxRecDepth 100000 in
theorem lk_1321 : mj_lk ip_L_law 1321 = some (.iload 4, 2) := by decide +kernel
set_option maxRecDepth 100000 in
theorem lk_1323 : mj_lk ip_L_law 1323 = some (.iconst 3, 1) := by decide +kernel
set_option maxRecDepth 100000 in
theorem lk_1324 : mj_lk ip_L_law 1324 = some (.iadd, 1) := by decide +kernel
set_option maxRecDepth 100000 in
theorem lk_1325 : mj_lk ip_L_law 1325 = some (.iaload, 1) := by decide +kernel
set_option maxRecDepth 100000 in
theorem lk_1326 : mj_lk ip_L_law 1326 = some (.invokevirtual 221, 3) := by decide +kernel
set_option maxRecDepth 100000 in
theorem lk_1329 : mj_lk ip_L_law 1329 = some (.istore 6, 2) := by decide +kernel
set_option maxRecDepth 100000 in
theorem lk_1331 : mj_lk ip_L_law 1331 = some (.aload_n 2, 1) := by decide +kernel
set_option maxRecDepth 100000 in
theorem lk_1332 : mj_lk ip_L_law 1332 = some (.invokevirtual 169, 3) := by decide +kernel
set_option maxRecDepth 100000 in
theorem lk_1335 : mj_lk ip_L_law 1335 = some (.iload 5, 2) := by decide +kernel
set_option maxRecDepth 100000 in
theorem lk_1337 : mj_lk ip_L_law 1337 = some (.if_icmp .eq 5, 3) := by decide +kernel
set_option maxRecDepth 100000 in
theorem lk_1340 : mj_lk ip_L_law 1340 = some (.iconst 0, 1) := by decide +kernel
set_option maxRecDepth 100000 in
theorem lk_1341 : mj_lk ip_L_law 1341 = some (.ireturn, 1) := by decide +kernel
set_option maxRecDepth 100000 in
theorem lk_1342 : mj_lk ip_L_law 1342 = some (.iload 5, 2) := by decide +kernel
set_option maxRecDepth 100000 in
theorem lk_1344 : mj_lk ip_L_law 1344 = some (.ifCond .ne 15, 3) := by decide +kernel
set_option maxRecDepth 100000 in
theorem lk_1347 : mj_lk ip_L_law 1347 = some (.aload_n 3, 1) := by decide +kernel
set_option maxRecDepth 100000 in
theorem lk_1348 : mj_lk ip_L_law 1348 = some (.iconst 0, 1) := by decide +kernel
set_option maxRecDepth 100000 in
theorem lk_1349 : mj_lk ip_L_law 1349 = some (.laload, 1) := by decide +kernel
set_option maxRecDepth 100000 in
theorem lk_1350 : mj_lk ip_L_law 1350 = some (.iload 6, 2) := by decide +kernel
set_option maxRecDepth 100000 in
theorem lk_1352 : mj_lk ip_L_law 1352 = some (.i2l, 1) := by decide +kernel
set_option maxRecDepth 100000 in
theorem lk_1353 : mj_lk ip_L_law 1353 = some (.lcmp, 1) := by decide +kernel
set_option maxRecDepth 100000 in
theorem lk_1354 : mj_lk ip_L_law 1354 = some (.ifCond .eq 5, 3) := by decide +kernel
set_option maxRecDepth 100000 in
theorem lk_1357 : mj_lk ip_L_law 1357 = some (.iconst 0, 1) := by decide +kernel
set_option maxRecDepth 100000 in
theorem lk_1358 : mj_lk ip_L_law 1358 = some (.ireturn, 1) := by decide +kernel
set_option maxRecDepth 100000 in
theorem lk_1359 : mj_lk ip_L_law 1359 = some (.goto 1916, 3) := by decide +kernel
set_option maxRecDepth 100000 in
theorem lk_1362 : mj_lk ip_L_law 1362 = some (.aload_n 1, 1) := by decide +kernel
set_option maxRecDepth 100000 in
theorem lk_1363 : mj_lk ip_L_law 1363 = some (.aload_n 0, 1) := by decide +kernel
set_option maxRecDepth 100000 in
theorem lk_1364 : mj_lk ip_L_law 1364 = some (.iload 4, 2) := by decide +kernel
set_option maxRecDepth 100000 in
theorem lk_1366 : mj_lk ip_L_law 1366 = some (.iconst 1, 1) := by decide +kernel
set_option maxRecDepth 100000 in
theorem lk_1367 : mj_lk ip_L_law 1367 = some (.iadd, 1) := by decide +kernel
set_option maxRecDepth 100000 in
theorem lk_1368 : mj_lk ip_L_law 1368 = some (.iaload, 1) := by decide +kernel
set_option maxRecDepth 100000 in
theorem lk_1369 : mj_lk ip_L_law 1369 = some (.aload_n 0, 1) := by decide +kernel
set_option maxRecDepth 100000 in
theorem lk_1370 : mj_lk ip_L_law 1370 = some (.iload 4, 2) := by decide +kernel
set_option maxRecDepth 100000 in
theorem lk_1372 : mj_lk ip_L_law 1372 = some (.iconst 2, 1) := by decide +kernel
set_option maxRecDepth 100000 in
theorem lk_1373 : mj_lk ip_L_law 1373 = some (.iadd, 1) := by decide +kernel
set_option maxRecDepth 100000 in
theorem lk_1374 : mj_lk ip_L_law 1374 = some (.iaload, 1) := by decide +kernel
set_option maxRecDepth 100000 in
theorem lk_1375 : mj_lk ip_L_law 1375 = some (.aload_n 3, 1) := by decide +kernel
set_option maxRecDepth 100000 in
theorem lk_1376 : mj_lk ip_L_law 1376 = some (.invokestatic 222, 3) := by decide +kernel
set_option maxRecDepth 100000 in
theorem lk_1379 : mj_lk ip_L_law 1379 = some (.istore 5, 2) := by decide +kernel
set_option maxRecDepth 100000 in
theorem lk_1381 : mj_lk ip_L_law 1381 = some (.aload_n 2, 1) := by decide +kernel
set_option maxRecDepth 100000 in
theorem lk_1382 : mj_lk ip_L_law 1382 = some (.aload_n 0, 1) := by decide +kernel
set_option maxRecDepth 100000 in
theorem lk_1383 : mj_lk ip_L_law 1383 = some (.iload 4, 2) := by decide +kernel
set_option maxRecDepth 100000 in
theorem lk_1385 : mj_lk ip_L_law 1385 = some (.iconst 1, 1) := by decide +kernel
set_option maxRecDepth 100000 in
theorem lk_1386 : mj_lk ip_L_law 1386 = some (.iadd, 1) := by decide +kernel
set_option maxRecDepth 100000 in
theorem lk_1387 : mj_lk ip_L_law 1387 = some (.iaload, 1) := by decide +kernel
set_option maxRecDepth 100000 in
theorem lk_1388 : mj_lk ip_L_law 1388 = some (.aload_n 0, 1) := by decide +kernel
set_option maxRecDepth 100000 in
theorem lk_1389 : mj_lk ip_L_law 1389 = some (.iload 4, 2) := by decide +kernel
set_option maxRecDepth 100000 in
theorem lk_1391 : mj_lk ip_L_law 1391 = some (.iconst 2, 1) := by decide +kernel
set_option maxRecDepth 100000 in
theorem lk_1392 : mj_lk ip_L_law 1392 = some (.iadd, 1) := by decide +kernel
set_option maxRecDepth 100000 in
theorem lk_1393 : mj_lk ip_L_law 1393 = some (.iaload, 1) := by decide +kernel
set_option maxRecDepth 100000 in
theorem lk_1394 : mj_lk ip_L_law 1394 = some (.invokevirtual 224, 3) := by decide +kernel
set_option maxRecDepth 100000 in
theorem lk_1397 : mj_lk ip_L_law 1397 = some (.istore 6, 2) := by decide +kernel
set_option maxRecDepth 100000 in
theorem lk_1399 : mj_lk ip_L_law 1399 = some (.aload_n 2, 1) := by decide +kernel
set_option maxRecDepth 100000 in
theorem lk_1400 : mj_lk ip_L_law 1400 = some (.invokevirtual 169, 3) := by decide +kernel
set_option maxRecDepth 100000 in
theorem lk_1403 : mj_lk ip_L_law 1403 = some (.iload 5, 2) := by decide +kernel
set_option maxRecDepth 100000 in
theorem lk_1405 : mj_lk ip_L_law 1405 = some (.if_icmp .eq 5, 3) := by decide +kernel
set_option maxRecDepth 100000 in
theorem lk_1408 : mj_lk ip_L_law 1408 = some (.iconst 0, 1) := by decide +kernel
set_option maxRecDepth 100000 in
theorem lk_1409 : mj_lk ip_L_law 1409 = some (.ireturn, 1) := by decide +kernel
set_option maxRecDepth 100000 in
theorem lk_1410 : mj_lk ip_L_law 1410 = some (.iload 5, 2) := by decide +kernel
set_option maxRecDepth 100000 in
theorem lk_1412 : mj_lk ip_L_law 1412 = some (.ifCond .ne 15, 3) := by decide +kernel
set_option maxRecDepth 100000 in
theorem lk_1415 : mj_lk ip_L_law 1415 = some (.aload_n 3, 1) := by decide +kernel
set_option maxRecDepth 100000 in
theorem lk_1416 : mj_lk ip_L_law 1416 = some (.iconst 0, 1) := by decide +kernel
set_option maxRecDepth 100000 in
theorem lk_1417 : mj_lk ip_L_law 1417 = some (.laload, 1) := by decide +kernel
set_option maxRecDepth 100000 in
theorem lk_1418 : mj_lk ip_L_law 1418 = some (.iload 6, 2) := by decide +kernel
set_option maxRecDepth 100000 in
theorem lk_1420 : mj_lk ip_L_law 1420 = some (.i2l, 1) := by decide +kernel
set_option maxRecDepth 100000 in
theorem lk_1421 : mj_lk ip_L_law 1421 = some (.lcmp, 1) := by decide +kernel
set_option maxRecDepth 100000 in
theorem lk_1422 : mj_lk ip_L_law 1422 = some (.ifCond .eq 5, 3) := by decide +kernel
set_option maxRecDepth 100000 in
theorem lk_1425 : mj_lk ip_L_law 1425 = some (.iconst 0, 1) := by decide +kernel
set_option maxRecDepth 100000 in
theorem lk_1426 : mj_lk ip_L_law 1426 = some (.ireturn, 1) := by decide +kernel
set_option maxRecDepth 100000 in
theorem lk_1427 : mj_lk ip_L_law 1427 = some (.goto 1848, 3) := by decide +kernel
set_option maxRecDepth 100000 in
theorem lk_1430 : mj_lk ip_L_law 1430 = some (.aload_n 1, 1) := by decide +kernel
set_option maxRecDepth 100000 in
theorem lk_1431 : mj_lk ip_L_law 1431 = some (.aload_n 0, 1) := by decide +kernel
set_option maxRecDepth 100000 in
theorem lk_1432 : mj_lk ip_L_law 1432 = some (.iload 4, 2) := by decide +kernel
set_option maxRecDepth 100000 in
theorem lk_1434 : mj_lk ip_L_law 1434 = some (.iconst 1, 1) := by decide +kernel
set_option maxRecDepth 100000 in
theorem lk_1435 : mj_lk ip_L_law 1435 = some (.iadd, 1) := by decide +kernel
set_option maxRecDepth 100000 in
theorem lk_1436 : mj_lk ip_L_law 1436 = some (.iaload, 1) := by decide +kernel
set_option maxRecDepth 100000 in
theorem lk_1437 : mj_lk ip_L_law 1437 = some (.aload_n 3, 1) := by decide +kernel
set_option maxRecDepth 100000 in
theorem lk_1438 : mj_lk ip_L_law 1438 = some (.invokestatic 225, 3) := by decide +kernel
set_option maxRecDepth 100000 in
theorem lk_1441 : mj_lk ip_L_law 1441 = some (.istore 5, 2) := by decide +kernel
set_option maxRecDepth 100000 in
theorem lk_1443 : mj_lk ip_L_law 1443 = some (.aload_n 2, 1) := by decide +kernel
set_option maxRecDepth 100000 in
theorem lk_1444 : mj_lk ip_L_law 1444 = some (.aload_n 0, 1) := by decide +kernel
set_option maxRecDepth 100000 in
theorem lk_1445 : mj_lk ip_L_law 1445 = some (.iload 4, 2) := by decide +kernel
set_option maxRecDepth 100000 in
theorem lk_1447 : mj_lk ip_L_law 1447 = some (.iconst 1, 1) := by decide +kernel
set_option maxRecDepth 100000 in
theorem lk_1448 : mj_lk ip_L_law 1448 = some (.iadd, 1) := by decide +kernel
set_option maxRecDepth 100000 in
theorem lk_1449 : mj_lk ip_L_law 1449 = some (.iaload, 1) := by decide +kernel
set_option maxRecDepth 100000 in
theorem lk_1450 : mj_lk ip_L_law 1450 = some (.invokevirtual 227, 3) := by decide +kernel
set_option maxRecDepth 100000 in
theorem lk_1453 : mj_lk ip_L_law 1453 = some (.istore 6, 2) := by decide +kernel
set_option maxRecDepth 100000 in
theorem lk_1455 : mj_lk ip_L_law 1455 = some (.aload_n 2, 1) := by decide +kernel
set_option maxRecDepth 100000 in
theorem lk_1456 : mj_lk ip_L_law 1456 = some (.invokevirtual 169, 3) := by decide +kernel
set_option maxRecDepth 100000 in
theorem lk_1459 : mj_lk ip_L_law 1459 = some (.iload 5, 2) := by decide +kernel
set_option maxRecDepth 100000 in
theorem lk_1461 : mj_lk ip_L_law 1461 = some (.if_icmp .eq 5, 3) := by decide +kernel
set_option maxRecDepth 100000 in
theorem lk_1464 : mj_lk ip_L_law 1464 = some (.iconst 0, 1) := by decide +kernel
set_option maxRecDepth 100000 in
theorem lk_1465 : mj_lk ip_L_law 1465 = some (.ireturn, 1) := by decide +kernel
set_option maxRecDepth 100000 in
theorem lk_1466 : mj_lk ip_L_law 1466 = some (.iload 5, 2) := by decide +kernel
set_option maxRecDepth 100000 in
theorem lk_1468 : mj_lk ip_L_law 1468 = some (.ifCond .ne 15, 3) := by decide +kernel
set_option maxRecDepth 100000 in
theorem lk_1471 : mj_lk ip_L_law 1471 = some (.aload_n 3, 1) := by decide +kernel
set_option maxRecDepth 100000 in
theorem lk_1472 : mj_lk ip_L_law 1472 = some (.iconst 0, 1) := by decide +kernel
set_option maxRecDepth 100000 in
theorem lk_1473 : mj_lk ip_L_law 1473 = some (.laload, 1) := by decide +kernel
set_option maxRecDepth 100000 in
theorem lk_1474 : mj_lk ip_L_law 1474 = some (.iload 6, 2) := by decide +kernel
set_option maxRecDepth 100000 in
theorem lk_1476 : mj_lk ip_L_law 1476 = some (.i2l, 1) := by decide +kernel
set_option maxRecDepth 100000 in
theorem lk_1477 : mj_lk ip_L_law 1477 = some (.lcmp, 1) := by decide +kernel
set_option maxRecDepth 100000 in
theorem lk_1478 : mj_lk ip_L_law 1478 = some (.ifCond .eq 5, 3) := by decide +kernel
set_option maxRecDepth 100000 in
theorem lk_1481 : mj_lk ip_L_law 1481 = some (.iconst 0, 1) := by decide +kernel
set_option maxRecDepth 100000 in
theorem lk_1482 : mj_lk ip_L_law 1482 = some (.ireturn, 1) := by decide +kernel
set_option maxRecDepth 100000 in
theorem lk_1483 : mj_lk ip_L_law 1483 = some (.goto 1792, 3) := by decide +kernel
set_option maxRecDepth 100000 in
theorem lk_1486 : mj_lk ip_L_law 1486 = some (.aload_n 1, 1) := by decide +kernel
set_option maxRecDepth 100000 in
theorem lk_1487 : mj_lk ip_L_law 1487 = some (.aload_n 0, 1) := by decide +kernel
set_option maxRecDepth 100000 in
theorem lk_1488 : mj_lk ip_L_law 1488 = some (.iload 4, 2) := by decide +kernel
set_option maxRecDepth 100000 in
theorem lk_1490 : mj_lk ip_L_law 1490 = some (.iconst 1, 1) := by decide +kernel
set_option maxRecDepth 100000 in
theorem lk_1491 : mj_lk ip_L_law 1491 = some (.iadd, 1) := by decide +kernel
set_option maxRecDepth 100000 in
theorem lk_1492 : mj_lk ip_L_law 1492 = some (.iaload, 1) := by decide +kernel
set_option maxRecDepth 100000 in
theorem lk_1493 : mj_lk ip_L_law 1493 = some (.aload_n 0, 1) := by decide +kernel
set_option maxRecDepth 100000 in
theorem lk_1494 : mj_lk ip_L_law 1494 = some (.iload 4, 2) := by decide +kernel
set_option maxRecDepth 100000 in
theorem lk_1496 : mj_lk ip_L_law 1496 = some (.iconst 2, 1) := by decide +kernel
set_option maxRecDepth 100000 in
theorem lk_1497 : mj_lk ip_L_law 1497 = some (.iadd, 1) := by decide +kernel
set_option maxRecDepth 100000 in
theorem lk_1498 : mj_lk ip_L_law 1498 = some (.iaload, 1) := by decide +kernel
set_option maxRecDepth 100000 in
theorem lk_1499 : mj_lk ip_L_law 1499 = some (.aload_n 0, 1) := by decide +kernel
set_option maxRecDepth 100000 in
theorem lk_1500 : mj_lk ip_L_law 1500 = some (.iload 4, 2) := by decide +kernel
set_option maxRecDepth 100000 in
theorem lk_1502 : mj_lk ip_L_law 1502 = some (.iconst 3, 1) := by decide +kernel
set_option maxRecDepth 100000 in
theorem lk_1503 : mj_lk ip_L_law 1503 = some (.iadd, 1) := by decide +kernel
set_option maxRecDepth 100000 in
theorem lk_1504 : mj_lk ip_L_law 1504 = some (.iaload, 1) := by decide +kernel
set_option maxRecDepth 100000 in
theorem lk_1505 : mj_lk ip_L_law 1505 = some (.aload_n 3, 1) := by decide +kernel
set_option maxRecDepth 100000 in
theorem lk_1506 : mj_lk ip_L_law 1506 = some (.invokestatic 228, 3) := by decide +kernel
set_option maxRecDepth 100000 in
theorem lk_1509 : mj_lk ip_L_law 1509 = some (.istore 5, 2) := by decide +kernel
set_option maxRecDepth 100000 in
theorem lk_1511 : mj_lk ip_L_law 1511 = some (.aload_n 2, 1) := by decide +kernel
set_option maxRecDepth 100000 in
theorem lk_1512 : mj_lk ip_L_law 1512 = some (.aload_n 0, 1) := by decide +kernel
set_option maxRecDepth 100000 in
theorem lk_1513 : mj_lk ip_L_law 1513 = some (.iload 4, 2) := by decide +kernel
set_option maxRecDepth 100000 in
theorem lk_1515 : mj_lk ip_L_law 1515 = some (.iconst 1, 1) := by decide +kernel
set_option maxRecDepth 100000 in
theorem lk_1516 : mj_lk ip_L_law 1516 = some (.iadd, 1) := by decide +kernel
set_option maxRecDepth 100000 in
theorem lk_1517 : mj_lk ip_L_law 1517 = some (.iaload, 1) := by decide +kernel
set_option maxRecDepth 100000 in
theorem lk_1518 : mj_lk ip_L_law 1518 = some (.aload_n 0, 1) := by decide +kernel
set_option maxRecDepth 100000 in
theorem lk_1519 : mj_lk ip_L_law 1519 = some (.iload 4, 2) := by decide +kernel
set_option maxRecDepth 100000 in
theorem lk_1521 : mj_lk ip_L_law 1521 = some (.iconst 2, 1) := by decide +kernel
set_option maxRecDepth 100000 in
theorem lk_1522 : mj_lk ip_L_law 1522 = some (.iadd, 1) := by decide +kernel
set_option maxRecDepth 100000 in
theorem lk_1523 : mj_lk ip_L_law 1523 = some (.iaload, 1) := by decide +kernel
set_option maxRecDepth 100000 in
theorem lk_1524 : mj_lk ip_L_law 1524 = some (.aload_n 0, 1) := by decide +kernel
set_option maxRecDepth 100000 in
theorem lk_1525 : mj_lk ip_L_law 1525 = some (.iload 4, 2) := by decide +kernel
set_option maxRecDepth 100000 in
theorem lk_1527 : mj_lk ip_L_law 1527 = some (.iconst 3, 1) := by decide +kernel
set_option maxRecDepth 100000 in
theorem lk_1528 : mj_lk ip_L_law 1528 = some (.iadd, 1) := by decide +kernel
set_option maxRecDepth 100000 in
theorem lk_1529 : mj_lk ip_L_law 1529 = some (.iaload, 1) := by decide +kernel
set_option maxRecDepth 100000 in
theorem lk_1530 : mj_lk ip_L_law 1530 = some (.invokevirtual 230, 3) := by decide +kernel
set_option maxRecDepth 100000 in
theorem lk_1533 : mj_lk ip_L_law 1533 = some (.istore 6, 2) := by decide +kernel
set_option maxRecDepth 100000 in
theorem lk_1535 : mj_lk ip_L_law 1535 = some (.aload_n 2, 1) := by decide +kernel
set_option maxRecDepth 100000 in
theorem lk_1536 : mj_lk ip_L_law 1536 = some (.invokevirtual 169, 3) := by decide +kernel
set_option maxRecDepth 100000 in
theorem lk_1539 : mj_lk ip_L_law 1539 = some (.iload 5, 2) := by decide +kernel
set_option maxRecDepth 100000 in
theorem lk_1541 : mj_lk ip_L_law 1541 = some (.if_icmp .eq 5, 3) := by decide +kernel
set_option maxRecDepth 100000 in
theorem lk_1544 : mj_lk ip_L_law 1544 = some (.iconst 0, 1) := by decide +kernel
set_option maxRecDepth 100000 in
theorem lk_1545 : mj_lk ip_L_law 1545 = some (.ireturn, 1) := by decide +kernel
set_option maxRecDepth 100000 in
theorem lk_1546 : mj_lk ip_L_law 1546 = some (.iload 5, 2) := by decide +kernel
set_option maxRecDepth 100000 in
theorem lk_1548 : mj_lk ip_L_law 1548 = some (.ifCond .ne 15, 3) := by decide +kernel
set_option maxRecDepth 100000 in
theorem lk_1551 : mj_lk ip_L_law 1551 = some (.aload_n 3, 1) := by decide +kernel
set_option maxRecDepth 100000 in
theorem lk_1552 : mj_lk ip_L_law 1552 = some (.iconst 0, 1) := by decide +kernel
set_option maxRecDepth 100000 in
theorem lk_1553 : mj_lk ip_L_law 1553 = some (.laload, 1) := by decide +kernel
set_option maxRecDepth 100000 in
theorem lk_1554 : mj_lk ip_L_law 1554 = some (.iload 6, 2) := by decide +kernel
set_option maxRecDepth 100000 in
theorem lk_1556 : mj_lk ip_L_law 1556 = some (.i2l, 1) := by decide +kernel
set_option maxRecDepth 100000 in
theorem lk_1557 : mj_lk ip_L_law 1557 = some (.lcmp, 1) := by decide +kernel
set_option maxRecDepth 100000 in
theorem lk_1558 : mj_lk ip_L_law 1558 = some (.ifCond .eq 5, 3) := by decide +kernel
set_option maxRecDepth 100000 in
theorem lk_1561 : mj_lk ip_L_law 1561 = some (.iconst 0, 1) := by decide +kernel
set_option maxRecDepth 100000 in
theorem lk_1562 : mj_lk ip_L_law 1562 = some (.ireturn, 1) := by decide +kernel
set_option maxRecDepth 100000 in
theorem lk_1563 : mj_lk ip_L_law 1563 = some (.goto 1712, 3) := by decide +kernel
set_option maxRecDepth 100000 in
theorem lk_1566 : mj_lk ip_L_law 1566 = some (.aload_n 1, 1) := by decide +kernel
set_option maxRecDepth 100000 in
theorem lk_1567 : mj_lk ip_L_law 1567 = some (.aload_n 0, 1) := by decide +kernel
set_option maxRecDepth 100000 in
theorem lk_1568 : mj_lk ip_L_law 1568 = some (.iload 4, 2) := by decide +kernel
set_option maxRecDepth 100000 in
theorem lk_1570 : mj_lk ip_L_law 1570 = some (.iconst 1, 1) := by decide +kernel
set_option maxRecDepth 100000 in
theorem lk_1571 : mj_lk ip_L_law 1571 = some (.iadd, 1) := by decide +kernel
set_option maxRecDepth 100000 in
theorem lk_1572 : mj_lk ip_L_law 1572 = some (.iaload, 1) := by decide +kernel
set_option maxRecDepth 100000 in
theorem lk_1573 : mj_lk ip_L_law 1573 = some (.aload_n 0, 1) := by decide +kernel
set_option maxRecDepth 100000 in
theorem lk_1574 : mj_lk ip_L_law 1574 = some (.iload 4, 2) := by decide +kernel
set_option maxRecDepth 100000 in
theorem lk_1576 : mj_lk ip_L_law 1576 = some (.iconst 2, 1) := by decide +kernel
set_option maxRecDepth 100000 in
theorem lk_1577 : mj_lk ip_L_law 1577 = some (.iadd, 1) := by decide +kernel
set_option maxRecDepth 100000 in
theorem lk_1578 : mj_lk ip_L_law 1578 = some (.iaload, 1) := by decide +kernel
set_option maxRecDepth 100000 in
theorem lk_1579 : mj_lk ip_L_law 1579 = some (.aload_n 3, 1) := by decide +kernel
set_option maxRecDepth 100000 in
theorem lk_1580 : mj_lk ip_L_law 1580 = some (.invokestatic 231, 3) := by decide +kernel
set_option maxRecDepth 100000 in
theorem lk_1583 : mj_lk ip_L_law 1583 = some (.istore 5, 2) := by decide +kernel
set_option maxRecDepth 100000 in
theorem lk_1585 : mj_lk ip_L_law 1585 = some (.aload_n 2, 1) := by decide +kernel
set_option maxRecDepth 100000 in
theorem lk_1586 : mj_lk ip_L_law 1586 = some (.aload_n 0, 1) := by decide +kernel
set_option maxRecDepth 100000 in
theorem lk_1587 : mj_lk ip_L_law 1587 = some (.iload 4, 2) := by decide +kernel
set_option maxRecDepth 100000 in
theorem lk_1589 : mj_lk ip_L_law 1589 = some (.iconst 1, 1) := by decide +kernel
set_option maxRecDepth 100000 in
theorem lk_1590 : mj_lk ip_L_law 1590 = some (.iadd, 1) := by decide +kernel
set_option maxRecDepth 100000 in
theorem lk_1591 : mj_lk ip_L_law 1591 = some (.iaload, 1) := by decide +kernel
set_option maxRecDepth 100000 in
theorem lk_1592 : mj_lk ip_L_law 1592 = some (.aload_n 0, 1) := by decide +kernel
set_option maxRecDepth 100000 in
theorem lk_1593 : mj_lk ip_L_law 1593 = some (.iload 4, 2) := by decide +kernel
set_option maxRecDepth 100000 in
theorem lk_1595 : mj_lk ip_L_law 1595 = some (.iconst 2, 1) := by decide +kernel
set_option maxRecDepth 100000 in
theorem lk_1596 : mj_lk ip_L_law 1596 = some (.iadd, 1) := by decide +kernel
set_option maxRecDepth 100000 in
theorem lk_1597 : mj_lk ip_L_law 1597 = some (.iaload, 1) := by decide +kernel
set_option maxRecDepth 100000 in
theorem lk_1598 : mj_lk ip_L_law 1598 = some (.invokevirtual 233, 3) := by decide +kernel
set_option maxRecDepth 100000 in
theorem lk_1601 : mj_lk ip_L_law 1601 = some (.istore 6, 2) := by decide +kernel
set_option maxRecDepth 100000 in
theorem lk_1603 : mj_lk ip_L_law 1603 = some (.aload_n 2, 1) := by decide +kernel
set_option maxRecDepth 100000 in
theorem lk_1604 : mj_lk ip_L_law 1604 = some (.invokevirtual 169, 3) := by decide +kernel
set_option maxRecDepth 100000 in
theorem lk_1607 : mj_lk ip_L_law 1607 = some (.iload 5, 2) := by decide +kernel
set_option maxRecDepth 100000 in
theorem lk_1609 : mj_lk ip_L_law 1609 = some (.if_icmp .eq 5, 3) := by decide +kernel
set_option maxRecDepth 100000 in
theorem lk_1612 : mj_lk ip_L_law 1612 = some (.iconst 0, 1) := by decide +kernel
set_option maxRecDepth 100000 in
theorem lk_1613 : mj_lk ip_L_law 1613 = some (.ireturn, 1) := by decide +kernel
set_option maxRecDepth 100000 in
theorem lk_1614 : mj_lk ip_L_law 1614 = some (.iload 5, 2) := by decide +kernel
set_option maxRecDepth 100000 in
theorem lk_1616 : mj_lk ip_L_law 1616 = some (.ifCond .ne 15, 3) := by decide +kernel
set_option maxRecDepth 100000 in
theorem lk_1619 : mj_lk ip_L_law 1619 = some (.aload_n 3, 1) := by decide +kernel
set_option maxRecDepth 100000 in
theorem lk_1620 : mj_lk ip_L_law 1620 = some (.iconst 0, 1) := by decide +kernel
set_option maxRecDepth 100000 in
theorem lk_1621 : mj_lk ip_L_law 1621 = some (.laload, 1) := by decide +kernel
set_option maxRecDepth 100000 in
theorem lk_1622 : mj_lk ip_L_law 1622 = some (.iload 6, 2) := by decide +kernel
set_option maxRecDepth 100000 in
theorem lk_1624 : mj_lk ip_L_law 1624 = some (.i2l, 1) := by decide +kernel
set_option maxRecDepth 100000 in
theorem lk_1625 : mj_lk ip_L_law 1625 = some (.lcmp, 1) := by decide +kernel
set_option maxRecDepth 100000 in
theorem lk_1626 : mj_lk ip_L_law 1626 = some (.ifCond .eq 5, 3) := by decide +kernel
set_option maxRecDepth 100000 in
theorem lk_1629 : mj_lk ip_L_law 1629 = some (.iconst 0, 1) := by decide +kernel
set_option maxRecDepth 100000 in
theorem lk_1630 : mj_lk ip_L_law 1630 = some (.ireturn, 1) := by decide +kernel
set_option maxRecDepth 100000 in
theorem lk_1631 : mj_lk ip_L_law 1631 = some (.goto 1644, 3) := by decide +kernel
set_option maxRecDepth 100000 in
theorem lk_1634 : mj_lk ip_L_law 1634 = some (.aload_n 1, 1) := by decide +kernel
set_option maxRecDepth 100000 in
theorem lk_1635 : mj_lk ip_L_law 1635 = some (.aload_n 0, 1) := by decide +kernel
set_option maxRecDepth 100000 in
theorem lk_1636 : mj_lk ip_L_law 1636 = some (.iload 4, 2) := by decide +kernel
set_option maxRecDepth 100000 in
theorem lk_1638 : mj_lk ip_L_law 1638 = some (.iconst 1, 1) := by decide +kernel
set_option maxRecDepth 100000 in
theorem lk_1639 : mj_lk ip_L_law 1639 = some (.iadd, 1) := by decide +kernel
set_option maxRecDepth 100000 in
theorem lk_1640 : mj_lk ip_L_law 1640 = some (.iaload, 1) := by decide +kernel
set_option maxRecDepth 100000 in
theorem lk_1641 : mj_lk ip_L_law 1641 = some (.ifCond .eq 7, 3) := by decide +kernel
set_option maxRecDepth 100000 in
theorem lk_1644 : mj_lk ip_L_law 1644 = some (.iconst 1, 1) := by decide +kernel
set_option maxRecDepth 100000 in
theorem lk_1645 : mj_lk ip_L_law 1645 = some (.goto 4, 3) := by decide +kernel
set_option maxRecDepth 100000 in
theorem lk_1648 : mj_lk ip_L_law 1648 = some (.iconst 0, 1) := by decide +kernel
set_option maxRecDepth 100000 in
theorem lk_1649 : mj_lk ip_L_law 1649 = some (.aload_n 3, 1) := by decide +kernel
set_option maxRecDepth 100000 in
theorem lk_1650 : mj_lk ip_L_law 1650 = some (.invokestatic 234, 3) := by decide +kernel
set_option maxRecDepth 100000 in
theorem lk_1653 : mj_lk ip_L_law 1653 = some (.istore 5, 2) := by decide +kernel
set_option maxRecDepth 100000 in
theorem lk_1655 : mj_lk ip_L_law 1655 = some (.aload_n 2, 1) := by decide +kernel
set_option maxRecDepth 100000 in
theorem lk_1656 : mj_lk ip_L_law 1656 = some (.aload_n 0, 1) := by decide +kernel
set_option maxRecDepth 100000 in
theorem lk_1657 : mj_lk ip_L_law 1657 = some (.iload 4, 2) := by decide +kernel
set_option maxRecDepth 100000 in
theorem lk_1659 : mj_lk ip_L_law 1659 = some (.iconst 1, 1) := by decide +kernel
set_option maxRecDepth 100000 in
theorem lk_1660 : mj_lk ip_L_law 1660 = some (.iadd, 1) := by decide +kernel
set_option maxRecDepth 100000 in
theorem lk_1661 : mj_lk ip_L_law 1661 = some (.iaload, 1) := by decide +kernel
set_option maxRecDepth 100000 in
theorem lk_1662 : mj_lk ip_L_law 1662 = some (.ifCond .eq 7, 3) := by decide +kernel
set_option maxRecDepth 100000 in
theorem lk_1665 : mj_lk ip_L_law 1665 = some (.iconst 1, 1) := by decide +kernel
set_option maxRecDepth 100000 in
theorem lk_1666 : mj_lk ip_L_law 1666 = some (.goto 4, 3) := by decide +kernel
set_option maxRecDepth 100000 in
theorem lk_1669 : mj_lk ip_L_law 1669 = some (.iconst 0, 1) := by decide +kernel
set_option maxRecDepth 100000 in
theorem lk_1670 : mj_lk ip_L_law 1670 = some (.invokevirtual 237, 3) := by decide +kernel
set_option maxRecDepth 100000 in
theorem lk_1673 : mj_lk ip_L_law 1673 = some (.istore 6, 2) := by decide +kernel
set_option maxRecDepth 100000 in
theorem lk_1675 : mj_lk ip_L_law 1675 = some (.aload_n 2, 1) := by decide +kernel
set_option maxRecDepth 100000 in
theorem lk_1676 : mj_lk ip_L_law 1676 = some (.invokevirtual 169, 3) := by decide +kernel
set_option maxRecDepth 100000 in
theorem lk_1679 : mj_lk ip_L_law 1679 = some (.iload 5, 2) := by decide +kernel
set_option maxRecDepth 100000 in
theorem lk_1681 : mj_lk ip_L_law 1681 = some (.if_icmp .eq 5, 3) := by decide +kernel
set_option maxRecDepth 100000 in
theorem lk_1684 : mj_lk ip_L_law 1684 = some (.iconst 0, 1) := by decide +kernel
set_option maxRecDepth 100000 in
theorem lk_1685 : mj_lk ip_L_law 1685 = some (.ireturn, 1) := by decide +kernel
set_option maxRecDepth 100000 in
theorem lk_1686 : mj_lk ip_L_law 1686 = some (.iload 5, 2) := by decide +kernel
set_option maxRecDepth 100000 in
theorem lk_1688 : mj_lk ip_L_law 1688 = some (.ifCond .ne 22, 3) := by decide +kernel
set_option maxRecDepth 100000 in
theorem lk_1691 : mj_lk ip_L_law 1691 = some (.aload_n 3, 1) := by decide +kernel
set_option maxRecDepth 100000 in
theorem lk_1692 : mj_lk ip_L_law 1692 = some (.iconst 0, 1) := by decide +kernel
set_option maxRecDepth 100000 in
theorem lk_1693 : mj_lk ip_L_law 1693 = some (.laload, 1) := by decide +kernel
set_option maxRecDepth 100000 in
theorem lk_1694 : mj_lk ip_L_law 1694 = some (.iload 6, 2) := by decide +kernel
set_option maxRecDepth 100000 in
theorem lk_1696 : mj_lk ip_L_law 1696 = some (.ifCond .eq 7, 3) := by decide +kernel
set_option maxRecDepth 100000 in
theorem lk_1699 : mj_lk ip_L_law 1699 = some (.lconst 1, 1) := by decide +kernel
set_option maxRecDepth 100000 in
theorem lk_1700 : mj_lk ip_L_law 1700 = some (.goto 4, 3) := by decide +kernel
set_option maxRecDepth 100000 in
theorem lk_1703 : mj_lk ip_L_law 1703 = some (.lconst 0, 1) := by decide +kernel
set_option maxRecDepth 100000 in
theorem lk_1704 : mj_lk ip_L_law 1704 = some (.lcmp, 1) := by decide +kernel
set_option maxRecDepth 100000 in
theorem lk_1705 : mj_lk ip_L_law 1705 = some (.ifCond .eq 5, 3) := by decide +kernel
set_option maxRecDepth 100000 in
theorem lk_1708 : mj_lk ip_L_law 1708 = some (.iconst 0, 1) := by decide +kernel
set_option maxRecDepth 100000 in
theorem lk_1709 : mj_lk ip_L_law 1709 = some (.ireturn, 1) := by decide +kernel
set_option maxRecDepth 100000 in
theorem lk_1710 : mj_lk ip_L_law 1710 = some (.goto 1565, 3) := by decide +kernel
set_option maxRecDepth 100000 in
theorem lk_1713 : mj_lk ip_L_law 1713 = some (.aload_n 1, 1) := by decide +kernel
set_option maxRecDepth 100000 in
theorem lk_1714 : mj_lk ip_L_law 1714 = some (.aload_n 0, 1) := by decide +kernel
set_option maxRecDepth 100000 in
theorem lk_1715 : mj_lk ip_L_law 1715 = some (.iload 4, 2) := by decide +kernel
set_option maxRecDepth 100000 in
theorem lk_1717 : mj_lk ip_L_law 1717 = some (.iconst 1, 1) := by decide +kernel
set_option maxRecDepth 100000 in
theorem lk_1718 : mj_lk ip_L_law 1718 = some (.iadd, 1) := by decide +kernel
set_option maxRecDepth 100000 in
theorem lk_1719 : mj_lk ip_L_law 1719 = some (.iaload, 1) := by decide +kernel
set_option maxRecDepth 100000 in
theorem lk_1720 : mj_lk ip_L_law 1720 = some (.aload_n 3, 1) := by decide +kernel
set_option maxRecDepth 100000 in
theorem lk_1721 : mj_lk ip_L_law 1721 = some (.invokestatic 238, 3) := by decide +kernel
set_option maxRecDepth 100000 in
theorem lk_1724 : mj_lk ip_L_law 1724 = some (.istore 5, 2) := by decide +kernel
set_option maxRecDepth 100000 in
theorem lk_1726 : mj_lk ip_L_law 1726 = some (.aload_n 2, 1) := by decide +kernel
set_option maxRecDepth 100000 in
theorem lk_1727 : mj_lk ip_L_law 1727 = some (.aload_n 0, 1) := by decide +kernel
set_option maxRecDepth 100000 in
theorem lk_1728 : mj_lk ip_L_law 1728 = some (.iload 4, 2) := by decide +kernel
set_option maxRecDepth 100000 in
theorem lk_1730 : mj_lk ip_L_law 1730 = some (.iconst 1, 1) := by decide +kernel
set_option maxRecDepth 100000 in
theorem lk_1731 : mj_lk ip_L_law 1731 = some (.iadd, 1) := by decide +kernel
set_option maxRecDepth 100000 in
theorem lk_1732 : mj_lk ip_L_law 1732 = some (.iaload, 1) := by decide +kernel
set_option maxRecDepth 100000 in
theorem lk_1733 : mj_lk ip_L_law 1733 = some (.invokevirtual 240, 3) := by decide +kernel
set_option maxRecDepth 100000 in
theorem lk_1736 : mj_lk ip_L_law 1736 = some (.istore 6, 2) := by decide +kernel
set_option maxRecDepth 100000 in
theorem lk_1738 : mj_lk ip_L_law 1738 = some (.aload_n 2, 1) := by decide +kernel
set_option maxRecDepth 100000 in
theorem lk_1739 : mj_lk ip_L_law 1739 = some (.invokevirtual 169, 3) := by decide +kernel
set_option maxRecDepth 100000 in
theorem lk_1742 : mj_lk ip_L_law 1742 = some (.iload 5, 2) := by decide +kernel
set_option maxRecDepth 100000 in
theorem lk_1744 : mj_lk ip_L_law 1744 = some (.if_icmp .eq 5, 3) := by decide +kernel
set_option maxRecDepth 100000 in
theorem lk_1747 : mj_lk ip_L_law 1747 = some (.iconst 0, 1) := by decide +kernel
set_option maxRecDepth 100000 in
theorem lk_1748 : mj_lk ip_L_law 1748 = some (.ireturn, 1) := by decide +kernel
set_option maxRecDepth 100000 in
theorem lk_1749 : mj_lk ip_L_law 1749 = some (.iload 5, 2) := by decide +kernel
set_option maxRecDepth 100000 in
theorem lk_1751 : mj_lk ip_L_law 1751 = some (.ifCond .ne 22, 3) := by decide +kernel
set_option maxRecDepth 100000 in
theorem lk_1754 : mj_lk ip_L_law 1754 = some (.aload_n 3, 1) := by decide +kernel
set_option maxRecDepth 100000 in
theorem lk_1755 : mj_lk ip_L_law 1755 = some (.iconst 0, 1) := by decide +kernel
set_option maxRecDepth 100000 in
theorem lk_1756 : mj_lk ip_L_law 1756 = some (.laload, 1) := by decide +kernel
set_option maxRecDepth 100000 in
theorem lk_1757 : mj_lk ip_L_law 1757 = some (.iload 6, 2) := by decide +kernel
set_option maxRecDepth 100000 in
theorem lk_1759 : mj_lk ip_L_law 1759 = some (.ifCond .eq 7, 3) := by decide +kernel
set_option maxRecDepth 100000 in
theorem lk_1762 : mj_lk ip_L_law 1762 = some (.lconst 1, 1) := by decide +kernel
set_option maxRecDepth 100000 in
theorem lk_1763 : mj_lk ip_L_law 1763 = some (.goto 4, 3) := by decide +kernel
set_option maxRecDepth 100000 in
theorem lk_1766 : mj_lk ip_L_law 1766 = some (.lconst 0, 1) := by decide +kernel
set_option maxRecDepth 100000 in
theorem lk_1767 : mj_lk ip_L_law 1767 = some (.lcmp, 1) := by decide +kernel
set_option maxRecDepth 100000 in
theorem lk_1768 : mj_lk ip_L_law 1768 = some (.ifCond .eq 5, 3) := by decide +kernel
set_option maxRecDepth 100000 in
theorem lk_1771 : mj_lk ip_L_law 1771 = some (.iconst 0, 1) := by decide +kernel
set_option maxRecDepth 100000 in
theorem lk_1772 : mj_lk ip_L_law 1772 = some (.ireturn, 1) := by decide +kernel
set_option maxRecDepth 100000 in
theorem lk_1773 : mj_lk ip_L_law 1773 = some (.goto 1502, 3) := by decide +kernel
set_option maxRecDepth 100000 in
theorem lk_1776 : mj_lk ip_L_law 1776 = some (.aload_n 1, 1) := by decide +kernel
set_option maxRecDepth 100000 in
theorem lk_1777 : mj_lk ip_L_law 1777 = some (.aload_n 0, 1) := by decide +kernel
set_option maxRecDepth 100000 in
theorem lk_1778 : mj_lk ip_L_law 1778 = some (.iload 4, 2) := by decide +kernel
set_option maxRecDepth 100000 in
theorem lk_1780 : mj_lk ip_L_law 1780 = some (.iconst 1, 1) := by decide +kernel
set_option maxRecDepth 100000 in
theorem lk_1781 : mj_lk ip_L_law 1781 = some (.iadd, 1) := by decide +kernel
set_option maxRecDepth 100000 in
theorem lk_1782 : mj_lk ip_L_law 1782 = some (.iaload, 1) := by decide +kernel
set_option maxRecDepth 100000 in
theorem lk_1783 : mj_lk ip_L_law 1783 = some (.aload_n 0, 1) := by decide +kernel
set_option maxRecDepth 100000 in
theorem lk_1784 : mj_lk ip_L_law 1784 = some (.iload 4, 2) := by decide +kernel
set_option maxRecDepth 100000 in
theorem lk_1786 : mj_lk ip_L_law 1786 = some (.iconst 2, 1) := by decide +kernel
set_option maxRecDepth 100000 in
theorem lk_1787 : mj_lk ip_L_law 1787 = some (.iadd, 1) := by decide +kernel
set_option maxRecDepth 100000 in
theorem lk_1788 : mj_lk ip_L_law 1788 = some (.iaload, 1) := by decide +kernel
set_option maxRecDepth 100000 in
theorem lk_1789 : mj_lk ip_L_law 1789 = some (.aload_n 3, 1) := by decide +kernel
set_option maxRecDepth 100000 in
theorem lk_1790 : mj_lk ip_L_law 1790 = some (.invokestatic 241, 3) := by decide +kernel
set_option maxRecDepth 100000 in
theorem lk_1793 : mj_lk ip_L_law 1793 = some (.istore 5, 2) := by decide +kernel
set_option maxRecDepth 100000 in
theorem lk_1795 : mj_lk ip_L_law 1795 = some (.aload_n 2, 1) := by decide +kernel
set_option maxRecDepth 100000 in
theorem lk_1796 : mj_lk ip_L_law 1796 = some (.aload_n 0, 1) := by decide +kernel
set_option maxRecDepth 100000 in
theorem lk_1797 : mj_lk ip_L_law 1797 = some (.iload 4, 2) := by decide +kernel
set_option maxRecDepth 100000 in
theorem lk_1799 : mj_lk ip_L_law 1799 = some (.iconst 1, 1) := by decide +kernel
set_option maxRecDepth 100000 in
theorem lk_1800 : mj_lk ip_L_law 1800 = some (.iadd, 1) := by decide +kernel
set_option maxRecDepth 100000 in
theorem lk_1801 : mj_lk ip_L_law 1801 = some (.iaload, 1) := by decide +kernel
set_option maxRecDepth 100000 in
theorem lk_1802 : mj_lk ip_L_law 1802 = some (.aload_n 0, 1) := by decide +kernel
set_option maxRecDepth 100000 in
theorem lk_1803 : mj_lk ip_L_law 1803 = some (.iload 4, 2) := by decide +kernel
set_option maxRecDepth 100000 in
theorem lk_1805 : mj_lk ip_L_law 1805 = some (.iconst 2, 1) := by decide +kernel
set_option maxRecDepth 100000 in
theorem lk_1806 : mj_lk ip_L_law 1806 = some (.iadd, 1) := by decide +kernel
set_option maxRecDepth 100000 in
theorem lk_1807 : mj_lk ip_L_law 1807 = some (.iaload, 1) := by decide +kernel
set_option maxRecDepth 100000 in
theorem lk_1808 : mj_lk ip_L_law 1808 = some (.invokevirtual 243, 3) := by decide +kernel
set_option maxRecDepth 100000 in
theorem lk_1811 : mj_lk ip_L_law 1811 = some (.istore 6, 2) := by decide +kernel
set_option maxRecDepth 100000 in
theorem lk_1813 : mj_lk ip_L_law 1813 = some (.aload_n 2, 1) := by decide +kernel
set_option maxRecDepth 100000 in
theorem lk_1814 : mj_lk ip_L_law 1814 = some (.invokevirtual 169, 3) := by decide +kernel
set_option maxRecDepth 100000 in
theorem lk_1817 : mj_lk ip_L_law 1817 = some (.iload 5, 2) := by decide +kernel
set_option maxRecDepth 100000 in
theorem lk_1819 : mj_lk ip_L_law 1819 = some (.if_icmp .eq 5, 3) := by decide +kernel
set_option maxRecDepth 100000 in
theorem lk_1822 : mj_lk ip_L_law 1822 = some (.iconst 0, 1) := by decide +kernel
set_option maxRecDepth 100000 in
theorem lk_1823 : mj_lk ip_L_law 1823 = some (.ireturn, 1) := by decide +kernel
set_option maxRecDepth 100000 in
theorem lk_1824 : mj_lk ip_L_law 1824 = some (.iload 5, 2) := by decide +kernel
set_option maxRecDepth 100000 in
theorem lk_1826 : mj_lk ip_L_law 1826 = some (.ifCond .ne 15, 3) := by decide +kernel
set_option maxRecDepth 100000 in
theorem lk_1829 : mj_lk ip_L_law 1829 = some (.aload_n 3, 1) := by decide +kernel
set_option maxRecDepth 100000 in
theorem lk_1830 : mj_lk ip_L_law 1830 = some (.iconst 0, 1) := by decide +kernel
set_option maxRecDepth 100000 in
theorem lk_1831 : mj_lk ip_L_law 1831 = some (.laload, 1) := by decide +kernel
set_option maxRecDepth 100000 in
theorem lk_1832 : mj_lk ip_L_law 1832 = some (.iload 6, 2) := by decide +kernel
set_option maxRecDepth 100000 in
theorem lk_1834 : mj_lk ip_L_law 1834 = some (.i2l, 1) := by decide +kernel
set_option maxRecDepth 100000 in
theorem lk_1835 : mj_lk ip_L_law 1835 = some (.lcmp, 1) := by decide +kernel
set_option maxRecDepth 100000 in
theorem lk_1836 : mj_lk ip_L_law 1836 = some (.ifCond .eq 5, 3) := by decide +kernel
set_option maxRecDepth 100000 in
theorem lk_1839 : mj_lk ip_L_law 1839 = some (.iconst 0, 1) := by decide +kernel
set_option maxRecDepth 100000 in
theorem lk_1840 : mj_lk ip_L_law 1840 = some (.ireturn, 1) := by decide +kernel
set_option maxRecDepth 100000 in
theorem lk_1841 : mj_lk ip_L_law 1841 = some (.goto 1434, 3) := by decide +kernel
set_option maxRecDepth 100000 in
theorem lk_1844 : mj_lk ip_L_law 1844 = some (.aload_n 1, 1) := by decide +kernel
set_option maxRecDepth 100000 in
theorem lk_1845 : mj_lk ip_L_law 1845 = some (.aload_n 0, 1) := by decide +kernel
set_option maxRecDepth 100000 in
theorem lk_1846 : mj_lk ip_L_law 1846 = some (.iload 4, 2) := by decide +kernel
set_option maxRecDepth 100000 in
theorem lk_1848 : mj_lk ip_L_law 1848 = some (.iconst 1, 1) := by decide +kernel
set_option maxRecDepth 100000 in
theorem lk_1849 : mj_lk ip_L_law 1849 = some (.iadd, 1) := by decide +kernel
set_option maxRecDepth 100000 in
theorem lk_1850 : mj_lk ip_L_law 1850 = some (.iaload, 1) := by decide +kernel
set_option maxRecDepth 100000 in
theorem lk_1851 : mj_lk ip_L_law 1851 = some (.aload_n 0, 1) := by decide +kernel
set_option maxRecDepth 100000 in
theorem lk_1852 : mj_lk ip_L_law 1852 = some (.iload 4, 2) := by decide +kernel
set_option maxRecDepth 100000 in
theorem lk_1854 : mj_lk ip_L_law 1854 = some (.iconst 2, 1) := by decide +kernel
set_option maxRecDepth 100000 in
theorem lk_1855 : mj_lk ip_L_law 1855 = some (.iadd, 1) := by decide +kernel
set_option maxRecDepth 100000 in
theorem lk_1856 : mj_lk ip_L_law 1856 = some (.iaload, 1) := by decide +kernel
set_option maxRecDepth 100000 in
theorem lk_1857 : mj_lk ip_L_law 1857 = some (.aload_n 0, 1) := by decide +kernel
set_option maxRecDepth 100000 in
theorem lk_1858 : mj_lk ip_L_law 1858 = some (.iload 4, 2) := by decide +kernel
set_option maxRecDepth 100000 in
theorem lk_1860 : mj_lk ip_L_law 1860 = some (.iconst 3, 1) := by decide +kernel
set_option maxRecDepth 100000 in
theorem lk_1861 : mj_lk ip_L_law 1861 = some (.iadd, 1) := by decide +kernel
set_option maxRecDepth 100000 in
theorem lk_1862 : mj_lk ip_L_law 1862 = some (.iaload, 1) := by decide +kernel
set_option maxRecDepth 100000 in
theorem lk_1863 : mj_lk ip_L_law 1863 = some (.aload_n 0, 1) := by decide +kernel
set_option maxRecDepth 100000 in
theorem lk_1864 : mj_lk ip_L_law 1864 = some (.iload 4, 2) := by decide +kernel
set_option maxRecDepth 100000 in
theorem lk_1866 : mj_lk ip_L_law 1866 = some (.iconst 4, 1) := by decide +kernel
set_option maxRecDepth 100000 in
theorem lk_1867 : mj_lk ip_L_law 1867 = some (.iadd, 1) := by decide +kernel
set_option maxRecDepth 100000 in
theorem lk_1868 : mj_lk ip_L_law 1868 = some (.iaload, 1) := by decide +kernel
set_option maxRecDepth 100000 in
theorem lk_1869 : mj_lk ip_L_law 1869 = some (.aload_n 0, 1) := by decide +kernel
set_option maxRecDepth 100000 in
theorem lk_1870 : mj_lk ip_L_law 1870 = some (.iload 4, 2) := by decide +kernel
set_option maxRecDepth 100000 in
theorem lk_1872 : mj_lk ip_L_law 1872 = some (.iconst 5, 1) := by decide +kernel
set_option maxRecDepth 100000 in
theorem lk_1873 : mj_lk ip_L_law 1873 = some (.iadd, 1) := by decide +kernel
set_option maxRecDepth 100000 in
theorem lk_1874 : mj_lk ip_L_law 1874 = some (.iaload, 1) := by decide +kernel
set_option maxRecDepth 100000 in
theorem lk_1875 : mj_lk ip_L_law 1875 = some (.aload_n 0, 1) := by decide +kernel
set_option maxRecDepth 100000 in
theorem lk_1876 : mj_lk ip_L_law 1876 = some (.iload 4, 2) := by decide +kernel
set_option maxRecDepth 100000 in
theorem lk_1878 : mj_lk ip_L_law 1878 = some (.bipush 6, 2) := by decide +kernel
set_option maxRecDepth 100000 in
theorem lk_1880 : mj_lk ip_L_law 1880 = some (.iadd, 1) := by decide +kernel
set_option maxRecDepth 100000 in
theorem lk_1881 : mj_lk ip_L_law 1881 = some (.iaload, 1) := by decide +kernel
set_option maxRecDepth 100000 in
theorem lk_1882 : mj_lk ip_L_law 1882 = some (.aload_n 3, 1) := by decide +kernel
set_option maxRecDepth 100000 in
theorem lk_1883 : mj_lk ip_L_law 1883 = some (.invokestatic 244, 3) := by decide +kernel
set_option maxRecDepth 100000 in
theorem lk_1886 : mj_lk ip_L_law 1886 = some (.istore 5, 2) := by decide +kernel
set_option maxRecDepth 100000 in
theorem lk_1888 : mj_lk ip_L_law 1888 = some (.aload_n 2, 1) := by decide +kernel
set_option maxRecDepth 100000 in
theorem lk_1889 : mj_lk ip_L_law 1889 = some (.aload_n 0, 1) := by decide +kernel
set_option maxRecDepth 100000 in
theorem lk_1890 : mj_lk ip_L_law 1890 = some (.iload 4, 2) := by decide +kernel
set_option maxRecDepth 100000 in
theorem lk_1892 : mj_lk ip_L_law 1892 = some (.iconst 1, 1) := by decide +kernel
set_option maxRecDepth 100000 in
theorem lk_1893 : mj_lk ip_L_law 1893 = some (.iadd, 1) := by decide +kernel
set_option maxRecDepth 100000 in
theorem lk_1894 : mj_lk ip_L_law 1894 = some (.iaload, 1) := by decide +kernel
set_option maxRecDepth 100000 in
theorem lk_1895 : mj_lk ip_L_law 1895 = some (.aload_n 0, 1) := by decide +kernel
set_option maxRecDepth 100000 in
theorem lk_1896 : mj_lk ip_L_law 1896 = some (.iload 4, 2) := by decide +kernel
set_option maxRecDepth 100000 in
theorem lk_1898 : mj_lk ip_L_law 1898 = some (.iconst 2, 1) := by decide +kernel
set_option maxRecDepth 100000 in
theorem lk_1899 : mj_lk ip_L_law 1899 = some (.iadd, 1) := by decide +kernel
set_option maxRecDepth 100000 in
theorem lk_1900 : mj_lk ip_L_law 1900 = some (.iaload, 1) := by decide +kernel
set_option maxRecDepth 100000 in
theorem lk_1901 : mj_lk ip_L_law 1901 = some (.aload_n 0, 1) := by decide +kernel
set_option maxRecDepth 100000 in
theorem lk_1902 : mj_lk ip_L_law 1902 = some (.iload 4, 2) := by decide +kernel
set_option maxRecDepth 100000 in
theorem lk_1904 : mj_lk ip_L_law 1904 = some (.iconst 3, 1) := by decide +kernel
set_option maxRecDepth 100000 in
theorem lk_1905 : mj_lk ip_L_law 1905 = some (.iadd, 1) := by decide +kernel
set_option maxRecDepth 100000 in
theorem lk_1906 : mj_lk ip_L_law 1906 = some (.iaload, 1) := by decide +kernel
set_option maxRecDepth 100000 in
theorem lk_1907 : mj_lk ip_L_law 1907 = some (.aload_n 0, 1) := by decide +kernel
set_option maxRecDepth 100000 in
theorem lk_1908 : mj_lk ip_L_law 1908 = some (.iload 4, 2) := by decide +kernel
set_option maxRecDepth 100000 in
theorem lk_1910 : mj_lk ip_L_law 1910 = some (.iconst 4, 1) := by decide +kernel
set_option maxRecDepth 100000 in
theorem lk_1911 : mj_lk ip_L_law 1911 = some (.iadd, 1) := by decide +kernel
set_option maxRecDepth 100000 in
theorem lk_1912 : mj_lk ip_L_law 1912 = some (.iaload, 1) := by decide +kernel
set_option maxRecDepth 100000 in
theorem lk_1913 : mj_lk ip_L_law 1913 = some (.aload_n 0, 1) := by decide +kernel
set_option maxRecDepth 100000 in
theorem lk_1914 : mj_lk ip_L_law 1914 = some (.iload 4, 2) := by decide +kernel
set_option maxRecDepth 100000 in
theorem lk_1916 : mj_lk ip_L_law 1916 = some (.iconst 5, 1) := by decide +kernel
set_option maxRecDepth 100000 in
theorem lk_1917 : mj_lk ip_L_law 1917 = some (.iadd, 1) := by decide +kernel
set_option maxRecDepth 100000 in
theorem lk_1918 : mj_lk ip_L_law 1918 = some (.iaload, 1) := by decide +kernel
set_option maxRecDepth 100000 in
theorem lk_1919 : mj_lk ip_L_law 1919 = some (.aload_n 0, 1) := by decide +kernel
set_option maxRecDepth 100000 in
theorem lk_1920 : mj_lk ip_L_law 1920 = some (.iload 4, 2) := by decide +kernel
set_option maxRecDepth 100000 in
theorem lk_1922 : mj_lk ip_L_law 1922 = some (.bipush 6, 2) := by decide +kernel
set_option maxRecDepth 100000 in
theorem lk_1924 : mj_lk ip_L_law 1924 = some (.iadd, 1) := by decide +kernel
set_option maxRecDepth 100000 in
theorem lk_1925 : mj_lk ip_L_law 1925 = some (.iaload, 1) := by decide +kernel
set_option maxRecDepth 100000 in
theorem lk_1926 : mj_lk ip_L_law 1926 = some (.invokevirtual 247, 3) := by decide +kernel
set_option maxRecDepth 100000 in
theorem lk_1929 : mj_lk ip_L_law 1929 = some (.istore 6, 2) := by decide +kernel
set_option maxRecDepth 100000 in
theorem lk_1931 : mj_lk ip_L_law 1931 = some (.aload_n 2, 1) := by decide +kernel
set_option maxRecDepth 100000 in
theorem lk_1932 : mj_lk ip_L_law 1932 = some (.invokevirtual 169, 3) := by decide +kernel
set_option maxRecDepth 100000 in
theorem lk_1935 : mj_lk ip_L_law 1935 = some (.iload 5, 2) := by decide +kernel
set_option maxRecDepth 100000 in
theorem lk_1937 : mj_lk ip_L_law 1937 = some (.if_icmp .eq 5, 3) := by decide +kernel
set_option maxRecDepth 100000 in
theorem lk_1940 : mj_lk ip_L_law 1940 = some (.iconst 0, 1) := by decide +kernel
set_option maxRecDepth 100000 in
theorem lk_1941 : mj_lk ip_L_law 1941 = some (.ireturn, 1) := by decide +kernel
set_option maxRecDepth 100000 in
theorem lk_1942 : mj_lk ip_L_law 1942 = some (.iload 5, 2) := by decide +kernel
set_option maxRecDepth 100000 in
theorem lk_1944 : mj_lk ip_L_law 1944 = some (.ifCond .ne 15, 3) := by decide +kernel
set_option maxRecDepth 100000 in
theorem lk_1947 : mj_lk ip_L_law 1947 = some (.aload_n 3, 1) := by decide +kernel
set_option maxRecDepth 100000 in
theorem lk_1948 : mj_lk ip_L_law 1948 = some (.iconst 0, 1) := by decide +kernel
set_option maxRecDepth 100000 in
theorem lk_1949 : mj_lk ip_L_law 1949 = some (.laload, 1) := by decide +kernel
set_option maxRecDepth 100000 in
theorem lk_1950 : mj_lk ip_L_law 1950 = some (.iload 6, 2) := by decide +kernel
set_option maxRecDepth 100000 in
theorem lk_1952 : mj_lk ip_L_law 1952 = some (.i2l, 1) := by decide +kernel
set_option maxRecDepth 100000 in
theorem lk_1953 : mj_lk ip_L_law 1953 = some (.lcmp, 1) := by decide +kernel
set_option maxRecDepth 100000 in
theorem lk_1954 : mj_lk ip_L_law 1954 = some (.ifCond .eq 5, 3) := by decide +kernel
set_option maxRecDepth 100000 in
theorem lk_1957 : mj_lk ip_L_law 1957 = some (.iconst 0, 1) := by decide +kernel
set_option maxRecDepth 100000 in
theorem lk_1958 : mj_lk ip_L_law 1958 = some (.ireturn, 1) := by decide +kernel
set_option maxRecDepth 100000 in
theorem lk_1959 : mj_lk ip_L_law 1959 = some (.goto 1316, 3) := by decide +kernel
set_option maxRecDepth 100000 in
theorem lk_1962 : mj_lk ip_L_law 1962 = some (.aload_n 1, 1) := by decide +kernel
set_option maxRecDepth 100000 in
theorem lk_1963 : mj_lk ip_L_law 1963 = some (.aload_n 0, 1) := by decide +kernel
set_option maxRecDepth 100000 in
theorem lk_1964 : mj_lk ip_L_law 1964 = some (.iload 4, 2) := by decide +kernel
set_option maxRecDepth 100000 in
theorem lk_1966 : mj_lk ip_L_law 1966 = some (.iconst 1, 1) := by decide +kernel
set_option maxRecDepth 100000 in
theorem lk_1967 : mj_lk ip_L_law 1967 = some (.iadd, 1) := by decide +kernel
set_option maxRecDepth 100000 in
theorem lk_1968 : mj_lk ip_L_law 1968 = some (.iaload, 1) := by decide +kernel
set_option maxRecDepth 100000 in
theorem lk_1969 : mj_lk ip_L_law 1969 = some (.aload_n 3, 1) := by decide +kernel
set_option maxRecDepth 100000 in
theorem lk_1970 : mj_lk ip_L_law 1970 = some (.invokestatic 248, 3) := by decide +kernel
set_option maxRecDepth 100000 in
theorem lk_1973 : mj_lk ip_L_law 1973 = some (.istore 5, 2) := by decide +kernel
set_option maxRecDepth 100000 in
theorem lk_1975 : mj_lk ip_L_law 1975 = some (.aload_n 2, 1) := by decide +kernel
set_option maxRecDepth 100000 in
theorem lk_1976 : mj_lk ip_L_law 1976 = some (.aload_n 0, 1) := by decide +kernel
set_option maxRecDepth 100000 in
theorem lk_1977 : mj_lk ip_L_law 1977 = some (.iload 4, 2) := by decide +kernel
set_option maxRecDepth 100000 in
theorem lk_1979 : mj_lk ip_L_law 1979 = some (.iconst 1, 1) := by decide +kernel
set_option maxRecDepth 100000 in
theorem lk_1980 : mj_lk ip_L_law 1980 = some (.iadd, 1) := by decide +kernel
set_option maxRecDepth 100000 in
theorem lk_1981 : mj_lk ip_L_law 1981 = some (.iaload, 1) := by decide +kernel
set_option maxRecDepth 100000 in
theorem lk_1982 : mj_lk ip_L_law 1982 = some (.invokevirtual 250, 3) := by decide +kernel
set_option maxRecDepth 100000 in
theorem lk_1985 : mj_lk ip_L_law 1985 = some (.istore 6, 2) := by decide +kernel
set_option maxRecDepth 100000 in
theorem lk_1987 : mj_lk ip_L_law 1987 = some (.aload_n 2, 1) := by decide +kernel
set_option maxRecDepth 100000 in
theorem lk_1988 : mj_lk ip_L_law 1988 = some (.invokevirtual 169, 3) := by decide +kernel
set_option maxRecDepth 100000 in
theorem lk_1991 : mj_lk ip_L_law 1991 = some (.iload 5, 2) := by decide +kernel
set_option maxRecDepth 100000 in
theorem lk_1993 : mj_lk ip_L_law 1993 = some (.if_icmp .eq 5, 3) := by decide +kernel
set_option maxRecDepth 100000 in
theorem lk_1996 : mj_lk ip_L_law 1996 = some (.iconst 0, 1) := by decide +kernel
set_option maxRecDepth 100000 in
theorem lk_1997 : mj_lk ip_L_law 1997 = some (.ireturn, 1) := by decide +kernel
set_option maxRecDepth 100000 in
theorem lk_1998 : mj_lk ip_L_law 1998 = some (.iload 5, 2) := by decide +kernel
set_option maxRecDepth 100000 in
theorem lk_2000 : mj_lk ip_L_law 2000 = some (.ifCond .ne 15, 3) := by decide +kernel
set_option maxRecDepth 100000 in
theorem lk_2003 : mj_lk ip_L_law 2003 = some (.aload_n 3, 1) := by decide +kernel
set_option maxRecDepth 100000 in
theorem lk_2004 : mj_lk ip_L_law 2004 = some (.iconst 0, 1) := by decide +kernel
set_option maxRecDepth 100000 in
theorem lk_2005 : mj_lk ip_L_law 2005 = some (.laload, 1) := by decide +kernel
set_option maxRecDepth 100000 in
theorem lk_2006 : mj_lk ip_L_law 2006 = some (.iload 6, 2) := by decide +kernel
set_option maxRecDepth 100000 in
theorem lk_2008 : mj_lk ip_L_law 2008 = some (.i2l, 1) := by decide +kernel
set_option maxRecDepth 100000 in
theorem lk_2009 : mj_lk ip_L_law 2009 = some (.lcmp, 1) := by decide +kernel
set_option maxRecDepth 100000 in
theorem lk_2010 : mj_lk ip_L_law 2010 = some (.ifCond .eq 5, 3) := by decide +kernel
set_option maxRecDepth 100000 in
theorem lk_2013 : mj_lk ip_L_law 2013 = some (.iconst 0, 1) := by decide +kernel
set_option maxRecDepth 100000 in
theorem lk_2014 : mj_lk ip_L_law 2014 = some (.ireturn, 1) := by decide +kernel
set_option maxRecDepth 100000 in
theorem lk_2015 : mj_lk ip_L_law 2015 = some (.goto 1260, 3) := by decide +kernel
set_option maxRecDepth 100000 in
theorem lk_2018 : mj_lk ip_L_law 2018 = some (.aload_n 1, 1) := by decide +kernel
set_option maxRecDepth 100000 in
theorem lk_2019 : mj_lk ip_L_law 2019 = some (.invokevirtual 251, 3) := by decide +kernel
set_option maxRecDepth 100000 in
theorem lk_2022 : mj_lk ip_L_law 2022 = some (.aload_n 2, 1) := by decide +kernel
set_option maxRecDepth 100000 in
theorem lk_2023 : mj_lk ip_L_law 2023 = some (.invokevirtual 254, 3) := by decide +kernel
set_option maxRecDepth 100000 in
theorem lk_2026 : mj_lk ip_L_law 2026 = some (.if_icmp .eq 1249, 3) := by decide +kernel
set_option maxRecDepth 100000 in
theorem lk_2029 : mj_lk ip_L_law 2029 = some (.iconst 0, 1) := by decide +kernel
set_option maxRecDepth 100000 in
theorem lk_2030 : mj_lk ip_L_law 2030 = some (.ireturn, 1) := by decide +kernel
set_option maxRecDepth 100000 in
theorem lk_2031 : mj_lk ip_L_law 2031 = some (.aload_n 1, 1) := by decide +kernel
set_option maxRecDepth 100000 in
theorem lk_2032 : mj_lk ip_L_law 2032 = some (.aload_n 0, 1) := by decide +kernel
set_option maxRecDepth 100000 in
theorem lk_2033 : mj_lk ip_L_law 2033 = some (.iload 4, 2) := by decide +kernel
set_option maxRecDepth 100000 in
theorem lk_2035 : mj_lk ip_L_law 2035 = some (.iconst 1, 1) := by decide +kernel
set_option maxRecDepth 100000 in
theorem lk_2036 : mj_lk ip_L_law 2036 = some (.iadd, 1) := by decide +kernel
set_option maxRecDepth 100000 in
theorem lk_2037 : mj_lk ip_L_law 2037 = some (.iaload, 1) := by decide +kernel
set_option maxRecDepth 100000 in
theorem lk_2038 : mj_lk ip_L_law 2038 = some (.aload_n 3, 1) := by decide +kernel
set_option maxRecDepth 100000 in
theorem lk_2039 : mj_lk ip_L_law 2039 = some (.invokestatic 255, 3) := by decide +kernel
set_option maxRecDepth 100000 in
theorem lk_2042 : mj_lk ip_L_law 2042 = some (.istore 5, 2) := by decide +kernel
set_option maxRecDepth 100000 in
theorem lk_2044 : mj_lk ip_L_law 2044 = some (.aload_n 2, 1) := by decide +kernel
set_option maxRecDepth 100000 in
theorem lk_2045 : mj_lk ip_L_law 2045 = some (.aload_n 0, 1) := by decide +kernel
set_option maxRecDepth 100000 in
theorem lk_2046 : mj_lk ip_L_law 2046 = some (.iload 4, 2) := by decide +kernel
set_option maxRecDepth 100000 in
theorem lk_2048 : mj_lk ip_L_law 2048 = some (.iconst 1, 1) := by decide +kernel
set_option maxRecDepth 100000 in
theorem lk_2049 : mj_lk ip_L_law 2049 = some (.iadd, 1) := by decide +kernel
set_option maxRecDepth 100000 in
theorem lk_2050 : mj_lk ip_L_law 2050 = some (.iaload, 1) := by decide +kernel
set_option maxRecDepth 100000 in
theorem lk_2051 : mj_lk ip_L_law 2051 = some (.invokevirtual 257, 3) := by decide +kernel
set_option maxRecDepth 100000 in
theorem lk_2054 : mj_lk ip_L_law 2054 = some (.lstore 6, 2) := by decide +kernel
set_option maxRecDepth 100000 in
theorem lk_2056 : mj_lk ip_L_law 2056 = some (.aload_n 2, 1) := by decide +kernel
set_option maxRecDepth 100000 in
theorem lk_2057 : mj_lk ip_L_law 2057 = some (.invokevirtual 169, 3) := by decide +kernel
set_option maxRecDepth 100000 in
theorem lk_2060 : mj_lk ip_L_law 2060 = some (.iload 5, 2) := by decide +kernel
set_option maxRecDepth 100000 in
theorem lk_2062 : mj_lk ip_L_law 2062 = some (.if_icmp .eq 5, 3) := by decide +kernel
set_option maxRecDepth 100000 in
theorem lk_2065 : mj_lk ip_L_law 2065 = some (.iconst 0, 1) := by decide +kernel
set_option maxRecDepth 100000 in
theorem lk_2066 : mj_lk ip_L_law 2066 = some (.ireturn, 1) := by decide +kernel
set_option maxRecDepth 100000 in
theorem lk_2067 : mj_lk ip_L_law 2067 = some (.iload 5, 2) := by decide +kernel
set_option maxRecDepth 100000 in
theorem lk_2069 : mj_lk ip_L_law 2069 = some (.ifCond .ne 14, 3) := by decide +kernel
set_option maxRecDepth 100000 in
theorem lk_2072 : mj_lk ip_L_law 2072 = some (.aload_n 3, 1) := by decide +kernel
set_option maxRecDepth 100000 in
theorem lk_2073 : mj_lk ip_L_law 2073 = some (.iconst 0, 1) := by decide +kernel
set_option maxRecDepth 100000 in
theorem lk_2074 : mj_lk ip_L_law 2074 = some (.laload, 1) := by decide +kernel
set_option maxRecDepth 100000 in
theorem lk_2075 : mj_lk ip_L_law 2075 = some (.lload 6, 2) := by decide +kernel
set_option maxRecDepth 100000 in
theorem lk_2077 : mj_lk ip_L_law 2077 = some (.lcmp, 1) := by decide +kernel
set_option maxRecDepth 100000 in
theorem lk_2078 : mj_lk ip_L_law 2078 = some (.ifCond .eq 5, 3) := by decide +kernel
set_option maxRecDepth 100000 in
theorem lk_2081 : mj_lk ip_L_law 2081 = some (.iconst 0, 1) := by decide +kernel
set_option maxRecDepth 100000 in
theorem lk_2082 : mj_lk ip_L_law 2082 = some (.ireturn, 1) := by decide +kernel
set_option maxRecDepth 100000 in
theorem lk_2083 : mj_lk ip_L_law 2083 = some (.goto 1192, 3) := by decide +kernel
set_option maxRecDepth 100000 in
theorem lk_2086 : mj_lk ip_L_law 2086 = some (.aload_n 1, 1) := by decide +kernel
set_option maxRecDepth 100000 in
theorem lk_2087 : mj_lk ip_L_law 2087 = some (.aload_n 0, 1) := by decide +kernel
set_option maxRecDepth 100000 in
theorem lk_2088 : mj_lk ip_L_law 2088 = some (.iload 4, 2) := by decide +kernel
set_option maxRecDepth 100000 in
theorem lk_2090 : mj_lk ip_L_law 2090 = some (.iconst 1, 1) := by decide +kernel
set_option maxRecDepth 100000 in
theorem lk_2091 : mj_lk ip_L_law 2091 = some (.iadd, 1) := by decide +kernel
set_option maxRecDepth 100000 in
theorem lk_2092 : mj_lk ip_L_law 2092 = some (.iaload, 1) := by decide +kernel
set_option maxRecDepth 100000 in
theorem lk_2093 : mj_lk ip_L_law 2093 = some (.aload_n 0, 1) := by decide +kernel
set_option maxRecDepth 100000 in
theorem lk_2094 : mj_lk ip_L_law 2094 = some (.iload 4, 2) := by decide +kernel
set_option maxRecDepth 100000 in
theorem lk_2096 : mj_lk ip_L_law 2096 = some (.iconst 2, 1) := by decide +kernel
set_option maxRecDepth 100000 in
theorem lk_2097 : mj_lk ip_L_law 2097 = some (.iadd, 1) := by decide +kernel
set_option maxRecDepth 100000 in
theorem lk_2098 : mj_lk ip_L_law 2098 = some (.iaload, 1) := by decide +kernel
set_option maxRecDepth 100000 in
theorem lk_2099 : mj_lk ip_L_law 2099 = some (.aload_n 3, 1) := by decide +kernel
set_option maxRecDepth 100000 in
theorem lk_2100 : mj_lk ip_L_law 2100 = some (.invokestatic 258, 3) := by decide +kernel
set_option maxRecDepth 100000 in
theorem lk_2103 : mj_lk ip_L_law 2103 = some (.istore 5, 2) := by decide +kernel
set_option maxRecDepth 100000 in
theorem lk_2105 : mj_lk ip_L_law 2105 = some (.aload_n 2, 1) := by decide +kernel
set_option maxRecDepth 100000 in
theorem lk_2106 : mj_lk ip_L_law 2106 = some (.aload_n 0, 1) := by decide +kernel
set_option maxRecDepth 100000 in
theorem lk_2107 : mj_lk ip_L_law 2107 = some (.iload 4, 2) := by decide +kernel
set_option maxRecDepth 100000 in
theorem lk_2109 : mj_lk ip_L_law 2109 = some (.iconst 1, 1) := by decide +kernel
set_option maxRecDepth 100000 in
theorem lk_2110 : mj_lk ip_L_law 2110 = some (.iadd, 1) := by decide +kernel
set_option maxRecDepth 100000 in
theorem lk_2111 : mj_lk ip_L_law 2111 = some (.iaload, 1) := by decide +kernel
set_option maxRecDepth 100000 in
theorem lk_2112 : mj_lk ip_L_law 2112 = some (.aload_n 0, 1) := by decide +kernel
set_option maxRecDepth 100000 in
theorem lk_2113 : mj_lk ip_L_law 2113 = some (.iload 4, 2) := by decide +kernel
set_option maxRecDepth 100000 in
theorem lk_2115 : mj_lk ip_L_law 2115 = some (.iconst 2, 1) := by decide +kernel
set_option maxRecDepth 100000 in
theorem lk_2116 : mj_lk ip_L_law 2116 = some (.iadd, 1) := by decide +kernel
set_option maxRecDepth 100000 in
theorem lk_2117 : mj_lk ip_L_law 2117 = some (.iaload, 1) := by decide +kernel
set_option maxRecDepth 100000 in
theorem lk_2118 : mj_lk ip_L_law 2118 = some (.invokevirtual 260, 3) := by decide +kernel
set_option maxRecDepth 100000 in
theorem lk_2121 : mj_lk ip_L_law 2121 = some (.istore 6, 2) := by decide +kernel
set_option maxRecDepth 100000 in
theorem lk_2123 : mj_lk ip_L_law 2123 = some (.aload_n 2, 1) := by decide +kernel
set_option maxRecDepth 100000 in
theorem lk_2124 : mj_lk ip_L_law 2124 = some (.invokevirtual 169, 3) := by decide +kernel
set_option maxRecDepth 100000 in
theorem lk_2127 : mj_lk ip_L_law 2127 = some (.iload 5, 2) := by decide +kernel
set_option maxRecDepth 100000 in
theorem lk_2129 : mj_lk ip_L_law 2129 = some (.if_icmp .eq 5, 3) := by decide +kernel
set_option maxRecDepth 100000 in
theorem lk_2132 : mj_lk ip_L_law 2132 = some (.iconst 0, 1) := by decide +kernel
set_option maxRecDepth 100000 in
theorem lk_2133 : mj_lk ip_L_law 2133 = some (.ireturn, 1) := by decide +kernel
set_option maxRecDepth 100000 in
theorem lk_2134 : mj_lk ip_L_law 2134 = some (.iload 5, 2) := by decide +kernel
set_option maxRecDepth 100000 in
theorem lk_2136 : mj_lk ip_L_law 2136 = some (.ifCond .ne 15, 3) := by decide +kernel
set_option maxRecDepth 100000 in
theorem lk_2139 : mj_lk ip_L_law 2139 = some (.aload_n 3, 1) := by decide +kernel
set_option maxRecDepth 100000 in
theorem lk_2140 : mj_lk ip_L_law 2140 = some (.iconst 0, 1) := by decide +kernel
set_option maxRecDepth 100000 in
theorem lk_2141 : mj_lk ip_L_law 2141 = some (.laload, 1) := by decide +kernel
set_option maxRecDepth 100000 in
theorem lk_2142 : mj_lk ip_L_law 2142 = some (.iload 6, 2) := by decide +kernel
set_option maxRecDepth 100000 in
theorem lk_2144 : mj_lk ip_L_law 2144 = some (.i2l, 1) := by decide +kernel
set_option maxRecDepth 100000 in
theorem lk_2145 : mj_lk ip_L_law 2145 = some (.lcmp, 1) := by decide +kernel
set_option maxRecDepth 100000 in
theorem lk_2146 : mj_lk ip_L_law 2146 = some (.ifCond .eq 5, 3) := by decide +kernel
set_option maxRecDepth 100000 in
theorem lk_2149 : mj_lk ip_L_law 2149 = some (.iconst 0, 1) := by decide +kernel
set_option maxRecDepth 100000 in
theorem lk_2150 : mj_lk ip_L_law 2150 = some (.ireturn, 1) := by decide +kernel
set_option maxRecDepth 100000 in
theorem lk_2151 : mj_lk ip_L_law 2151 = some (.goto 1124, 3) := by decide +kernel
set_option maxRecDepth 100000 in
theorem lk_2154 : mj_lk ip_L_law 2154 = some (.aload_n 1, 1) := by decide +kernel
set_option maxRecDepth 100000 in
theorem lk_2155 : mj_lk ip_L_law 2155 = some (.aload_n 0, 1) := by decide +kernel
set_option maxRecDepth 100000 in
theorem lk_2156 : mj_lk ip_L_law 2156 = some (.iload 4, 2) := by decide +kernel
set_option maxRecDepth 100000 in
theorem lk_2158 : mj_lk ip_L_law 2158 = some (.iconst 1, 1) := by decide +kernel
set_option maxRecDepth 100000 in
theorem lk_2159 : mj_lk ip_L_law 2159 = some (.iadd, 1) := by decide +kernel
set_option maxRecDepth 100000 in
theorem lk_2160 : mj_lk ip_L_law 2160 = some (.iaload, 1) := by decide +kernel
set_option maxRecDepth 100000 in
theorem lk_2161 : mj_lk ip_L_law 2161 = some (.aload_n 0, 1) := by decide +kernel
set_option maxRecDepth 100000 in
theorem lk_2162 : mj_lk ip_L_law 2162 = some (.iload 4, 2) := by decide +kernel
set_option maxRecDepth 100000 in
theorem lk_2164 : mj_lk ip_L_law 2164 = some (.iconst 2, 1) := by decide +kernel
set_option maxRecDepth 100000 in
theorem lk_2165 : mj_lk ip_L_law 2165 = some (.iadd, 1) := by decide +kernel
set_option maxRecDepth 100000 in
theorem lk_2166 : mj_lk ip_L_law 2166 = some (.iaload, 1) := by decide +kernel
set_option maxRecDepth 100000 in
theorem lk_2167 : mj_lk ip_L_law 2167 = some (.aload_n 3, 1) := by decide +kernel
set_option maxRecDepth 100000 in
theorem lk_2168 : mj_lk ip_L_law 2168 = some (.invokestatic 261, 3) := by decide +kernel
set_option maxRecDepth 100000 in
theorem lk_2171 : mj_lk ip_L_law 2171 = some (.istore 5, 2) := by decide +kernel
set_option maxRecDepth 100000 in
theorem lk_2173 : mj_lk ip_L_law 2173 = some (.aload_n 2, 1) := by decide +kernel
set_option maxRecDepth 100000 in
theorem lk_2174 : mj_lk ip_L_law 2174 = some (.aload_n 0, 1) := by decide +kernel
set_option maxRecDepth 100000 in
theorem lk_2175 : mj_lk ip_L_law 2175 = some (.iload 4, 2) := by decide +kernel
set_option maxRecDepth 100000 in
theorem lk_2177 : mj_lk ip_L_law 2177 = some (.iconst 1, 1) := by decide +kernel
set_option maxRecDepth 100000 in
theorem lk_2178 : mj_lk ip_L_law 2178 = some (.iadd, 1) := by decide +kernel
set_option maxRecDepth 100000 in
theorem lk_2179 : mj_lk ip_L_law 2179 = some (.iaload, 1) := by decide +kernel
set_option maxRecDepth 100000 in
theorem lk_2180 : mj_lk ip_L_law 2180 = some (.aload_n 0, 1) := by decide +kernel
set_option maxRecDepth 100000 in
theorem lk_2181 : mj_lk ip_L_law 2181 = some (.iload 4, 2) := by decide +kernel
set_option maxRecDepth 100000 in
theorem lk_2183 : mj_lk ip_L_law 2183 = some (.iconst 2, 1) := by decide +kernel
set_option maxRecDepth 100000 in
theorem lk_2184 : mj_lk ip_L_law 2184 = some (.iadd, 1) := by decide +kernel
set_option maxRecDepth 100000 in
theorem lk_2185 : mj_lk ip_L_law 2185 = some (.iaload, 1) := by decide +kernel
set_option maxRecDepth 100000 in
theorem lk_2186 : mj_lk ip_L_law 2186 = some (.invokevirtual 263, 3) := by decide +kernel
set_option maxRecDepth 100000 in
theorem lk_2189 : mj_lk ip_L_law 2189 = some (.istore 6, 2) := by decide +kernel
set_option maxRecDepth 100000 in
theorem lk_2191 : mj_lk ip_L_law 2191 = some (.aload_n 2, 1) := by decide +kernel
set_option maxRecDepth 100000 in
theorem lk_2192 : mj_lk ip_L_law 2192 = some (.invokevirtual 169, 3) := by decide +kernel
set_option maxRecDepth 100000 in
theorem lk_2195 : mj_lk ip_L_law 2195 = some (.iload 5, 2) := by decide +kernel
set_option maxRecDepth 100000 in
theorem lk_2197 : mj_lk ip_L_law 2197 = some (.if_icmp .eq 5, 3) := by decide +kernel
set_option maxRecDepth 100000 in
theorem lk_2200 : mj_lk ip_L_law 2200 = some (.iconst 0, 1) := by decide +kernel
set_option maxRecDepth 100000 in
theorem lk_2201 : mj_lk ip_L_law 2201 = some (.ireturn, 1) := by decide +kernel
set_option maxRecDepth 100000 in
theorem lk_2202 : mj_lk ip_L_law 2202 = some (.iload 5, 2) := by decide +kernel
set_option maxRecDepth 100000 in
theorem lk_2204 : mj_lk ip_L_law 2204 = some (.ifCond .ne 15, 3) := by decide +kernel
set_option maxRecDepth 100000 in
theorem lk_2207 : mj_lk ip_L_law 2207 = some (.aload_n 3, 1) := by decide +kernel
set_option maxRecDepth 100000 in
theorem lk_2208 : mj_lk ip_L_law 2208 = some (.iconst 0, 1) := by decide +kernel
set_option maxRecDepth 100000 in
theorem lk_2209 : mj_lk ip_L_law 2209 = some (.laload, 1) := by decide +kernel
set_option maxRecDepth 100000 in
theorem lk_2210 : mj_lk ip_L_law 2210 = some (.iload 6, 2) := by decide +kernel
set_option maxRecDepth 100000 in
theorem lk_2212 : mj_lk ip_L_law 2212 = some (.i2l, 1) := by decide +kernel
set_option maxRecDepth 100000 in
theorem lk_2213 : mj_lk ip_L_law 2213 = some (.lcmp, 1) := by decide +kernel
set_option maxRecDepth 100000 in
theorem lk_2214 : mj_lk ip_L_law 2214 = some (.ifCond .eq 5, 3) := by decide +kernel
set_option maxRecDepth 100000 in
theorem lk_2217 : mj_lk ip_L_law 2217 = some (.iconst 0, 1) := by decide +kernel
set_option maxRecDepth 100000 in
theorem lk_2218 : mj_lk ip_L_law 2218 = some (.ireturn, 1) := by decide +kernel
set_option maxRecDepth 100000 in
theorem lk_2219 : mj_lk ip_L_law 2219 = some (.goto 1056, 3) := by decide +kernel
set_option maxRecDepth 100000 in
theorem lk_2222 : mj_lk ip_L_law 2222 = some (.aload_n 1, 1) := by decide +kernel
set_option maxRecDepth 100000 in
theorem lk_2223 : mj_lk ip_L_law 2223 = some (.aload_n 0, 1) := by decide +kernel
set_option maxRecDepth 100000 in
theorem lk_2224 : mj_lk ip_L_law 2224 = some (.iload 4, 2) := by decide +kernel
set_option maxRecDepth 100000 in
theorem lk_2226 : mj_lk ip_L_law 2226 = some (.iconst 1, 1) := by decide +kernel
set_option maxRecDepth 100000 in
theorem lk_2227 : mj_lk ip_L_law 2227 = some (.iadd, 1) := by decide +kernel
set_option maxRecDepth 100000 in
theorem lk_2228 : mj_lk ip_L_law 2228 = some (.iaload, 1) := by decide +kernel
set_option maxRecDepth 100000 in
theorem lk_2229 : mj_lk ip_L_law 2229 = some (.aload_n 0, 1) := by decide +kernel
set_option maxRecDepth 100000 in
theorem lk_2230 : mj_lk ip_L_law 2230 = some (.iload 4, 2) := by decide +kernel
set_option maxRecDepth 100000 in
theorem lk_2232 : mj_lk ip_L_law 2232 = some (.iconst 2, 1) := by decide +kernel
set_option maxRecDepth 100000 in
theorem lk_2233 : mj_lk ip_L_law 2233 = some (.iadd, 1) := by decide +kernel
set_option maxRecDepth 100000 in
theorem lk_2234 : mj_lk ip_L_law 2234 = some (.iaload, 1) := by decide +kernel
set_option maxRecDepth 100000 in
theorem lk_2235 : mj_lk ip_L_law 2235 = some (.aload_n 3, 1) := by decide +kernel
set_option maxRecDepth 100000 in
theorem lk_2236 : mj_lk ip_L_law 2236 = some (.invokestatic 264, 3) := by decide +kernel
set_option maxRecDepth 100000 in
theorem lk_2239 : mj_lk ip_L_law 2239 = some (.istore 5, 2) := by decide +kernel
set_option maxRecDepth 100000 in
theorem lk_2241 : mj_lk ip_L_law 2241 = some (.aload_n 2, 1) := by decide +kernel
set_option maxRecDepth 100000 in
theorem lk_2242 : mj_lk ip_L_law 2242 = some (.aload_n 0, 1) := by decide +kernel
set_option maxRecDepth 100000 in
theorem lk_2243 : mj_lk ip_L_law 2243 = some (.iload 4, 2) := by decide +kernel
set_option maxRecDepth 100000 in
theorem lk_2245 : mj_lk ip_L_law 2245 = some (.iconst 1, 1) := by decide +kernel
set_option maxRecDepth 100000 in
theorem lk_2246 : mj_lk ip_L_law 2246 = some (.iadd, 1) := by decide +kernel
set_option maxRecDepth 100000 in
theorem lk_2247 : mj_lk ip_L_law 2247 = some (.iaload, 1) := by decide +kernel
set_option maxRecDepth 100000 in
theorem lk_2248 : mj_lk ip_L_law 2248 = some (.aload_n 0, 1) := by decide +kernel
set_option maxRecDepth 100000 in
theorem lk_2249 : mj_lk ip_L_law 2249 = some (.iload 4, 2) := by decide +kernel
set_option maxRecDepth 100000 in
theorem lk_2251 : mj_lk ip_L_law 2251 = some (.iconst 2, 1) := by decide +kernel
set_option maxRecDepth 100000 in
theorem lk_2252 : mj_lk ip_L_law 2252 = some (.iadd, 1) := by decide +kernel
set_option maxRecDepth 100000 in
theorem lk_2253 : mj_lk ip_L_law 2253 = some (.iaload, 1) := by decide +kernel
set_option maxRecDepth 100000 in
theorem lk_2254 : mj_lk ip_L_law 2254 = some (.invokevirtual 266, 3) := by decide +kernel
set_option maxRecDepth 100000 in
theorem lk_2257 : mj_lk ip_L_law 2257 = some (.lstore 6, 2) := by decide +kernel
set_option maxRecDepth 100000 in
theorem lk_2259 : mj_lk ip_L_law 2259 = some (.aload_n 2, 1) := by decide +kernel
set_option maxRecDepth 100000 in
theorem lk_2260 : mj_lk ip_L_law 2260 = some (.invokevirtual 169, 3) := by decide +kernel
set_option maxRecDepth 100000 in
theorem lk_2263 : mj_lk ip_L_law 2263 = some (.iload 5, 2) := by decide +kernel
set_option maxRecDepth 100000 in
theorem lk_2265 : mj_lk ip_L_law 2265 = some (.if_icmp .eq 5, 3) := by decide +kernel
set_option maxRecDepth 100000 in
theorem lk_2268 : mj_lk ip_L_law 2268 = some (.iconst 0, 1) := by decide +kernel
set_option maxRecDepth 100000 in
theorem lk_2269 : mj_lk ip_L_law 2269 = some (.ireturn, 1) := by decide +kernel
set_option maxRecDepth 100000 in
theorem lk_2270 : mj_lk ip_L_law 2270 = some (.iload 5, 2) := by decide +kernel
set_option maxRecDepth 100000 in
theorem lk_2272 : mj_lk ip_L_law 2272 = some (.ifCond .ne 14, 3) := by decide +kernel
set_option maxRecDepth 100000 in
theorem lk_2275 : mj_lk ip_L_law 2275 = some (.aload_n 3, 1) := by decide +kernel
set_option maxRecDepth 100000 in
theorem lk_2276 : mj_lk ip_L_law 2276 = some (.iconst 0, 1) := by decide +kernel
set_option maxRecDepth 100000 in
theorem lk_2277 : mj_lk ip_L_law 2277 = some (.laload, 1) := by decide +kernel
set_option maxRecDepth 100000 in
theorem lk_2278 : mj_lk ip_L_law 2278 = some (.lload 6, 2) := by decide +kernel
set_option maxRecDepth 100000 in
theorem lk_2280 : mj_lk ip_L_law 2280 = some (.lcmp, 1) := by decide +kernel
set_option maxRecDepth 100000 in
theorem lk_2281 : mj_lk ip_L_law 2281 = some (.ifCond .eq 5, 3) := by decide +kernel
set_option maxRecDepth 100000 in
theorem lk_2284 : mj_lk ip_L_law 2284 = some (.iconst 0, 1) := by decide +kernel
set_option maxRecDepth 100000 in
theorem lk_2285 : mj_lk ip_L_law 2285 = some (.ireturn, 1) := by decide +kernel
set_option maxRecDepth 100000 in
theorem lk_2286 : mj_lk ip_L_law 2286 = some (.goto 989, 3) := by decide +kernel
set_option maxRecDepth 100000 in
theorem lk_2289 : mj_lk ip_L_law 2289 = some (.aload_n 1, 1) := by decide +kernel
set_option maxRecDepth 100000 in
theorem lk_2290 : mj_lk ip_L_law 2290 = some (.aload_n 0, 1) := by decide +kernel
set_option maxRecDepth 100000 in
theorem lk_2291 : mj_lk ip_L_law 2291 = some (.iload 4, 2) := by decide +kernel
set_option maxRecDepth 100000 in
theorem lk_2293 : mj_lk ip_L_law 2293 = some (.iconst 1, 1) := by decide +kernel
set_option maxRecDepth 100000 in
theorem lk_2294 : mj_lk ip_L_law 2294 = some (.iadd, 1) := by decide +kernel
set_option maxRecDepth 100000 in
theorem lk_2295 : mj_lk ip_L_law 2295 = some (.iaload, 1) := by decide +kernel
set_option maxRecDepth 100000 in
theorem lk_2296 : mj_lk ip_L_law 2296 = some (.aload_n 0, 1) := by decide +kernel
set_option maxRecDepth 100000 in
theorem lk_2297 : mj_lk ip_L_law 2297 = some (.iload 4, 2) := by decide +kernel
set_option maxRecDepth 100000 in
theorem lk_2299 : mj_lk ip_L_law 2299 = some (.iconst 2, 1) := by decide +kernel
set_option maxRecDepth 100000 in
theorem lk_2300 : mj_lk ip_L_law 2300 = some (.iadd, 1) := by decide +kernel
set_option maxRecDepth 100000 in
theorem lk_2301 : mj_lk ip_L_law 2301 = some (.iaload, 1) := by decide +kernel
set_option maxRecDepth 100000 in
theorem lk_2302 : mj_lk ip_L_law 2302 = some (.aload_n 3, 1) := by decide +kernel
set_option maxRecDepth 100000 in
theorem lk_2303 : mj_lk ip_L_law 2303 = some (.invokestatic 267, 3) := by decide +kernel
set_option maxRecDepth 100000 in
theorem lk_2306 : mj_lk ip_L_law 2306 = some (.istore 5, 2) := by decide +kernel
set_option maxRecDepth 100000 in
theorem lk_2308 : mj_lk ip_L_law 2308 = some (.aload_n 2, 1) := by decide +kernel
set_option maxRecDepth 100000 in
theorem lk_2309 : mj_lk ip_L_law 2309 = some (.aload_n 0, 1) := by decide +kernel
set_option maxRecDepth 100000 in
theorem lk_2310 : mj_lk ip_L_law 2310 = some (.iload 4, 2) := by decide +kernel
set_option maxRecDepth 100000 in
theorem lk_2312 : mj_lk ip_L_law 2312 = some (.iconst 1, 1) := by decide +kernel
set_option maxRecDepth 100000 in
theorem lk_2313 : mj_lk ip_L_law 2313 = some (.iadd, 1) := by decide +kernel
set_option maxRecDepth 100000 in
theorem lk_2314 : mj_lk ip_L_law 2314 = some (.iaload, 1) := by decide +kernel
set_option maxRecDepth 100000 in
theorem lk_2315 : mj_lk ip_L_law 2315 = some (.aload_n 0, 1) := by decide +kernel
set_option maxRecDepth 100000 in
theorem lk_2316 : mj_lk ip_L_law 2316 = some (.iload 4, 2) := by decide +kernel
set_option maxRecDepth 100000 in
theorem lk_2318 : mj_lk ip_L_law 2318 = some (.iconst 2, 1) := by decide +kernel
set_option maxRecDepth 100000 in
theorem lk_2319 : mj_lk ip_L_law 2319 = some (.iadd, 1) := by decide +kernel
set_option maxRecDepth 100000 in
theorem lk_2320 : mj_lk ip_L_law 2320 = some (.iaload, 1) := by decide +kernel
set_option maxRecDepth 100000 in
theorem lk_2321 : mj_lk ip_L_law 2321 = some (.invokevirtual 269, 3) := by decide +kernel
set_option maxRecDepth 100000 in
theorem lk_2324 : mj_lk ip_L_law 2324 = some (.istore 6, 2) := by decide +kernel
set_option maxRecDepth 100000 in
theorem lk_2326 : mj_lk ip_L_law 2326 = some (.aload_n 2, 1) := by decide +kernel
set_option maxRecDepth 100000 in
theorem lk_2327 : mj_lk ip_L_law 2327 = some (.invokevirtual 169, 3) := by decide +kernel
set_option maxRecDepth 100000 in
theorem lk_2330 : mj_lk ip_L_law 2330 = some (.iload 5, 2) := by decide +kernel
set_option maxRecDepth 100000 in
theorem lk_2332 : mj_lk ip_L_law 2332 = some (.if_icmp .eq 5, 3) := by decide +kernel
set_option maxRecDepth 100000 in
theorem lk_2335 : mj_lk ip_L_law 2335 = some (.iconst 0, 1) := by decide +kernel
set_option maxRecDepth 100000 in
theorem lk_2336 : mj_lk ip_L_law 2336 = some (.ireturn, 1) := by decide +kernel
set_option maxRecDepth 100000 in
theorem lk_2337 : mj_lk ip_L_law 2337 = some (.iload 5, 2) := by decide +kernel
set_option maxRecDepth 100000 in
theorem lk_2339 : mj_lk ip_L_law 2339 = some (.ifCond .ne 15, 3) := by decide +kernel
set_option maxRecDepth 100000 in
theorem lk_2342 : mj_lk ip_L_law 2342 = some (.aload_n 3, 1) := by decide +kernel
set_option maxRecDepth 100000 in
theorem lk_2343 : mj_lk ip_L_law 2343 = some (.iconst 0, 1) := by decide +kernel
set_option maxRecDepth 100000 in
theorem lk_2344 : mj_lk ip_L_law 2344 = some (.laload, 1) := by decide +kernel
set_option maxRecDepth 100000 in
theorem lk_2345 : mj_lk ip_L_law 2345 = some (.iload 6, 2) := by decide +kernel
set_option maxRecDepth 100000 in
theorem lk_2347 : mj_lk ip_L_law 2347 = some (.i2l, 1) := by decide +kernel
set_option maxRecDepth 100000 in
theorem lk_2348 : mj_lk ip_L_law 2348 = some (.lcmp, 1) := by decide +kernel
set_option maxRecDepth 100000 in
theorem lk_2349 : mj_lk ip_L_law 2349 = some (.ifCond .eq 5, 3) := by decide +kernel
set_option maxRecDepth 100000 in
theorem lk_2352 : mj_lk ip_L_law 2352 = some (.iconst 0, 1) := by decide +kernel
set_option maxRecDepth 100000 in
theorem lk_2353 : mj_lk ip_L_law 2353 = some (.ireturn, 1) := by decide +kernel
set_option maxRecDepth 100000 in
theorem lk_2354 : mj_lk ip_L_law 2354 = some (.goto 921, 3) := by decide +kernel
set_option maxRecDepth 100000 in
theorem lk_2357 : mj_lk ip_L_law 2357 = some (.aload_n 1, 1) := by decide +kernel
set_option maxRecDepth 100000 in
theorem lk_2358 : mj_lk ip_L_law 2358 = some (.aload_n 0, 1) := by decide +kernel
set_option maxRecDepth 100000 in
theorem lk_2359 : mj_lk ip_L_law 2359 = some (.iload 4, 2) := by decide +kernel
set_option maxRecDepth 100000 in
theorem lk_2361 : mj_lk ip_L_law 2361 = some (.iconst 1, 1) := by decide +kernel
set_option maxRecDepth 100000 in
theorem lk_2362 : mj_lk ip_L_law 2362 = some (.iadd, 1) := by decide +kernel
set_option maxRecDepth 100000 in
theorem lk_2363 : mj_lk ip_L_law 2363 = some (.iaload, 1) := by decide +kernel
set_option maxRecDepth 100000 in
theorem lk_2364 : mj_lk ip_L_law 2364 = some (.aload_n 3, 1) := by decide +kernel
set_option maxRecDepth 100000 in
theorem lk_2365 : mj_lk ip_L_law 2365 = some (.invokestatic 270, 3) := by decide +kernel
set_option maxRecDepth 100000 in
theorem lk_2368 : mj_lk ip_L_law 2368 = some (.istore 5, 2) := by decide +kernel
set_option maxRecDepth 100000 in
theorem lk_2370 : mj_lk ip_L_law 2370 = some (.aload_n 2, 1) := by decide +kernel
set_option maxRecDepth 100000 in
theorem lk_2371 : mj_lk ip_L_law 2371 = some (.aload_n 0, 1) := by decide +kernel
set_option maxRecDepth 100000 in
theorem lk_2372 : mj_lk ip_L_law 2372 = some (.iload 4, 2) := by decide +kernel
set_option maxRecDepth 100000 in
theorem lk_2374 : mj_lk ip_L_law 2374 = some (.iconst 1, 1) := by decide +kernel
set_option maxRecDepth 100000 in
theorem lk_2375 : mj_lk ip_L_law 2375 = some (.iadd, 1) := by decide +kernel
set_option maxRecDepth 100000 in
theorem lk_2376 : mj_lk ip_L_law 2376 = some (.iaload, 1) := by decide +kernel
set_option maxRecDepth 100000 in
theorem lk_2377 : mj_lk ip_L_law 2377 = some (.invokevirtual 272, 3) := by decide +kernel
set_option maxRecDepth 100000 in
theorem lk_2380 : mj_lk ip_L_law 2380 = some (.istore 6, 2) := by decide +kernel
set_option maxRecDepth 100000 in
theorem lk_2382 : mj_lk ip_L_law 2382 = some (.aload_n 2, 1) := by decide +kernel
set_option maxRecDepth 100000 in
theorem lk_2383 : mj_lk ip_L_law 2383 = some (.invokevirtual 169, 3) := by decide +kernel
set_option maxRecDepth 100000 in
theorem lk_2386 : mj_lk ip_L_law 2386 = some (.iload 5, 2) := by decide +kernel
set_option maxRecDepth 100000 in
theorem lk_2388 : mj_lk ip_L_law 2388 = some (.if_icmp .eq 5, 3) := by decide +kernel
set_option maxRecDepth 100000 in
theorem lk_2391 : mj_lk ip_L_law 2391 = some (.iconst 0, 1) := by decide +kernel
set_option maxRecDepth 100000 in
theorem lk_2392 : mj_lk ip_L_law 2392 = some (.ireturn, 1) := by decide +kernel
set_option maxRecDepth 100000 in
theorem lk_2393 : mj_lk ip_L_law 2393 = some (.iload 5, 2) := by decide +kernel
set_option maxRecDepth 100000 in
theorem lk_2395 : mj_lk ip_L_law 2395 = some (.ifCond .ne 15, 3) := by decide +kernel
set_option maxRecDepth 100000 in
theorem lk_2398 : mj_lk ip_L_law 2398 = some (.aload_n 3, 1) := by decide +kernel
set_option maxRecDepth 100000 in
theorem lk_2399 : mj_lk ip_L_law 2399 = some (.iconst 0, 1) := by decide +kernel
set_option maxRecDepth 100000 in
theorem lk_2400 : mj_lk ip_L_law 2400 = some (.laload, 1) := by decide +kernel
set_option maxRecDepth 100000 in
theorem lk_2401 : mj_lk ip_L_law 2401 = some (.iload 6, 2) := by decide +kernel
set_option maxRecDepth 100000 in
theorem lk_2403 : mj_lk ip_L_law 2403 = some (.i2l, 1) := by decide +kernel
set_option maxRecDepth 100000 in
theorem lk_2404 : mj_lk ip_L_law 2404 = some (.lcmp, 1) := by decide +kernel
set_option maxRecDepth 100000 in
theorem lk_2405 : mj_lk ip_L_law 2405 = some (.ifCond .eq 5, 3) := by decide +kernel
set_option maxRecDepth 100000 in
theorem lk_2408 : mj_lk ip_L_law 2408 = some (.iconst 0, 1) := by decide +kernel
set_option maxRecDepth 100000 in
theorem lk_2409 : mj_lk ip_L_law 2409 = some (.ireturn, 1) := by decide +kernel
set_option maxRecDepth 100000 in
theorem lk_2410 : mj_lk ip_L_law 2410 = some (.goto 865, 3) := by decide +kernel
set_option maxRecDepth 100000 in
theorem lk_2413 : mj_lk ip_L_law 2413 = some (.aload_n 1, 1) := by decide +kernel
set_option maxRecDepth 100000 in
theorem lk_2414 : mj_lk ip_L_law 2414 = some (.aload_n 0, 1) := by decide +kernel
set_option maxRecDepth 100000 in
theorem lk_2415 : mj_lk ip_L_law 2415 = some (.iload 4, 2) := by decide +kernel
set_option maxRecDepth 100000 in
theorem lk_2417 : mj_lk ip_L_law 2417 = some (.iconst 1, 1) := by decide +kernel
set_option maxRecDepth 100000 in
theorem lk_2418 : mj_lk ip_L_law 2418 = some (.iadd, 1) := by decide +kernel
set_option maxRecDepth 100000 in
theorem lk_2419 : mj_lk ip_L_law 2419 = some (.iaload, 1) := by decide +kernel
set_option maxRecDepth 100000 in
theorem lk_2420 : mj_lk ip_L_law 2420 = some (.aload_n 0, 1) := by decide +kernel
set_option maxRecDepth 100000 in
theorem lk_2421 : mj_lk ip_L_law 2421 = some (.iload 4, 2) := by decide +kernel
set_option maxRecDepth 100000 in
theorem lk_2423 : mj_lk ip_L_law 2423 = some (.iconst 2, 1) := by decide +kernel
set_option maxRecDepth 100000 in
theorem lk_2424 : mj_lk ip_L_law 2424 = some (.iadd, 1) := by decide +kernel
set_option maxRecDepth 100000 in
theorem lk_2425 : mj_lk ip_L_law 2425 = some (.iaload, 1) := by decide +kernel
set_option maxRecDepth 100000 in
theorem lk_2426 : mj_lk ip_L_law 2426 = some (.aload_n 3, 1) := by decide +kernel
set_option maxRecDepth 100000 in
theorem lk_2427 : mj_lk ip_L_law 2427 = some (.invokestatic 273, 3) := by decide +kernel
set_option maxRecDepth 100000 in
theorem lk_2430 : mj_lk ip_L_law 2430 = some (.istore 5, 2) := by decide +kernel
set_option maxRecDepth 100000 in
theorem lk_2432 : mj_lk ip_L_law 2432 = some (.aload_n 2, 1) := by decide +kernel
set_option maxRecDepth 100000 in
theorem lk_2433 : mj_lk ip_L_law 2433 = some (.aload_n 0, 1) := by decide +kernel
set_option maxRecDepth 100000 in
theorem lk_2434 : mj_lk ip_L_law 2434 = some (.iload 4, 2) := by decide +kernel
set_option maxRecDepth 100000 in
theorem lk_2436 : mj_lk ip_L_law 2436 = some (.iconst 1, 1) := by decide +kernel
set_option maxRecDepth 100000 in
theorem lk_2437 : mj_lk ip_L_law 2437 = some (.iadd, 1) := by decide +kernel
set_option maxRecDepth 100000 in
theorem lk_2438 : mj_lk ip_L_law 2438 = some (.iaload, 1) := by decide +kernel
set_option maxRecDepth 100000 in
theorem lk_2439 : mj_lk ip_L_law 2439 = some (.aload_n 0, 1) := by decide +kernel
set_option maxRecDepth 100000 in
theorem lk_2440 : mj_lk ip_L_law 2440 = some (.iload 4, 2) := by decide +kernel
set_option maxRecDepth 100000 in
theorem lk_2442 : mj_lk ip_L_law 2442 = some (.iconst 2, 1) := by decide +kernel
set_option maxRecDepth 100000 in
theorem lk_2443 : mj_lk ip_L_law 2443 = some (.iadd, 1) := by decide +kernel
set_option maxRecDepth 100000 in
theorem lk_2444 : mj_lk ip_L_law 2444 = some (.iaload, 1) := by decide +kernel
set_option maxRecDepth 100000 in
theorem lk_2445 : mj_lk ip_L_law 2445 = some (.invokevirtual 275, 3) := by decide +kernel
set_option maxRecDepth 100000 in
theorem lk_2448 : mj_lk ip_L_law 2448 = some (.istore 6, 2) := by decide +kernel
set_option maxRecDepth 100000 in
theorem lk_2450 : mj_lk ip_L_law 2450 = some (.aload_n 2, 1) := by decide +kernel
set_option maxRecDepth 100000 in
theorem lk_2451 : mj_lk ip_L_law 2451 = some (.invokevirtual 169, 3) := by decide +kernel
set_option maxRecDepth 100000 in
theorem lk_2454 : mj_lk ip_L_law 2454 = some (.iload 5, 2) := by decide +kernel
set_option maxRecDepth 100000 in
theorem lk_2456 : mj_lk ip_L_law 2456 = some (.if_icmp .eq 5, 3) := by decide +kernel
set_option maxRecDepth 100000 in
theorem lk_2459 : mj_lk ip_L_law 2459 = some (.iconst 0, 1) := by decide +kernel
set_option maxRecDepth 100000 in
theorem lk_2460 : mj_lk ip_L_law 2460 = some (.ireturn, 1) := by decide +kernel
set_option maxRecDepth 100000 in
theorem lk_2461 : mj_lk ip_L_law 2461 = some (.iload 5, 2) := by decide +kernel
set_option maxRecDepth 100000 in
theorem lk_2463 : mj_lk ip_L_law 2463 = some (.ifCond .ne 15, 3) := by decide +kernel
set_option maxRecDepth 100000 in
theorem lk_2466 : mj_lk ip_L_law 2466 = some (.aload_n 3, 1) := by decide +kernel
set_option maxRecDepth 100000 in
theorem lk_2467 : mj_lk ip_L_law 2467 = some (.iconst 0, 1) := by decide +kernel
set_option maxRecDepth 100000 in
theorem lk_2468 : mj_lk ip_L_law 2468 = some (.laload, 1) := by decide +kernel
set_option maxRecDepth 100000 in
theorem lk_2469 : mj_lk ip_L_law 2469 = some (.iload 6, 2) := by decide +kernel
set_option maxRecDepth 100000 in
theorem lk_2471 : mj_lk ip_L_law 2471 = some (.i2l, 1) := by decide +kernel
set_option maxRecDepth 100000 in
theorem lk_2472 : mj_lk ip_L_law 2472 = some (.lcmp, 1) := by decide +kernel
set_option maxRecDepth 100000 in
theorem lk_2473 : mj_lk ip_L_law 2473 = some (.ifCond .eq 5, 3) := by decide +kernel
set_option maxRecDepth 100000 in
theorem lk_2476 : mj_lk ip_L_law 2476 = some (.iconst 0, 1) := by decide +kernel
set_option maxRecDepth 100000 in
theorem lk_2477 : mj_lk ip_L_law 2477 = some (.ireturn, 1) := by decide +kernel
set_option maxRecDepth 100000 in
theorem lk_2478 : mj_lk ip_L_law 2478 = some (.goto 797, 3) := by decide +kernel
set_option maxRecDepth 100000 in
theorem lk_2481 : mj_lk ip_L_law 2481 = some (.aload_n 1, 1) := by decide +kernel
set_option maxRecDepth 100000 in
theorem lk_2482 : mj_lk ip_L_law 2482 = some (.aload_n 0, 1) := by decide +kernel
set_option maxRecDepth 100000 in
theorem lk_2483 : mj_lk ip_L_law 2483 = some (.iload 4, 2) := by decide +kernel
set_option maxRecDepth 100000 in
theorem lk_2485 : mj_lk ip_L_law 2485 = some (.iconst 1, 1) := by decide +kernel
set_option maxRecDepth 100000 in
theorem lk_2486 : mj_lk ip_L_law 2486 = some (.iadd, 1) := by decide +kernel
set_option maxRecDepth 100000 in
theorem lk_2487 : mj_lk ip_L_law 2487 = some (.iaload, 1) := by decide +kernel
set_option maxRecDepth 100000 in
theorem lk_2488 : mj_lk ip_L_law 2488 = some (.aload_n 0, 1) := by decide +kernel
set_option maxRecDepth 100000 in
theorem lk_2489 : mj_lk ip_L_law 2489 = some (.iload 4, 2) := by decide +kernel
set_option maxRecDepth 100000 in
theorem lk_2491 : mj_lk ip_L_law 2491 = some (.iconst 2, 1) := by decide +kernel
set_option maxRecDepth 100000 in
theorem lk_2492 : mj_lk ip_L_law 2492 = some (.iadd, 1) := by decide +kernel
set_option maxRecDepth 100000 in
theorem lk_2493 : mj_lk ip_L_law 2493 = some (.iaload, 1) := by decide +kernel
set_option maxRecDepth 100000 in
theorem lk_2494 : mj_lk ip_L_law 2494 = some (.ifCond .eq 7, 3) := by decide +kernel
set_option maxRecDepth 100000 in
theorem lk_2497 : mj_lk ip_L_law 2497 = some (.iconst 1, 1) := by decide +kernel
set_option maxRecDepth 100000 in
theorem lk_2498 : mj_lk ip_L_law 2498 = some (.goto 4, 3) := by decide +kernel
set_option maxRecDepth 100000 in
theorem lk_2501 : mj_lk ip_L_law 2501 = some (.iconst 0, 1) := by decide +kernel
set_option maxRecDepth 100000 in
theorem lk_2502 : mj_lk ip_L_law 2502 = some (.aload_n 3, 1) := by decide +kernel
set_option maxRecDepth 100000 in
theorem lk_2503 : mj_lk ip_L_law 2503 = some (.invokestatic 276, 3) := by decide +kernel
set_option maxRecDepth 100000 in
theorem lk_2506 : mj_lk ip_L_law 2506 = some (.istore 5, 2) := by decide +kernel
set_option maxRecDepth 100000 in
theorem lk_2508 : mj_lk ip_L_law 2508 = some (.aload_n 2, 1) := by decide +kernel
set_option maxRecDepth 100000 in
theorem lk_2509 : mj_lk ip_L_law 2509 = some (.aload_n 0, 1) := by decide +kernel
set_option maxRecDepth 100000 in
theorem lk_2510 : mj_lk ip_L_law 2510 = some (.iload 4, 2) := by decide +kernel
set_option maxRecDepth 100000 in
theorem lk_2512 : mj_lk ip_L_law 2512 = some (.iconst 1, 1) := by decide +kernel
set_option maxRecDepth 100000 in
theorem lk_2513 : mj_lk ip_L_law 2513 = some (.iadd, 1) := by decide +kernel
set_option maxRecDepth 100000 in
theorem lk_2514 : mj_lk ip_L_law 2514 = some (.iaload, 1) := by decide +kernel
set_option maxRecDepth 100000 in
theorem lk_2515 : mj_lk ip_L_law 2515 = some (.aload_n 0, 1) := by decide +kernel
set_option maxRecDepth 100000 in
theorem lk_2516 : mj_lk ip_L_law 2516 = some (.iload 4, 2) := by decide +kernel
set_option maxRecDepth 100000 in
theorem lk_2518 : mj_lk ip_L_law 2518 = some (.iconst 2, 1) := by decide +kernel
set_option maxRecDepth 100000 in
theorem lk_2519 : mj_lk ip_L_law 2519 = some (.iadd, 1) := by decide +kernel
set_option maxRecDepth 100000 in
theorem lk_2520 : mj_lk ip_L_law 2520 = some (.iaload, 1) := by decide +kernel
set_option maxRecDepth 100000 in
theorem lk_2521 : mj_lk ip_L_law 2521 = some (.ifCond .eq 7, 3) := by decide +kernel
set_option maxRecDepth 100000 in
theorem lk_2524 : mj_lk ip_L_law 2524 = some (.iconst 1, 1) := by decide +kernel
set_option maxRecDepth 100000 in
theorem lk_2525 : mj_lk ip_L_law 2525 = some (.goto 4, 3) := by decide +kernel
set_option maxRecDepth 100000 in
theorem lk_2528 : mj_lk ip_L_law 2528 = some (.iconst 0, 1) := by decide +kernel
set_option maxRecDepth 100000 in
theorem lk_2529 : mj_lk ip_L_law 2529 = some (.invokevirtual 278, 3) := by decide +kernel
set_option maxRecDepth 100000 in
theorem lk_2532 : mj_lk ip_L_law 2532 = some (.istore 6, 2) := by decide +kernel
set_option maxRecDepth 100000 in
theorem lk_2534 : mj_lk ip_L_law 2534 = some (.aload_n 2, 1) := by decide +kernel
set_option maxRecDepth 100000 in
theorem lk_2535 : mj_lk ip_L_law 2535 = some (.invokevirtual 169, 3) := by decide +kernel
set_option maxRecDepth 100000 in
theorem lk_2538 : mj_lk ip_L_law 2538 = some (.iload 5, 2) := by decide +kernel
set_option maxRecDepth 100000 in
theorem lk_2540 : mj_lk ip_L_law 2540 = some (.if_icmp .eq 5, 3) := by decide +kernel
set_option maxRecDepth 100000 in
theorem lk_2543 : mj_lk ip_L_law 2543 = some (.iconst 0, 1) := by decide +kernel
set_option maxRecDepth 100000 in
theorem lk_2544 : mj_lk ip_L_law 2544 = some (.ireturn, 1) := by decide +kernel
set_option maxRecDepth 100000 in
theorem lk_2545 : mj_lk ip_L_law 2545 = some (.iload 5, 2) := by decide +kernel
set_option maxRecDepth 100000 in
theorem lk_2547 : mj_lk ip_L_law 2547 = some (.ifCond .ne 22, 3) := by decide +kernel
set_option maxRecDepth 100000 in
theorem lk_2550 : mj_lk ip_L_law 2550 = some (.aload_n 3, 1) := by decide +kernel
set_option maxRecDepth 100000 in
theorem lk_2551 : mj_lk ip_L_law 2551 = some (.iconst 0, 1) := by decide +kernel
set_option maxRecDepth 100000 in
theorem lk_2552 : mj_lk ip_L_law 2552 = some (.laload, 1) := by decide +kernel
set_option maxRecDepth 100000 in
theorem lk_2553 : mj_lk ip_L_law 2553 = some (.iload 6, 2) := by decide +kernel
set_option maxRecDepth 100000 in
theorem lk_2555 : mj_lk ip_L_law 2555 = some (.ifCond .eq 7, 3) := by decide +kernel
set_option maxRecDepth 100000 in
theorem lk_2558 : mj_lk ip_L_law 2558 = some (.lconst 1, 1) := by decide +kernel
set_option maxRecDepth 100000 in
theorem lk_2559 : mj_lk ip_L_law 2559 = some (.goto 4, 3) := by decide +kernel
set_option maxRecDepth 100000 in
theorem lk_2562 : mj_lk ip_L_law 2562 = some (.lconst 0, 1) := by decide +kernel
set_option maxRecDepth 100000 in
theorem lk_2563 : mj_lk ip_L_law 2563 = some (.lcmp, 1) := by decide +kernel
set_option maxRecDepth 100000 in
theorem lk_2564 : mj_lk ip_L_law 2564 = some (.ifCond .eq 5, 3) := by decide +kernel
set_option maxRecDepth 100000 in
theorem lk_2567 : mj_lk ip_L_law 2567 = some (.iconst 0, 1) := by decide +kernel
set_option maxRecDepth 100000 in
theorem lk_2568 : mj_lk ip_L_law 2568 = some (.ireturn, 1) := by decide +kernel
set_option maxRecDepth 100000 in
theorem lk_2569 : mj_lk ip_L_law 2569 = some (.goto 706, 3) := by decide +kernel
set_option maxRecDepth 100000 in
theorem lk_2572 : mj_lk ip_L_law 2572 = some (.aload_n 1, 1) := by decide +kernel
set_option maxRecDepth 100000 in
theorem lk_2573 : mj_lk ip_L_law 2573 = some (.aload_n 0, 1) := by decide +kernel
set_option maxRecDepth 100000 in
theorem lk_2574 : mj_lk ip_L_law 2574 = some (.iload 4, 2) := by decide +kernel
set_option maxRecDepth 100000 in
theorem lk_2576 : mj_lk ip_L_law 2576 = some (.iconst 1, 1) := by decide +kernel
set_option maxRecDepth 100000 in
theorem lk_2577 : mj_lk ip_L_law 2577 = some (.iadd, 1) := by decide +kernel
set_option maxRecDepth 100000 in
theorem lk_2578 : mj_lk ip_L_law 2578 = some (.iaload, 1) := by decide +kernel
set_option maxRecDepth 100000 in
theorem lk_2579 : mj_lk ip_L_law 2579 = some (.aload_n 3, 1) := by decide +kernel
set_option maxRecDepth 100000 in
theorem lk_2580 : mj_lk ip_L_law 2580 = some (.invokestatic 279, 3) := by decide +kernel
set_option maxRecDepth 100000 in
theorem lk_2583 : mj_lk ip_L_law 2583 = some (.istore 5, 2) := by decide +kernel
set_option maxRecDepth 100000 in
theorem lk_2585 : mj_lk ip_L_law 2585 = some (.aload_n 2, 1) := by decide +kernel
set_option maxRecDepth 100000 in
theorem lk_2586 : mj_lk ip_L_law 2586 = some (.aload_n 0, 1) := by decide +kernel
set_option maxRecDepth 100000 in
theorem lk_2587 : mj_lk ip_L_law 2587 = some (.iload 4, 2) := by decide +kernel
set_option maxRecDepth 100000 in
theorem lk_2589 : mj_lk ip_L_law 2589 = some (.iconst 1, 1) := by decide +kernel
set_option maxRecDepth 100000 in
theorem lk_2590 : mj_lk ip_L_law 2590 = some (.iadd, 1) := by decide +kernel
set_option maxRecDepth 100000 in
theorem lk_2591 : mj_lk ip_L_law 2591 = some (.iaload, 1) := by decide +kernel
set_option maxRecDepth 100000 in
theorem lk_2592 : mj_lk ip_L_law 2592 = some (.invokevirtual 281, 3) := by decide +kernel
set_option maxRecDepth 100000 in
theorem lk_2595 : mj_lk ip_L_law 2595 = some (.istore 6, 2) := by decide +kernel
set_option maxRecDepth 100000 in
theorem lk_2597 : mj_lk ip_L_law 2597 = some (.aload_n 2, 1) := by decide +kernel
set_option maxRecDepth 100000 in
theorem lk_2598 : mj_lk ip_L_law 2598 = some (.invokevirtual 169, 3) := by decide +kernel
set_option maxRecDepth 100000 in
theorem lk_2601 : mj_lk ip_L_law 2601 = some (.iload 5, 2) := by decide +kernel
set_option maxRecDepth 100000 in
theorem lk_2603 : mj_lk ip_L_law 2603 = some (.if_icmp .eq 5, 3) := by decide +kernel
set_option maxRecDepth 100000 in
theorem lk_2606 : mj_lk ip_L_law 2606 = some (.iconst 0, 1) := by decide +kernel
set_option maxRecDepth 100000 in
theorem lk_2607 : mj_lk ip_L_law 2607 = some (.ireturn, 1) := by decide +kernel
set_option maxRecDepth 100000 in
theorem lk_2608 : mj_lk ip_L_law 2608 = some (.iload 5, 2) := by decide +kernel
set_option maxRecDepth 100000 in
theorem lk_2610 : mj_lk ip_L_law 2610 = some (.ifCond .ne 15, 3) := by decide +kernel
set_option maxRecDepth 100000 in
theorem lk_2613 : mj_lk ip_L_law 2613 = some (.aload_n 3, 1) := by decide +kernel
set_option maxRecDepth 100000 in
theorem lk_2614 : mj_lk ip_L_law 2614 = some (.iconst 0, 1) := by decide +kernel
set_option maxRecDepth 100000 in
theorem lk_2615 : mj_lk ip_L_law 2615 = some (.laload, 1) := by decide +kernel
set_option maxRecDepth 100000 in
theorem lk_2616 : mj_lk ip_L_law 2616 = some (.iload 6, 2) := by decide +kernel
set_option maxRecDepth 100000 in
theorem lk_2618 : mj_lk ip_L_law 2618 = some (.i2l, 1) := by decide +kernel
set_option maxRecDepth 100000 in
theorem lk_2619 : mj_lk ip_L_law 2619 = some (.lcmp, 1) := by decide +kernel
set_option maxRecDepth 100000 in
theorem lk_2620 : mj_lk ip_L_law 2620 = some (.ifCond .eq 5, 3) := by decide +kernel
set_option maxRecDepth 100000 in
theorem lk_2623 : mj_lk ip_L_law 2623 = some (.iconst 0, 1) := by decide +kernel
set_option maxRecDepth 100000 in
theorem lk_2624 : mj_lk ip_L_law 2624 = some (.ireturn, 1) := by decide +kernel
set_option maxRecDepth 100000 in
theorem lk_2625 : mj_lk ip_L_law 2625 = some (.goto 650, 3) := by decide +kernel
set_option maxRecDepth 100000 in
theorem lk_2628 : mj_lk ip_L_law 2628 = some (.aload_n 1, 1) := by decide +kernel
set_option maxRecDepth 100000 in
theorem lk_2629 : mj_lk ip_L_law 2629 = some (.aload_n 0, 1) := by decide +kernel
set_option maxRecDepth 100000 in
theorem lk_2630 : mj_lk ip_L_law 2630 = some (.iload 4, 2) := by decide +kernel
set_option maxRecDepth 100000 in
theorem lk_2632 : mj_lk ip_L_law 2632 = some (.iconst 1, 1) := by decide +kernel
set_option maxRecDepth 100000 in
theorem lk_2633 : mj_lk ip_L_law 2633 = some (.iadd, 1) := by decide +kernel
set_option maxRecDepth 100000 in
theorem lk_2634 : mj_lk ip_L_law 2634 = some (.iaload, 1) := by decide +kernel
set_option maxRecDepth 100000 in
theorem lk_2635 : mj_lk ip_L_law 2635 = some (.aload_n 0, 1) := by decide +kernel
set_option maxRecDepth 100000 in
theorem lk_2636 : mj_lk ip_L_law 2636 = some (.iload 4, 2) := by decide +kernel
set_option maxRecDepth 100000 in
theorem lk_2638 : mj_lk ip_L_law 2638 = some (.iconst 2, 1) := by decide +kernel
set_option maxRecDepth 100000 in
theorem lk_2639 : mj_lk ip_L_law 2639 = some (.iadd, 1) := by decide +kernel
set_option maxRecDepth 100000 in
theorem lk_2640 : mj_lk ip_L_law 2640 = some (.iaload, 1) := by decide +kernel
set_option maxRecDepth 100000 in
theorem lk_2641 : mj_lk ip_L_law 2641 = some (.aload_n 0, 1) := by decide +kernel
set_option maxRecDepth 100000 in
theorem lk_2642 : mj_lk ip_L_law 2642 = some (.iload 4, 2) := by decide +kernel
set_option maxRecDepth 100000 in
theorem lk_2644 : mj_lk ip_L_law 2644 = some (.iconst 3, 1) := by decide +kernel
set_option maxRecDepth 100000 in
theorem lk_2645 : mj_lk ip_L_law 2645 = some (.iadd, 1) := by decide +kernel
set_option maxRecDepth 100000 in
theorem lk_2646 : mj_lk ip_L_law 2646 = some (.iaload, 1) := by decide +kernel
set_option maxRecDepth 100000 in
theorem lk_2647 : mj_lk ip_L_law 2647 = some (.aload_n 3, 1) := by decide +kernel
set_option maxRecDepth 100000 in
theorem lk_2648 : mj_lk ip_L_law 2648 = some (.invokestatic 282, 3) := by decide +kernel
set_option maxRecDepth 100000 in
theorem lk_2651 : mj_lk ip_L_law 2651 = some (.istore 5, 2) := by decide +kernel
set_option maxRecDepth 100000 in
theorem lk_2653 : mj_lk ip_L_law 2653 = some (.aload_n 2, 1) := by decide +kernel
set_option maxRecDepth 100000 in
theorem lk_2654 : mj_lk ip_L_law 2654 = some (.aload_n 0, 1) := by decide +kernel
set_option maxRecDepth 100000 in
theorem lk_2655 : mj_lk ip_L_law 2655 = some (.iload 4, 2) := by decide +kernel
set_option maxRecDepth 100000 in
theorem lk_2657 : mj_lk ip_L_law 2657 = some (.iconst 1, 1) := by decide +kernel
set_option maxRecDepth 100000 in
theorem lk_2658 : mj_lk ip_L_law 2658 = some (.iadd, 1) := by decide +kernel
set_option maxRecDepth 100000 in
theorem lk_2659 : mj_lk ip_L_law 2659 = some (.iaload, 1) := by decide +kernel
set_option maxRecDepth 100000 in
theorem lk_2660 : mj_lk ip_L_law 2660 = some (.aload_n 0, 1) := by decide +kernel
set_option maxRecDepth 100000 in
theorem lk_2661 : mj_lk ip_L_law 2661 = some (.iload 4, 2) := by decide +kernel
set_option maxRecDepth 100000 in
theorem lk_2663 : mj_lk ip_L_law 2663 = some (.iconst 2, 1) := by decide +kernel
set_option maxRecDepth 100000 in
theorem lk_2664 : mj_lk ip_L_law 2664 = some (.iadd, 1) := by decide +kernel
set_option maxRecDepth 100000 in
theorem lk_2665 : mj_lk ip_L_law 2665 = some (.iaload, 1) := by decide +kernel
set_option maxRecDepth 100000 in
theorem lk_2666 : mj_lk ip_L_law 2666 = some (.aload_n 0, 1) := by decide +kernel
set_option maxRecDepth 100000 in
theorem lk_2667 : mj_lk ip_L_law 2667 = some (.iload 4, 2) := by decide +kernel
set_option maxRecDepth 100000 in
theorem lk_2669 : mj_lk ip_L_law 2669 = some (.iconst 3, 1) := by decide +kernel
set_option maxRecDepth 100000 in
theorem lk_2670 : mj_lk ip_L_law 2670 = some (.iadd, 1) := by decide +kernel
set_option maxRecDepth 100000 in
theorem lk_2671 : mj_lk ip_L_law 2671 = some (.iaload, 1) := by decide +kernel
set_option maxRecDepth 100000 in
theorem lk_2672 : mj_lk ip_L_law 2672 = some (.invokevirtual 284, 3) := by decide +kernel
set_option maxRecDepth 100000 in
theorem lk_2675 : mj_lk ip_L_law 2675 = some (.istore 6, 2) := by decide +kernel
set_option maxRecDepth 100000 in
theorem lk_2677 : mj_lk ip_L_law 2677 = some (.aload_n 2, 1) := by decide +kernel
set_option maxRecDepth 100000 in
theorem lk_2678 : mj_lk ip_L_law 2678 = some (.invokevirtual 169, 3) := by decide +kernel
set_option maxRecDepth 100000 in
theorem lk_2681 : mj_lk ip_L_law 2681 = some (.iload 5, 2) := by decide +kernel
set_option maxRecDepth 100000 in
theorem lk_2683 : mj_lk ip_L_law 2683 = some (.if_icmp .eq 5, 3) := by decide +kernel
set_option maxRecDepth 100000 in
theorem lk_2686 : mj_lk ip_L_law 2686 = some (.iconst 0, 1) := by decide +kernel
set_option maxRecDepth 100000 in
theorem lk_2687 : mj_lk ip_L_law 2687 = some (.ireturn, 1) := by decide +kernel
set_option maxRecDepth 100000 in
theorem lk_2688 : mj_lk ip_L_law 2688 = some (.iload 5, 2) := by decide +kernel
set_option maxRecDepth 100000 in
theorem lk_2690 : mj_lk ip_L_law 2690 = some (.ifCond .ne 22, 3) := by decide +kernel
set_option maxRecDepth 100000 in
theorem lk_2693 : mj_lk ip_L_law 2693 = some (.aload_n 3, 1) := by decide +kernel
set_option maxRecDepth 100000 in
theorem lk_2694 : mj_lk ip_L_law 2694 = some (.iconst 0, 1) := by decide +kernel
set_option maxRecDepth 100000 in
theorem lk_2695 : mj_lk ip_L_law 2695 = some (.laload, 1) := by decide +kernel
set_option maxRecDepth 100000 in
theorem lk_2696 : mj_lk ip_L_law 2696 = some (.iload 6, 2) := by decide +kernel
set_option maxRecDepth 100000 in
theorem lk_2698 : mj_lk ip_L_law 2698 = some (.ifCond .eq 7, 3) := by decide +kernel
set_option maxRecDepth 100000 in
theorem lk_2701 : mj_lk ip_L_law 2701 = some (.lconst 1, 1) := by decide +kernel
set_option maxRecDepth 100000 in
theorem lk_2702 : mj_lk ip_L_law 2702 = some (.goto 4, 3) := by decide +kernel
set_option maxRecDepth 100000 in
theorem lk_2705 : mj_lk ip_L_law 2705 = some (.lconst 0, 1) := by decide +kernel
set_option maxRecDepth 100000 in
theorem lk_2706 : mj_lk ip_L_law 2706 = some (.lcmp, 1) := by decide +kernel
set_option maxRecDepth 100000 in
theorem lk_2707 : mj_lk ip_L_law 2707 = some (.ifCond .eq 5, 3) := by decide +kernel
set_option maxRecDepth 100000 in
theorem lk_2710 : mj_lk ip_L_law 2710 = some (.iconst 0, 1) := by decide +kernel
set_option maxRecDepth 100000 in
theorem lk_2711 : mj_lk ip_L_law 2711 = some (.ireturn, 1) := by decide +kernel
set_option maxRecDepth 100000 in
theorem lk_2712 : mj_lk ip_L_law 2712 = some (.goto 563, 3) := by decide +kernel
set_option maxRecDepth 100000 in
theorem lk_2715 : mj_lk ip_L_law 2715 = some (.aload_n 1, 1) := by decide +kernel
set_option maxRecDepth 100000 in
theorem lk_2716 : mj_lk ip_L_law 2716 = some (.aload_n 0, 1) := by decide +kernel
set_option maxRecDepth 100000 in
theorem lk_2717 : mj_lk ip_L_law 2717 = some (.iload 4, 2) := by decide +kernel
set_option maxRecDepth 100000 in
theorem lk_2719 : mj_lk ip_L_law 2719 = some (.iconst 1, 1) := by decide +kernel
set_option maxRecDepth 100000 in
theorem lk_2720 : mj_lk ip_L_law 2720 = some (.iadd, 1) := by decide +kernel
set_option maxRecDepth 100000 in
theorem lk_2721 : mj_lk ip_L_law 2721 = some (.iaload, 1) := by decide +kernel
set_option maxRecDepth 100000 in
theorem lk_2722 : mj_lk ip_L_law 2722 = some (.aload_n 0, 1) := by decide +kernel
set_option maxRecDepth 100000 in
theorem lk_2723 : mj_lk ip_L_law 2723 = some (.iload 4, 2) := by decide +kernel
set_option maxRecDepth 100000 in
theorem lk_2725 : mj_lk ip_L_law 2725 = some (.iconst 2, 1) := by decide +kernel
set_option maxRecDepth 100000 in
theorem lk_2726 : mj_lk ip_L_law 2726 = some (.iadd, 1) := by decide +kernel
set_option maxRecDepth 100000 in
theorem lk_2727 : mj_lk ip_L_law 2727 = some (.iaload, 1) := by decide +kernel
set_option maxRecDepth 100000 in
theorem lk_2728 : mj_lk ip_L_law 2728 = some (.aload_n 3, 1) := by decide +kernel
set_option maxRecDepth 100000 in
theorem lk_2729 : mj_lk ip_L_law 2729 = some (.invokestatic 285, 3) := by decide +kernel
set_option maxRecDepth 100000 in
theorem lk_2732 : mj_lk ip_L_law 2732 = some (.istore 5, 2) := by decide +kernel
set_option maxRecDepth 100000 in
theorem lk_2734 : mj_lk ip_L_law 2734 = some (.aload_n 2, 1) := by decide +kernel
set_option maxRecDepth 100000 in
theorem lk_2735 : mj_lk ip_L_law 2735 = some (.aload_n 0, 1) := by decide +kernel
set_option maxRecDepth 100000 in
theorem lk_2736 : mj_lk ip_L_law 2736 = some (.iload 4, 2) := by decide +kernel
set_option maxRecDepth 100000 in
theorem lk_2738 : mj_lk ip_L_law 2738 = some (.iconst 1, 1) := by decide +kernel
set_option maxRecDepth 100000 in
theorem lk_2739 : mj_lk ip_L_law 2739 = some (.iadd, 1) := by decide +kernel
set_option maxRecDepth 100000 in
theorem lk_2740 : mj_lk ip_L_law 2740 = some (.iaload, 1) := by decide +kernel
set_option maxRecDepth 100000 in
theorem lk_2741 : mj_lk ip_L_law 2741 = some (.aload_n 0, 1) := by decide +kernel
set_option maxRecDepth 100000 in
theorem lk_2742 : mj_lk ip_L_law 2742 = some (.iload 4, 2) := by decide +kernel
set_option maxRecDepth 100000 in
theorem lk_2744 : mj_lk ip_L_law 2744 = some (.iconst 2, 1) := by decide +kernel
set_option maxRecDepth 100000 in
theorem lk_2745 : mj_lk ip_L_law 2745 = some (.iadd, 1) := by decide +kernel
set_option maxRecDepth 100000 in
theorem lk_2746 : mj_lk ip_L_law 2746 = some (.iaload, 1) := by decide +kernel
set_option maxRecDepth 100000 in
theorem lk_2747 : mj_lk ip_L_law 2747 = some (.invokevirtual 287, 3) := by decide +kernel
set_option maxRecDepth 100000 in
theorem lk_2750 : mj_lk ip_L_law 2750 = some (.istore 6, 2) := by decide +kernel
set_option maxRecDepth 100000 in
theorem lk_2752 : mj_lk ip_L_law 2752 = some (.aload_n 2, 1) := by decide +kernel
set_option maxRecDepth 100000 in
theorem lk_2753 : mj_lk ip_L_law 2753 = some (.invokevirtual 169, 3) := by decide +kernel
set_option maxRecDepth 100000 in
theorem lk_2756 : mj_lk ip_L_law 2756 = some (.iload 5, 2) := by decide +kernel
set_option maxRecDepth 100000 in
theorem lk_2758 : mj_lk ip_L_law 2758 = some (.if_icmp .eq 5, 3) := by decide +kernel
set_option maxRecDepth 100000 in
theorem lk_2761 : mj_lk ip_L_law 2761 = some (.iconst 0, 1) := by decide +kernel
set_option maxRecDepth 100000 in
theorem lk_2762 : mj_lk ip_L_law 2762 = some (.ireturn, 1) := by decide +kernel
set_option maxRecDepth 100000 in
theorem lk_2763 : mj_lk ip_L_law 2763 = some (.iload 5, 2) := by decide +kernel
set_option maxRecDepth 100000 in
theorem lk_2765 : mj_lk ip_L_law 2765 = some (.ifCond .ne 15, 3) := by decide +kernel
set_option maxRecDepth 100000 in
theorem lk_2768 : mj_lk ip_L_law 2768 = some (.aload_n 3, 1) := by decide +kernel
set_option maxRecDepth 100000 in
theorem lk_2769 : mj_lk ip_L_law 2769 = some (.iconst 0, 1) := by decide +kernel
set_option maxRecDepth 100000 in
theorem lk_2770 : mj_lk ip_L_law 2770 = some (.laload, 1) := by decide +kernel
set_option maxRecDepth 100000 in
theorem lk_2771 : mj_lk ip_L_law 2771 = some (.iload 6, 2) := by decide +kernel
set_option maxRecDepth 100000 in
theorem lk_2773 : mj_lk ip_L_law 2773 = some (.i2l, 1) := by decide +kernel
set_option maxRecDepth 100000 in
theorem lk_2774 : mj_lk ip_L_law 2774 = some (.lcmp, 1) := by decide +kernel
set_option maxRecDepth 100000 in
theorem lk_2775 : mj_lk ip_L_law 2775 = some (.ifCond .eq 5, 3) := by decide +kernel
set_option maxRecDepth 100000 in
theorem lk_2778 : mj_lk ip_L_law 2778 = some (.iconst 0, 1) := by decide +kernel
set_option maxRecDepth 100000 in
theorem lk_2779 : mj_lk ip_L_law 2779 = some (.ireturn, 1) := by decide +kernel
set_option maxRecDepth 100000 in
theorem lk_2780 : mj_lk ip_L_law 2780 = some (.goto 495, 3) := by decide +kernel
set_option maxRecDepth 100000 in
theorem lk_2783 : mj_lk ip_L_law 2783 = some (.aload_n 1, 1) := by decide +kernel
set_option maxRecDepth 100000 in
theorem lk_2784 : mj_lk ip_L_law 2784 = some (.aload_n 0, 1) := by decide +kernel
set_option maxRecDepth 100000 in
theorem lk_2785 : mj_lk ip_L_law 2785 = some (.iload 4, 2) := by decide +kernel
set_option maxRecDepth 100000 in
theorem lk_2787 : mj_lk ip_L_law 2787 = some (.iconst 1, 1) := by decide +kernel
set_option maxRecDepth 100000 in
theorem lk_2788 : mj_lk ip_L_law 2788 = some (.iadd, 1) := by decide +kernel
set_option maxRecDepth 100000 in
theorem lk_2789 : mj_lk ip_L_law 2789 = some (.iaload, 1) := by decide +kernel
set_option maxRecDepth 100000 in
theorem lk_2790 : mj_lk ip_L_law 2790 = some (.aload_n 3, 1) := by decide +kernel
set_option maxRecDepth 100000 in
theorem lk_2791 : mj_lk ip_L_law 2791 = some (.invokestatic 288, 3) := by decide +kernel
set_option maxRecDepth 100000 in
theorem lk_2794 : mj_lk ip_L_law 2794 = some (.istore 5, 2) := by decide +kernel
set_option maxRecDepth 100000 in
theorem lk_2796 : mj_lk ip_L_law 2796 = some (.aload_n 2, 1) := by decide +kernel
set_option maxRecDepth 100000 in
theorem lk_2797 : mj_lk ip_L_law 2797 = some (.aload_n 0, 1) := by decide +kernel
set_option maxRecDepth 100000 in
theorem lk_2798 : mj_lk ip_L_law 2798 = some (.iload 4, 2) := by decide +kernel
set_option maxRecDepth 100000 in
theorem lk_2800 : mj_lk ip_L_law 2800 = some (.iconst 1, 1) := by decide +kernel
set_option maxRecDepth 100000 in
theorem lk_2801 : mj_lk ip_L_law 2801 = some (.iadd, 1) := by decide +kernel
set_option maxRecDepth 100000 in
theorem lk_2802 : mj_lk ip_L_law 2802 = some (.iaload, 1) := by decide +kernel
set_option maxRecDepth 100000 in
theorem lk_2803 : mj_lk ip_L_law 2803 = some (.invokevirtual 290, 3) := by decide +kernel
set_option maxRecDepth 100000 in
theorem lk_2806 : mj_lk ip_L_law 2806 = some (.istore 6, 2) := by decide +kernel
set_option maxRecDepth 100000 in
theorem lk_2808 : mj_lk ip_L_law 2808 = some (.aload_n 2, 1) := by decide +kernel
set_option maxRecDepth 100000 in
theorem lk_2809 : mj_lk ip_L_law 2809 = some (.invokevirtual 169, 3) := by decide +kernel
set_option maxRecDepth 100000 in
theorem lk_2812 : mj_lk ip_L_law 2812 = some (.iload 5, 2) := by decide +kernel
set_option maxRecDepth 100000 in
theorem lk_2814 : mj_lk ip_L_law 2814 = some (.if_icmp .eq 5, 3) := by decide +kernel
set_option maxRecDepth 100000 in
theorem lk_2817 : mj_lk ip_L_law 2817 = some (.iconst 0, 1) := by decide +kernel
set_option maxRecDepth 100000 in
theorem lk_2818 : mj_lk ip_L_law 2818 = some (.ireturn, 1) := by decide +kernel
set_option maxRecDepth 100000 in
theorem lk_2819 : mj_lk ip_L_law 2819 = some (.iload 5, 2) := by decide +kernel
set_option maxRecDepth 100000 in
theorem lk_2821 : mj_lk ip_L_law 2821 = some (.ifCond .ne 15, 3) := by decide +kernel
set_option maxRecDepth 100000 in
theorem lk_2824 : mj_lk ip_L_law 2824 = some (.aload_n 3, 1) := by decide +kernel
set_option maxRecDepth 100000 in
theorem lk_2825 : mj_lk ip_L_law 2825 = some (.iconst 0, 1) := by decide +kernel
set_option maxRecDepth 100000 in
theorem lk_2826 : mj_lk ip_L_law 2826 = some (.laload, 1) := by decide +kernel
set_option maxRecDepth 100000 in
theorem lk_2827 : mj_lk ip_L_law 2827 = some (.iload 6, 2) := by decide +kernel
set_option maxRecDepth 100000 in
theorem lk_2829 : mj_lk ip_L_law 2829 = some (.i2l, 1) := by decide +kernel
set_option maxRecDepth 100000 in
theorem lk_2830 : mj_lk ip_L_law 2830 = some (.lcmp, 1) := by decide +kernel
set_option maxRecDepth 100000 in
theorem lk_2831 : mj_lk ip_L_law 2831 = some (.ifCond .eq 5, 3) := by decide +kernel
set_option maxRecDepth 100000 in
theorem lk_2834 : mj_lk ip_L_law 2834 = some (.iconst 0, 1) := by decide +kernel
set_option maxRecDepth 100000 in
theorem lk_2835 : mj_lk ip_L_law 2835 = some (.ireturn, 1) := by decide +kernel
set_option maxRecDepth 100000 in
theorem lk_2836 : mj_lk ip_L_law 2836 = some (.goto 439, 3) := by decide +kernel
set_option maxRecDepth 100000 in
theorem lk_2839 : mj_lk ip_L_law 2839 = some (.aload_n 1, 1) := by decide +kernel
set_option maxRecDepth 100000 in
theorem lk_2840 : mj_lk ip_L_law 2840 = some (.aload_n 0, 1) := by decide +kernel
set_option maxRecDepth 100000 in
theorem lk_2841 : mj_lk ip_L_law 2841 = some (.iload 4, 2) := by decide +kernel
set_option maxRecDepth 100000 in
theorem lk_2843 : mj_lk ip_L_law 2843 = some (.iconst 1, 1) := by decide +kernel
set_option maxRecDepth 100000 in
theorem lk_2844 : mj_lk ip_L_law 2844 = some (.iadd, 1) := by decide +kernel
set_option maxRecDepth 100000 in
theorem lk_2845 : mj_lk ip_L_law 2845 = some (.iaload, 1) := by decide +kernel
set_option maxRecDepth 100000 in
theorem lk_2846 : mj_lk ip_L_law 2846 = some (.aload_n 3, 1) := by decide +kernel
set_option maxRecDepth 100000 in
theorem lk_2847 : mj_lk ip_L_law 2847 = some (.invokestatic 291, 3) := by decide +kernel
set_option maxRecDepth 100000 in
theorem lk_2850 : mj_lk ip_L_law 2850 = some (.istore 5, 2) := by decide +kernel
set_option maxRecDepth 100000 in
theorem lk_2852 : mj_lk ip_L_law 2852 = some (.aload_n 2, 1) := by decide +kernel
set_option maxRecDepth 100000 in
theorem lk_2853 : mj_lk ip_L_law 2853 = some (.aload_n 0, 1) := by decide +kernel
set_option maxRecDepth 100000 in
theorem lk_2854 : mj_lk ip_L_law 2854 = some (.iload 4, 2) := by decide +kernel
set_option maxRecDepth 100000 in
theorem lk_2856 : mj_lk ip_L_law 2856 = some (.iconst 1, 1) := by decide +kernel
set_option maxRecDepth 100000 in
theorem lk_2857 : mj_lk ip_L_law 2857 = some (.iadd, 1) := by decide +kernel
set_option maxRecDepth 100000 in
theorem lk_2858 : mj_lk ip_L_law 2858 = some (.iaload, 1) := by decide +kernel
set_option maxRecDepth 100000 in
theorem lk_2859 : mj_lk ip_L_law 2859 = some (.invokevirtual 293, 3) := by decide +kernel
set_option maxRecDepth 100000 in
theorem lk_2862 : mj_lk ip_L_law 2862 = some (.istore 6, 2) := by decide +kernel
set_option maxRecDepth 100000 in
theorem lk_2864 : mj_lk ip_L_law 2864 = some (.aload_n 2, 1) := by decide +kernel
set_option maxRecDepth 100000 in
theorem lk_2865 : mj_lk ip_L_law 2865 = some (.invokevirtual 169, 3) := by decide +kernel
set_option maxRecDepth 100000 in
theorem lk_2868 : mj_lk ip_L_law 2868 = some (.iload 5, 2) := by decide +kernel
set_option maxRecDepth 100000 in
theorem lk_2870 : mj_lk ip_L_law 2870 = some (.if_icmp .eq 5, 3) := by decide +kernel
set_option maxRecDepth 100000 in
theorem lk_2873 : mj_lk ip_L_law 2873 = some (.iconst 0, 1) := by decide +kernel
set_option maxRecDepth 100000 in
theorem lk_2874 : mj_lk ip_L_law 2874 = some (.ireturn, 1) := by decide +kernel
set_option maxRecDepth 100000 in
theorem lk_2875 : mj_lk ip_L_law 2875 = some (.iload 5, 2) := by decide +kernel
set_option maxRecDepth 100000 in
theorem lk_2877 : mj_lk ip_L_law 2877 = some (.ifCond .ne 15, 3) := by decide +kernel
set_option maxRecDepth 100000 in
theorem lk_2880 : mj_lk ip_L_law 2880 = some (.aload_n 3, 1) := by decide +kernel
set_option maxRecDepth 100000 in
theorem lk_2881 : mj_lk ip_L_law 2881 = some (.iconst 0, 1) := by decide +kernel
set_option maxRecDepth 100000 in
theorem lk_2882 : mj_lk ip_L_law 2882 = some (.laload, 1) := by decide +kernel
set_option maxRecDepth 100000 in
theorem lk_2883 : mj_lk ip_L_law 2883 = some (.iload 6, 2) := by decide +kernel
set_option maxRecDepth 100000 in
theorem lk_2885 : mj_lk ip_L_law 2885 = some (.i2l, 1) := by decide +kernel
set_option maxRecDepth 100000 in
theorem lk_2886 : mj_lk ip_L_law 2886 = some (.lcmp, 1) := by decide +kernel
set_option maxRecDepth 100000 in
theorem lk_2887 : mj_lk ip_L_law 2887 = some (.ifCond .eq 5, 3) := by decide +kernel
set_option maxRecDepth 100000 in
theorem lk_2890 : mj_lk ip_L_law 2890 = some (.iconst 0, 1) := by decide +kernel
set_option maxRecDepth 100000 in
theorem lk_2891 : mj_lk ip_L_law 2891 = some (.ireturn, 1) := by decide +kernel
set_option maxRecDepth 100000 in
theorem lk_2892 : mj_lk ip_L_law 2892 = some (.goto 383, 3) := by decide +kernel
set_option maxRecDepth 100000 in
theorem lk_2895 : mj_lk ip_L_law 2895 = some (.aload_n 1, 1) := by decide +kernel
set_option maxRecDepth 100000 in
theorem lk_2896 : mj_lk ip_L_law 2896 = some (.aload_n 0, 1) := by decide +kernel
set_option maxRecDepth 100000 in
theorem lk_2897 : mj_lk ip_L_law 2897 = some (.iload 4, 2) := by decide +kernel
set_option maxRecDepth 100000 in
theorem lk_2899 : mj_lk ip_L_law 2899 = some (.iconst 1, 1) := by decide +kernel
set_option maxRecDepth 100000 in
theorem lk_2900 : mj_lk ip_L_law 2900 = some (.iadd, 1) := by decide +kernel
set_option maxRecDepth 100000 in
theorem lk_2901 : mj_lk ip_L_law 2901 = some (.iaload, 1) := by decide +kernel
set_option maxRecDepth 100000 in
theorem lk_2902 : mj_lk ip_L_law 2902 = some (.aload_n 0, 1) := by decide +kernel
set_option maxRecDepth 100000 in
theorem lk_2903 : mj_lk ip_L_law 2903 = some (.iload 4, 2) := by decide +kernel
set_option maxRecDepth 100000 in
theorem lk_2905 : mj_lk ip_L_law 2905 = some (.iconst 2, 1) := by decide +kernel
set_option maxRecDepth 100000 in
theorem lk_2906 : mj_lk ip_L_law 2906 = some (.iadd, 1) := by decide +kernel
set_option maxRecDepth 100000 in
theorem lk_2907 : mj_lk ip_L_law 2907 = some (.iaload, 1) := by decide +kernel
set_option maxRecDepth 100000 in
theorem lk_2908 : mj_lk ip_L_law 2908 = some (.aload_n 3, 1) := by decide +kernel
set_option maxRecDepth 100000 in
theorem lk_2909 : mj_lk ip_L_law 2909 = some (.invokestatic 294, 3) := by decide +kernel
set_option maxRecDepth 100000 in
theorem lk_2912 : mj_lk ip_L_law 2912 = some (.istore 5, 2) := by decide +kernel
set_option maxRecDepth 100000 in
theorem lk_2914 : mj_lk ip_L_law 2914 = some (.aload_n 2, 1) := by decide +kernel
set_option maxRecDepth 100000 in
theorem lk_2915 : mj_lk ip_L_law 2915 = some (.aload_n 0, 1) := by decide +kernel
set_option maxRecDepth 100000 in
theorem lk_2916 : mj_lk ip_L_law 2916 = some (.iload 4, 2) := by decide +kernel
set_option maxRecDepth 100000 in
theorem lk_2918 : mj_lk ip_L_law 2918 = some (.iconst 1, 1) := by decide +kernel
set_option maxRecDepth 100000 in
theorem lk_2919 : mj_lk ip_L_law 2919 = some (.iadd, 1) := by decide +kernel
set_option maxRecDepth 100000 in
theorem lk_2920 : mj_lk ip_L_law 2920 = some (.iaload, 1) := by decide +kernel
set_option maxRecDepth 100000 in
theorem lk_2921 : mj_lk ip_L_law 2921 = some (.aload_n 0, 1) := by decide +kernel
set_option maxRecDepth 100000 in
theorem lk_2922 : mj_lk ip_L_law 2922 = some (.iload 4, 2) := by decide +kernel
set_option maxRecDepth 100000 in
theorem lk_2924 : mj_lk ip_L_law 2924 = some (.iconst 2, 1) := by decide +kernel
set_option maxRecDepth 100000 in
theorem lk_2925 : mj_lk ip_L_law 2925 = some (.iadd, 1) := by decide +kernel
set_option maxRecDepth 100000 in
theorem lk_2926 : mj_lk ip_L_law 2926 = some (.iaload, 1) := by decide +kernel
set_option maxRecDepth 100000 in
theorem lk_2927 : mj_lk ip_L_law 2927 = some (.invokevirtual 296, 3) := by decide +kernel
set_option maxRecDepth 100000 in
theorem lk_2930 : mj_lk ip_L_law 2930 = some (.istore 6, 2) := by decide +kernel
set_option maxRecDepth 100000 in
theorem lk_2932 : mj_lk ip_L_law 2932 = some (.aload_n 2, 1) := by decide +kernel
set_option maxRecDepth 100000 in
theorem lk_2933 : mj_lk ip_L_law 2933 = some (.invokevirtual 169, 3) := by decide +kernel
set_option maxRecDepth 100000 in
theorem lk_2936 : mj_lk ip_L_law 2936 = some (.iload 5, 2) := by decide +kernel
set_option maxRecDepth 100000 in
theorem lk_2938 : mj_lk ip_L_law 2938 = some (.if_icmp .eq 5, 3) := by decide +kernel
set_option maxRecDepth 100000 in
theorem lk_2941 : mj_lk ip_L_law 2941 = some (.iconst 0, 1) := by decide +kernel
set_option maxRecDepth 100000 in
theorem lk_2942 : mj_lk ip_L_law 2942 = some (.ireturn, 1) := by decide +kernel
set_option maxRecDepth 100000 in
theorem lk_2943 : mj_lk ip_L_law 2943 = some (.iload 5, 2) := by decide +kernel
set_option maxRecDepth 100000 in
theorem lk_2945 : mj_lk ip_L_law 2945 = some (.ifCond .ne 15, 3) := by decide +kernel
set_option maxRecDepth 100000 in
theorem lk_2948 : mj_lk ip_L_law 2948 = some (.aload_n 3, 1) := by decide +kernel
set_option maxRecDepth 100000 in
theorem lk_2949 : mj_lk ip_L_law 2949 = some (.iconst 0, 1) := by decide +kernel
set_option maxRecDepth 100000 in
theorem lk_2950 : mj_lk ip_L_law 2950 = some (.laload, 1) := by decide +kernel
set_option maxRecDepth 100000 in
theorem lk_2951 : mj_lk ip_L_law 2951 = some (.iload 6, 2) := by decide +kernel
set_option maxRecDepth 100000 in
theorem lk_2953 : mj_lk ip_L_law 2953 = some (.i2l, 1) := by decide +kernel
set_option maxRecDepth 100000 in
theorem lk_2954 : mj_lk ip_L_law 2954 = some (.lcmp, 1) := by decide +kernel
set_option maxRecDepth 100000 in
theorem lk_2955 : mj_lk ip_L_law 2955 = some (.ifCond .eq 5, 3) := by decide +kernel
set_option maxRecDepth 100000 in
theorem lk_2958 : mj_lk ip_L_law 2958 = some (.iconst 0, 1) := by decide +kernel
set_option maxRecDepth 100000 in
theorem lk_2959 : mj_lk ip_L_law 2959 = some (.ireturn, 1) := by decide +kernel
set_option maxRecDepth 100000 in
theorem lk_2960 : mj_lk ip_L_law 2960 = some (.goto 315, 3) := by decide +kernel
set_option maxRecDepth 100000 in
theorem lk_2963 : mj_lk ip_L_law 2963 = some (.aload_n 1, 1) := by decide +kernel
set_option maxRecDepth 100000 in
theorem lk_2964 : mj_lk ip_L_law 2964 = some (.aload_n 0, 1) := by decide +kernel
set_option maxRecDepth 100000 in
theorem lk_2965 : mj_lk ip_L_law 2965 = some (.iload 4, 2) := by decide +kernel
set_option maxRecDepth 100000 in
theorem lk_2967 : mj_lk ip_L_law 2967 = some (.iconst 1, 1) := by decide +kernel
set_option maxRecDepth 100000 in
theorem lk_2968 : mj_lk ip_L_law 2968 = some (.iadd, 1) := by decide +kernel
set_option maxRecDepth 100000 in
theorem lk_2969 : mj_lk ip_L_law 2969 = some (.iaload, 1) := by decide +kernel
set_option maxRecDepth 100000 in
theorem lk_2970 : mj_lk ip_L_law 2970 = some (.aload_n 0, 1) := by decide +kernel
set_option maxRecDepth 100000 in
theorem lk_2971 : mj_lk ip_L_law 2971 = some (.iload 4, 2) := by decide +kernel
set_option maxRecDepth 100000 in
theorem lk_2973 : mj_lk ip_L_law 2973 = some (.iconst 2, 1) := by decide +kernel
set_option maxRecDepth 100000 in
theorem lk_2974 : mj_lk ip_L_law 2974 = some (.iadd, 1) := by decide +kernel
set_option maxRecDepth 100000 in
theorem lk_2975 : mj_lk ip_L_law 2975 = some (.iaload, 1) := by decide +kernel
set_option maxRecDepth 100000 in
theorem lk_2976 : mj_lk ip_L_law 2976 = some (.aload_n 0, 1) := by decide +kernel
set_option maxRecDepth 100000 in
theorem lk_2977 : mj_lk ip_L_law 2977 = some (.iload 4, 2) := by decide +kernel
set_option maxRecDepth 100000 in
theorem lk_2979 : mj_lk ip_L_law 2979 = some (.iconst 3, 1) := by decide +kernel
set_option maxRecDepth 100000 in
theorem lk_2980 : mj_lk ip_L_law 2980 = some (.iadd, 1) := by decide +kernel
set_option maxRecDepth 100000 in
theorem lk_2981 : mj_lk ip_L_law 2981 = some (.iaload, 1) := by decide +kernel
set_option maxRecDepth 100000 in
theorem lk_2982 : mj_lk ip_L_law 2982 = some (.aload_n 3, 1) := by decide +kernel
set_option maxRecDepth 100000 in
theorem lk_2983 : mj_lk ip_L_law 2983 = some (.invokestatic 297, 3) := by decide +kernel
set_option maxRecDepth 100000 in
theorem lk_2986 : mj_lk ip_L_law 2986 = some (.istore 5, 2) := by decide +kernel
set_option maxRecDepth 100000 in
theorem lk_2988 : mj_lk ip_L_law 2988 = some (.aload_n 2, 1) := by decide +kernel
set_option maxRecDepth 100000 in
theorem lk_2989 : mj_lk ip_L_law 2989 = some (.aload_n 0, 1) := by decide +kernel
set_option maxRecDepth 100000 in
theorem lk_2990 : mj_lk ip_L_law 2990 = some (.iload 4, 2) := by decide +kernel
set_option maxRecDepth 100000 in
theorem lk_2992 : mj_lk ip_L_law 2992 = some (.iconst 1, 1) := by decide +kernel
set_option maxRecDepth 100000 in
theorem lk_2993 : mj_lk ip_L_law 2993 = some (.iadd, 1) := by decide +kernel
set_option maxRecDepth 100000 in
theorem lk_2994 : mj_lk ip_L_law 2994 = some (.iaload, 1) := by decide +kernel
set_option maxRecDepth 100000 in
theorem lk_2995 : mj_lk ip_L_law 2995 = some (.aload_n 0, 1) := by decide +kernel
set_option maxRecDepth 100000 in
theorem lk_2996 : mj_lk ip_L_law 2996 = some (.iload 4, 2) := by decide +kernel
set_option maxRecDepth 100000 in
theorem lk_2998 : mj_lk ip_L_law 2998 = some (.iconst 2, 1) := by decide +kernel
set_option maxRecDepth 100000 in
theorem lk_2999 : mj_lk ip_L_law 2999 = some (.iadd, 1) := by decide +kernel
set_option maxRecDepth 100000 in
theorem lk_3000 : mj_lk ip_L_law 3000 = some (.iaload, 1) := by decide +kernel
set_option maxRecDepth 100000 in
theorem lk_3001 : mj_lk ip_L_law 3001 = some (.aload_n 0, 1) := by decide +kernel
set_option maxRecDepth 100000 in
theorem lk_3002 : mj_lk ip_L_law 3002 = some (.iload 4, 2) := by decide +kernel
set_option maxRecDepth 100000 in
theorem lk_3004 : mj_lk ip_L_law 3004 = some (.iconst 3, 1) := by decide +kernel
set_option maxRecDepth 100000 in
theorem lk_3005 : mj_lk ip_L_law 3005 = some (.iadd, 1) := by decide +kernel
set_option maxRecDepth 100000 in
theorem lk_3006 : mj_lk ip_L_law 3006 = some (.iaload, 1) := by decide +kernel
set_option maxRecDepth 100000 in
theorem lk_3007 : mj_lk ip_L_law 3007 = some (.invokevirtual 299, 3) := by decide +kernel
set_option maxRecDepth 100000 in
theorem lk_3010 : mj_lk ip_L_law 3010 = some (.istore 6, 2) := by decide +kernel
set_option maxRecDepth 100000 in
theorem lk_3012 : mj_lk ip_L_law 3012 = some (.aload_n 2, 1) := by decide +kernel
set_option maxRecDepth 100000 in
theorem lk_3013 : mj_lk ip_L_law 3013 = some (.invokevirtual 169, 3) := by decide +kernel
set_option maxRecDepth 100000 in
theorem lk_3016 : mj_lk ip_L_law 3016 = some (.iload 5, 2) := by decide +kernel
set_option maxRecDepth 100000 in
theorem lk_3018 : mj_lk ip_L_law 3018 = some (.if_icmp .eq 5, 3) := by decide +kernel
set_option maxRecDepth 100000 in
theorem lk_3021 : mj_lk ip_L_law 3021 = some (.iconst 0, 1) := by decide +kernel
set_option maxRecDepth 100000 in
theorem lk_3022 : mj_lk ip_L_law 3022 = some (.ireturn, 1) := by decide +kernel
set_option maxRecDepth 100000 in
theorem lk_3023 : mj_lk ip_L_law 3023 = some (.iload 5, 2) := by decide +kernel
set_option maxRecDepth 100000 in
theorem lk_3025 : mj_lk ip_L_law 3025 = some (.ifCond .ne 15, 3) := by decide +kernel
set_option maxRecDepth 100000 in
theorem lk_3028 : mj_lk ip_L_law 3028 = some (.aload_n 3, 1) := by decide +kernel
set_option maxRecDepth 100000 in
theorem lk_3029 : mj_lk ip_L_law 3029 = some (.iconst 0, 1) := by decide +kernel
set_option maxRecDepth 100000 in
theorem lk_3030 : mj_lk ip_L_law 3030 = some (.laload, 1) := by decide +kernel
set_option maxRecDepth 100000 in
theorem lk_3031 : mj_lk ip_L_law 3031 = some (.iload 6, 2) := by decide +kernel
set_option maxRecDepth 100000 in
theorem lk_3033 : mj_lk ip_L_law 3033 = some (.i2l, 1) := by decide +kernel
set_option maxRecDepth 100000 in
theorem lk_3034 : mj_lk ip_L_law 3034 = some (.lcmp, 1) := by decide +kernel
set_option maxRecDepth 100000 in
theorem lk_3035 : mj_lk ip_L_law 3035 = some (.ifCond .eq 5, 3) := by decide +kernel
set_option maxRecDepth 100000 in
theorem lk_3038 : mj_lk ip_L_law 3038 = some (.iconst 0, 1) := by decide +kernel
set_option maxRecDepth 100000 in
theorem lk_3039 : mj_lk ip_L_law 3039 = some (.ireturn, 1) := by decide +kernel
set_option maxRecDepth 100000 in
theorem lk_3040 : mj_lk ip_L_law 3040 = some (.goto 235, 3) := by decide +kernel
set_option maxRecDepth 100000 in
theorem lk_3043 : mj_lk ip_L_law 3043 = some (.aload_n 1, 1) := by decide +kernel
set_option maxRecDepth 100000 in
theorem lk_3044 : mj_lk ip_L_law 3044 = some (.aload_n 0, 1) := by decide +kernel
set_option maxRecDepth 100000 in
theorem lk_3045 : mj_lk ip_L_law 3045 = some (.iload 4, 2) := by decide +kernel
set_option maxRecDepth 100000 in
theorem lk_3047 : mj_lk ip_L_law 3047 = some (.iconst 1, 1) := by decide +kernel
set_option maxRecDepth 100000 in
theorem lk_3048 : mj_lk ip_L_law 3048 = some (.iadd, 1) := by decide +kernel
set_option maxRecDepth 100000 in
theorem lk_3049 : mj_lk ip_L_law 3049 = some (.iaload, 1) := by decide +kernel
set_option maxRecDepth 100000 in
theorem lk_3050 : mj_lk ip_L_law 3050 = some (.invokevirtual 300, 3) := by decide +kernel
set_option maxRecDepth 100000 in
theorem lk_3053 : mj_lk ip_L_law 3053 = some (.aload_n 2, 1) := by decide +kernel
set_option maxRecDepth 100000 in
theorem lk_3054 : mj_lk ip_L_law 3054 = some (.aload_n 0, 1) := by decide +kernel
set_option maxRecDepth 100000 in
theorem lk_3055 : mj_lk ip_L_law 3055 = some (.iload 4, 2) := by decide +kernel
set_option maxRecDepth 100000 in
theorem lk_3057 : mj_lk ip_L_law 3057 = some (.iconst 1, 1) := by decide +kernel
set_option maxRecDepth 100000 in
theorem lk_3058 : mj_lk ip_L_law 3058 = some (.iadd, 1) := by decide +kernel
set_option maxRecDepth 100000 in
theorem lk_3059 : mj_lk ip_L_law 3059 = some (.iaload, 1) := by decide +kernel
set_option maxRecDepth 100000 in
theorem lk_3060 : mj_lk ip_L_law 3060 = some (.invokevirtual 303, 3) := by decide +kernel
set_option maxRecDepth 100000 in
theorem lk_3063 : mj_lk ip_L_law 3063 = some (.if_icmp .eq 212, 3) := by decide +kernel
set_option maxRecDepth 100000 in
theorem lk_3066 : mj_lk ip_L_law 3066 = some (.iconst 0, 1) := by decide +kernel
set_option maxRecDepth 100000 in
theorem lk_3067 : mj_lk ip_L_law 3067 = some (.ireturn, 1) := by decide +kernel
set_option maxRecDepth 100000 in
theorem lk_3068 : mj_lk ip_L_law 3068 = some (.aload_n 1, 1) := by decide +kernel
set_option maxRecDepth 100000 in
theorem lk_3069 : mj_lk ip_L_law 3069 = some (.invokevirtual 304, 3) := by decide +kernel
set_option maxRecDepth 100000 in
theorem lk_3072 : mj_lk ip_L_law 3072 = some (.aload_n 2, 1) := by decide +kernel
set_option maxRecDepth 100000 in
theorem lk_3073 : mj_lk ip_L_law 3073 = some (.invokevirtual 307, 3) := by decide +kernel
set_option maxRecDepth 100000 in
theorem lk_3076 : mj_lk ip_L_law 3076 = some (.if_icmp .eq 199, 3) := by decide +kernel
set_option maxRecDepth 100000 in
theorem lk_3079 : mj_lk ip_L_law 3079 = some (.iconst 0, 1) := by decide +kernel
set_option maxRecDepth 100000 in
theorem lk_3080 : mj_lk ip_L_law 3080 = some (.ireturn, 1) := by decide +kernel
set_option maxRecDepth 100000 in
theorem lk_3081 : mj_lk ip_L_law 3081 = some (.aload_n 1, 1) := by decide +kernel
set_option maxRecDepth 100000 in
theorem lk_3082 : mj_lk ip_L_law 3082 = some (.aload_n 0, 1) := by decide +kernel
set_option maxRecDepth 100000 in
theorem lk_3083 : mj_lk ip_L_law 3083 = some (.iload 4, 2) := by decide +kernel
set_option maxRecDepth 100000 in
theorem lk_3085 : mj_lk ip_L_law 3085 = some (.iconst 1, 1) := by decide +kernel
set_option maxRecDepth 100000 in
theorem lk_3086 : mj_lk ip_L_law 3086 = some (.iadd, 1) := by decide +kernel
set_option maxRecDepth 100000 in
theorem lk_3087 : mj_lk ip_L_law 3087 = some (.iaload, 1) := by decide +kernel
set_option maxRecDepth 100000 in
theorem lk_3088 : mj_lk ip_L_law 3088 = some (.aload_n 0, 1) := by decide +kernel
set_option maxRecDepth 100000 in
theorem lk_3089 : mj_lk ip_L_law 3089 = some (.iload 4, 2) := by decide +kernel
set_option maxRecDepth 100000 in
theorem lk_3091 : mj_lk ip_L_law 3091 = some (.iconst 2, 1) := by decide +kernel
set_option maxRecDepth 100000 in
theorem lk_3092 : mj_lk ip_L_law 3092 = some (.iadd, 1) := by decide +kernel
set_option maxRecDepth 100000 in
theorem lk_3093 : mj_lk ip_L_law 3093 = some (.iaload, 1) := by decide +kernel
set_option maxRecDepth 100000 in
theorem lk_3094 : mj_lk ip_L_law 3094 = some (.aload_n 0, 1) := by decide +kernel
set_option maxRecDepth 100000 in
theorem lk_3095 : mj_lk ip_L_law 3095 = some (.iload 4, 2) := by decide +kernel
set_option maxRecDepth 100000 in
theorem lk_3097 : mj_lk ip_L_law 3097 = some (.iconst 3, 1) := by decide +kernel
set_option maxRecDepth 100000 in
theorem lk_3098 : mj_lk ip_L_law 3098 = some (.iadd, 1) := by decide +kernel
set_option maxRecDepth 100000 in
theorem lk_3099 : mj_lk ip_L_law 3099 = some (.iaload, 1) := by decide +kernel
set_option maxRecDepth 100000 in
theorem lk_3100 : mj_lk ip_L_law 3100 = some (.aload_n 0, 1) := by decide +kernel
set_option maxRecDepth 100000 in
theorem lk_3101 : mj_lk ip_L_law 3101 = some (.iload 4, 2) := by decide +kernel
set_option maxRecDepth 100000 in
theorem lk_3103 : mj_lk ip_L_law 3103 = some (.iconst 4, 1) := by decide +kernel
set_option maxRecDepth 100000 in
theorem lk_3104 : mj_lk ip_L_law 3104 = some (.iadd, 1) := by decide +kernel
set_option maxRecDepth 100000 in
theorem lk_3105 : mj_lk ip_L_law 3105 = some (.iaload, 1) := by decide +kernel
set_option maxRecDepth 100000 in
theorem lk_3106 : mj_lk ip_L_law 3106 = some (.invokestatic 308, 3) := by decide +kernel
set_option maxRecDepth 100000 in
theorem lk_3109 : mj_lk ip_L_law 3109 = some (.istore 5, 2) := by decide +kernel
set_option maxRecDepth 100000 in
theorem lk_3111 : mj_lk ip_L_law 3111 = some (.aload_n 2, 1) := by decide +kernel
set_option maxRecDepth 100000 in
theorem lk_3112 : mj_lk ip_L_law 3112 = some (.aload_n 0, 1) := by decide +kernel
set_option maxRecDepth 100000 in
theorem lk_3113 : mj_lk ip_L_law 3113 = some (.iload 4, 2) := by decide +kernel
set_option maxRecDepth 100000 in
theorem lk_3115 : mj_lk ip_L_law 3115 = some (.iconst 1, 1) := by decide +kernel
set_option maxRecDepth 100000 in
theorem lk_3116 : mj_lk ip_L_law 3116 = some (.iadd, 1) := by decide +kernel
set_option maxRecDepth 100000 in
theorem lk_3117 : mj_lk ip_L_law 3117 = some (.iaload, 1) := by decide +kernel
set_option maxRecDepth 100000 in
theorem lk_3118 : mj_lk ip_L_law 3118 = some (.aload_n 0, 1) := by decide +kernel
set_option maxRecDepth 100000 in
theorem lk_3119 : mj_lk ip_L_law 3119 = some (.iload 4, 2) := by decide +kernel
set_option maxRecDepth 100000 in
theorem lk_3121 : mj_lk ip_L_law 3121 = some (.iconst 2, 1) := by decide +kernel
set_option maxRecDepth 100000 in
theorem lk_3122 : mj_lk ip_L_law 3122 = some (.iadd, 1) := by decide +kernel
set_option maxRecDepth 100000 in
theorem lk_3123 : mj_lk ip_L_law 3123 = some (.iaload, 1) := by decide +kernel
set_option maxRecDepth 100000 in
theorem lk_3124 : mj_lk ip_L_law 3124 = some (.aload_n 0, 1) := by decide +kernel
set_option maxRecDepth 100000 in
theorem lk_3125 : mj_lk ip_L_law 3125 = some (.iload 4, 2) := by decide +kernel
set_option maxRecDepth 100000 in
theorem lk_3127 : mj_lk ip_L_law 3127 = some (.iconst 3, 1) := by decide +kernel
set_option maxRecDepth 100000 in
theorem lk_3128 : mj_lk ip_L_law 3128 = some (.iadd, 1) := by decide +kernel
set_option maxRecDepth 100000 in
theorem lk_3129 : mj_lk ip_L_law 3129 = some (.iaload, 1) := by decide +kernel
set_option maxRecDepth 100000 in
theorem lk_3130 : mj_lk ip_L_law 3130 = some (.aload_n 0, 1) := by decide +kernel
set_option maxRecDepth 100000 in
theorem lk_3131 : mj_lk ip_L_law 3131 = some (.iload 4, 2) := by decide +kernel
set_option maxRecDepth 100000 in
theorem lk_3133 : mj_lk ip_L_law 3133 = some (.iconst 4, 1) := by decide +kernel
set_option maxRecDepth 100000 in
theorem lk_3134 : mj_lk ip_L_law 3134 = some (.iadd, 1) := by decide +kernel
set_option maxRecDepth 100000 in
theorem lk_3135 : mj_lk ip_L_law 3135 = some (.iaload, 1) := by decide +kernel
set_option maxRecDepth 100000 in
theorem lk_3136 : mj_lk ip_L_law 3136 = some (.invokevirtual 310, 3) := by decide +kernel
set_option maxRecDepth 100000 in
theorem lk_3139 : mj_lk ip_L_law 3139 = some (.aload_n 2, 1) := by decide +kernel
set_option maxRecDepth 100000 in
theorem lk_3140 : mj_lk ip_L_law 3140 = some (.invokevirtual 169, 3) := by decide +kernel
set_option maxRecDepth 100000 in
theorem lk_3143 : mj_lk ip_L_law 3143 = some (.iload 5, 2) := by decide +kernel
set_option maxRecDepth 100000 in
theorem lk_3145 : mj_lk ip_L_law 3145 = some (.if_icmp .eq 5, 3) := by decide +kernel
set_option maxRecDepth 100000 in
theorem lk_3148 : mj_lk ip_L_law 3148 = some (.iconst 0, 1) := by decide +kernel
set_option maxRecDepth 100000 in
theorem lk_3149 : mj_lk ip_L_law 3149 = some (.ireturn, 1) := by decide +kernel
set_option maxRecDepth 100000 in
theorem lk_3150 : mj_lk ip_L_law 3150 = some (.goto 125, 3) := by decide +kernel
set_option maxRecDepth 100000 in
theorem lk_3153 : mj_lk ip_L_law 3153 = some (.aload_n 1, 1) := by decide +kernel
set_option maxRecDepth 100000 in
theorem lk_3154 : mj_lk ip_L_law 3154 = some (.aload_n 0, 1) := by decide +kernel
set_option maxRecDepth 100000 in
theorem lk_3155 : mj_lk ip_L_law 3155 = some (.iload 4, 2) := by decide +kernel
set_option maxRecDepth 100000 in
theorem lk_3157 : mj_lk ip_L_law 3157 = some (.iconst 1, 1) := by decide +kernel
set_option maxRecDepth 100000 in
theorem lk_3158 : mj_lk ip_L_law 3158 = some (.iadd, 1) := by decide +kernel
set_option maxRecDepth 100000 in
theorem lk_3159 : mj_lk ip_L_law 3159 = some (.iaload, 1) := by decide +kernel
set_option maxRecDepth 100000 in
theorem lk_3160 : mj_lk ip_L_law 3160 = some (.aload_n 0, 1) := by decide +kernel
set_option maxRecDepth 100000 in
theorem lk_3161 : mj_lk ip_L_law 3161 = some (.iload 4, 2) := by decide +kernel
set_option maxRecDepth 100000 in
theorem lk_3163 : mj_lk ip_L_law 3163 = some (.iconst 2, 1) := by decide +kernel
set_option maxRecDepth 100000 in
theorem lk_3164 : mj_lk ip_L_law 3164 = some (.iadd, 1) := by decide +kernel
set_option maxRecDepth 100000 in
theorem lk_3165 : mj_lk ip_L_law 3165 = some (.iaload, 1) := by decide +kernel
set_option maxRecDepth 100000 in
theorem lk_3166 : mj_lk ip_L_law 3166 = some (.aload_n 3, 1) := by decide +kernel
set_option maxRecDepth 100000 in
theorem lk_3167 : mj_lk ip_L_law 3167 = some (.invokestatic 311, 3) := by decide +kernel
set_option maxRecDepth 100000 in
theorem lk_3170 : mj_lk ip_L_law 3170 = some (.istore 5, 2) := by decide +kernel
set_option maxRecDepth 100000 in
theorem lk_3172 : mj_lk ip_L_law 3172 = some (.aload_n 2, 1) := by decide +kernel
set_option maxRecDepth 100000 in
theorem lk_3173 : mj_lk ip_L_law 3173 = some (.aload_n 0, 1) := by decide +kernel
set_option maxRecDepth 100000 in
theorem lk_3174 : mj_lk ip_L_law 3174 = some (.iload 4, 2) := by decide +kernel
set_option maxRecDepth 100000 in
theorem lk_3176 : mj_lk ip_L_law 3176 = some (.iconst 1, 1) := by decide +kernel
set_option maxRecDepth 100000 in
theorem lk_3177 : mj_lk ip_L_law 3177 = some (.iadd, 1) := by decide +kernel
set_option maxRecDepth 100000 in
theorem lk_3178 : mj_lk ip_L_law 3178 = some (.iaload, 1) := by decide +kernel
set_option maxRecDepth 100000 in
theorem lk_3179 : mj_lk ip_L_law 3179 = some (.aload_n 0, 1) := by decide +kernel
set_option maxRecDepth 100000 in
theorem lk_3180 : mj_lk ip_L_law 3180 = some (.iload 4, 2) := by decide +kernel
set_option maxRecDepth 100000 in
theorem lk_3182 : mj_lk ip_L_law 3182 = some (.iconst 2, 1) := by decide +kernel
set_option maxRecDepth 100000 in
theorem lk_3183 : mj_lk ip_L_law 3183 = some (.iadd, 1) := by decide +kernel
set_option maxRecDepth 100000 in
theorem lk_3184 : mj_lk ip_L_law 3184 = some (.iaload, 1) := by decide +kernel
set_option maxRecDepth 100000 in
theorem lk_3185 : mj_lk ip_L_law 3185 = some (.invokevirtual 313, 3) := by decide +kernel
set_option maxRecDepth 100000 in
theorem lk_3188 : mj_lk ip_L_law 3188 = some (.lstore 6, 2) := by decide +kernel
set_option maxRecDepth 100000 in
theorem lk_3190 : mj_lk ip_L_law 3190 = some (.aload_n 2, 1) := by decide +kernel
set_option maxRecDepth 100000 in
theorem lk_3191 : mj_lk ip_L_law 3191 = some (.invokevirtual 169, 3) := by decide +kernel
set_option maxRecDepth 100000 in
theorem lk_3194 : mj_lk ip_L_law 3194 = some (.iload 5, 2) := by decide +kernel
set_option maxRecDepth 100000 in
theorem lk_3196 : mj_lk ip_L_law 3196 = some (.if_icmp .eq 5, 3) := by decide +kernel
set_option maxRecDepth 100000 in
theorem lk_3199 : mj_lk ip_L_law 3199 = some (.iconst 0, 1) := by decide +kernel
set_option maxRecDepth 100000 in
theorem lk_3200 : mj_lk ip_L_law 3200 = some (.ireturn, 1) := by decide +kernel
set_option maxRecDepth 100000 in
theorem lk_3201 : mj_lk ip_L_law 3201 = some (.iload 5, 2) := by decide +kernel
set_option maxRecDepth 100000 in
theorem lk_3203 : mj_lk ip_L_law 3203 = some (.ifCond .ne 14, 3) := by decide +kernel
set_option maxRecDepth 100000 in
theorem lk_3206 : mj_lk ip_L_law 3206 = some (.aload_n 3, 1) := by decide +kernel
set_option maxRecDepth 100000 in
theorem lk_3207 : mj_lk ip_L_law 3207 = some (.iconst 0, 1) := by decide +kernel
set_option maxRecDepth 100000 in
theorem lk_3208 : mj_lk ip_L_law 3208 = some (.laload, 1) := by decide +kernel
set_option maxRecDepth 100000 in
theorem lk_3209 : mj_lk ip_L_law 3209 = some (.lload 6, 2) := by decide +kernel
set_option maxRecDepth 100000 in
theorem lk_3211 : mj_lk ip_L_law 3211 = some (.lcmp, 1) := by decide +kernel
set_option maxRecDepth 100000 in
theorem lk_3212 : mj_lk ip_L_law 3212 = some (.ifCond .eq 5, 3) := by decide +kernel
set_option maxRecDepth 100000 in
theorem lk_3215 : mj_lk ip_L_law 3215 = some (.iconst 0, 1) := by decide +kernel
set_option maxRecDepth 100000 in
theorem lk_3216 : mj_lk ip_L_law 3216 = some (.ireturn, 1) := by decide +kernel
set_option maxRecDepth 100000 in
theorem lk_3217 : mj_lk ip_L_law 3217 = some (.goto 58, 3) := by decide +kernel
set_option maxRecDepth 100000 in
theorem lk_3220 : mj_lk ip_L_law 3220 = some (.aload_n 1, 1) := by decide +kernel
set_option maxRecDepth 100000 in
theorem lk_3221 : mj_lk ip_L_law 3221 = some (.aload_n 0, 1) := by decide +kernel
set_option maxRecDepth 100000 in
theorem lk_3222 : mj_lk ip_L_law 3222 = some (.iload 4, 2) := by decide +kernel
set_option maxRecDepth 100000 in
theorem lk_3224 : mj_lk ip_L_law 3224 = some (.iconst 1, 1) := by decide +kernel
set_option maxRecDepth 100000 in
theorem lk_3225 : mj_lk ip_L_law 3225 = some (.iadd, 1) := by decide +kernel
set_option maxRecDepth 100000 in
theorem lk_3226 : mj_lk ip_L_law 3226 = some (.iaload, 1) := by decide +kernel
set_option maxRecDepth 100000 in
theorem lk_3227 : mj_lk ip_L_law 3227 = some (.aload_n 3, 1) := by decide +kernel
set_option maxRecDepth 100000 in
theorem lk_3228 : mj_lk ip_L_law 3228 = some (.invokestatic 314, 3) := by decide +kernel
set_option maxRecDepth 100000 in
theorem lk_3231 : mj_lk ip_L_law 3231 = some (.istore 5, 2) := by decide +kernel
set_option maxRecDepth 100000 in
theorem lk_3233 : mj_lk ip_L_law 3233 = some (.aload_n 2, 1) := by decide +kernel
set_option maxRecDepth 100000 in
theorem lk_3234 : mj_lk ip_L_law 3234 = some (.aload_n 0, 1) := by decide +kernel
set_option maxRecDepth 100000 in
theorem lk_3235 : mj_lk ip_L_law 3235 = some (.iload 4, 2) := by decide +kernel
set_option maxRecDepth 100000 in
theorem lk_3237 : mj_lk ip_L_law 3237 = some (.iconst 1, 1) := by decide +kernel
set_option maxRecDepth 100000 in
theorem lk_3238 : mj_lk ip_L_law 3238 = some (.iadd, 1) := by decide +kernel
set_option maxRecDepth 100000 in
theorem lk_3239 : mj_lk ip_L_law 3239 = some (.iaload, 1) := by decide +kernel
set_option maxRecDepth 100000 in
theorem lk_3240 : mj_lk ip_L_law 3240 = some (.invokevirtual 316, 3) := by decide +kernel
set_option maxRecDepth 100000 in
theorem lk_3243 : mj_lk ip_L_law 3243 = some (.lstore 6, 2) := by decide +kernel
set_option maxRecDepth 100000 in
theorem lk_3245 : mj_lk ip_L_law 3245 = some (.aload_n 2, 1) := by decide +kernel
set_option maxRecDepth 100000 in
theorem lk_3246 : mj_lk ip_L_law 3246 = some (.invokevirtual 169, 3) := by decide +kernel
set_option maxRecDepth 100000 in
theorem lk_3249 : mj_lk ip_L_law 3249 = some (.iload 5, 2) := by decide +kernel
set_option maxRecDepth 100000 in
theorem lk_3251 : mj_lk ip_L_law 3251 = some (.if_icmp .eq 5, 3) := by decide +kernel
set_option maxRecDepth 100000 in
theorem lk_3254 : mj_lk ip_L_law 3254 = some (.iconst 0, 1) := by decide +kernel
set_option maxRecDepth 100000 in
theorem lk_3255 : mj_lk ip_L_law 3255 = some (.ireturn, 1) := by decide +kernel
set_option maxRecDepth 100000 in
theorem lk_3256 : mj_lk ip_L_law 3256 = some (.iload 5, 2) := by decide +kernel
set_option maxRecDepth 100000 in
theorem lk_3258 : mj_lk ip_L_law 3258 = some (.ifCond .ne 14, 3) := by decide +kernel
set_option maxRecDepth 100000 in
theorem lk_3261 : mj_lk ip_L_law 3261 = some (.aload_n 3, 1) := by decide +kernel
set_option maxRecDepth 100000 in
theorem lk_3262 : mj_lk ip_L_law 3262 = some (.iconst 0, 1) := by decide +kernel
set_option maxRecDepth 100000 in
theorem lk_3263 : mj_lk ip_L_law 3263 = some (.laload, 1) := by decide +kernel
set_option maxRecDepth 100000 in
theorem lk_3264 : mj_lk ip_L_law 3264 = some (.lload 6, 2) := by decide +kernel
set_option maxRecDepth 100000 in
theorem lk_3266 : mj_lk ip_L_law 3266 = some (.lcmp, 1) := by decide +kernel
set_option maxRecDepth 100000 in
theorem lk_3267 : mj_lk ip_L_law 3267 = some (.ifCond .eq 5, 3) := by decide +kernel
set_option maxRecDepth 100000 in
theorem lk_3270 : mj_lk ip_L_law 3270 = some (.iconst 0, 1) := by decide +kernel
set_option maxRecDepth 100000 in
theorem lk_3271 : mj_lk ip_L_law 3271 = some (.ireturn, 1) := by decide +kernel
set_option maxRecDepth 100000 in
theorem lk_3272 : mj_lk ip_L_law 3272 = some (.goto 3, 3) := by decide +kernel
set_option maxRecDepth 100000 in
theorem lk_3275 : mj_lk ip_L_law 3275 = some (.iinc 4 7, 3) := by decide +kernel
set_option maxRecDepth 100000 in
theorem lk_3278 : mj_lk ip_L_law 3278 = some (.goto (-3255), 3) := by decide +kernel
set_option maxRecDepth 100000 in
theorem lk_3281 : mj_lk ip_L_law 3281 = some (.iconst 1, 1) := by decide +kernel
set_option maxRecDepth 100000 in
theorem lk_3282 : mj_lk ip_L_law 3282 = some (.ireturn, 1) := by decide +kernel
