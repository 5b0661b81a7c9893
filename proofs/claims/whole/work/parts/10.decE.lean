theorem d_L_led_0 : decode (cd mL_led) 0 = .ok (.aload_n 2, 1) := by decide +kernel
theorem d_L_led_1 : decode (cd mL_led) 1 = .ok (.iconst 0, 1) := by decide +kernel
theorem d_L_led_2 : decode (cd mL_led) 2 = .ok (.aload_n 0, 1) := by decide +kernel
theorem d_L_led_3 : decode (cd mL_led) 3 = .ok (.iload_n 1, 1) := by decide +kernel
theorem d_L_led_4 : decode (cd mL_led) 4 = .ok (.invokevirtual 7, 3) := by decide +kernel
theorem d_L_led_7 : decode (cd mL_led) 7 = .ok (.i2l, 1) := by decide +kernel
theorem d_L_led_8 : decode (cd mL_led) 8 = .ok (.lastore, 1) := by decide +kernel
theorem d_L_led_9 : decode (cd mL_led) 9 = .ok (.goto 6, 3) := by decide +kernel
theorem d_L_led_12 : decode (cd mL_led) 12 = .ok (.astore_n 3, 1) := by decide +kernel
theorem d_L_led_13 : decode (cd mL_led) 13 = .ok (.iconst 1, 1) := by decide +kernel
theorem d_L_led_14 : decode (cd mL_led) 14 = .ok (.ireturn, 1) := by decide +kernel
theorem d_L_led_15 : decode (cd mL_led) 15 = .ok (.iconst 0, 1) := by decide +kernel
theorem d_L_led_16 : decode (cd mL_led) 16 = .ok (.ireturn, 1) := by decide +kernel
theorem d_L_law_0 : decode (cd mL_law) 0 = .ok (.new 8, 3) := by decide +kernel
theorem d_L_law_3 : decode (cd mL_law) 3 = .ok (.dup, 1) := by decide +kernel
theorem d_L_law_4 : decode (cd mL_law) 4 = .ok (.invokespecial 15, 3) := by decide +kernel
theorem d_L_law_7 : decode (cd mL_law) 7 = .ok (.astore_n 1, 1) := by decide +kernel
theorem d_L_law_8 : decode (cd mL_law) 8 = .ok (.new 16, 3) := by decide +kernel
theorem d_L_law_11 : decode (cd mL_law) 11 = .ok (.dup, 1) := by decide +kernel
theorem d_L_law_12 : decode (cd mL_law) 12 = .ok (.invokespecial 18, 3) := by decide +kernel
theorem d_L_law_15 : decode (cd mL_law) 15 = .ok (.astore_n 2, 1) := by decide +kernel
theorem d_L_law_16 : decode (cd mL_law) 16 = .ok (.iconst 1, 1) := by decide +kernel
theorem d_L_law_17 : decode (cd mL_law) 17 = .ok (.newarray .long, 2) := by decide +kernel
theorem d_L_law_19 : decode (cd mL_law) 19 = .ok (.astore_n 3, 1) := by decide +kernel
theorem d_L_law_20 : decode (cd mL_law) 20 = .ok (.iconst 0, 1) := by decide +kernel
theorem d_L_law_21 : decode (cd mL_law) 21 = .ok (.istore 4, 2) := by decide +kernel
theorem d_L_law_23 : decode (cd mL_law) 23 = .ok (.iload 4, 2) := by decide +kernel
theorem d_L_law_25 : decode (cd mL_law) 25 = .ok (.aload_n 0, 1) := by decide +kernel
theorem d_L_law_26 : decode (cd mL_law) 26 = .ok (.arraylength, 1) := by decide +kernel
theorem d_L_law_27 : decode (cd mL_law) 27 = .ok (.bipush 6, 2) := by decide +kernel
theorem d_L_law_29 : decode (cd mL_law) 29 = .ok (.isub, 1) := by decide +kernel
theorem d_L_law_30 : decode (cd mL_law) 30 = .ok (.if_icmp .gt 1538, 3) := by decide +kernel
theorem d_L_law_33 : decode (cd mL_law) 33 = .ok (.aload_n 0, 1) := by decide +kernel
theorem d_L_law_34 : decode (cd mL_law) 34 = .ok (.iload 4, 2) := by decide +kernel
theorem d_L_law_36 : decode (cd mL_law) 36 = .ok (.iaload, 1) := by decide +kernel
theorem d_L_law_37 : decode (cd mL_law) 37 = .ok (.bipush 63, 2) := by decide +kernel
theorem d_L_law_39 : decode (cd mL_law) 39 = .ok (.iand, 1) := by decide +kernel
theorem d_L_law_40 : decode (cd mL_law) 40 = .ok (.tableswitch 1522 0 48 #[212, 285, 310, 323, 336, 361, 398, 435, 460, 473, 498, 523, 548, 585, 610, 623, 648, 685, 710, 735, 760, 785, 822, 835, 860, 901, 942, 955, 968, 981, 1006, 1031, 1044, 1057, 1094, 1107, 1132, 1198, 1252, 1289, 1326, 1351, 1364, 1377, 1390, 1403, 1428, 1484, 1509], 212) := by decide +kernel
theorem d_L_law_252 : decode (cd mL_law) 252 = .ok (.aload_n 1, 1) := by decide +kernel
theorem d_L_law_253 : decode (cd mL_law) 253 = .ok (.aload_n 0, 1) := by decide +kernel
theorem d_L_law_254 : decode (cd mL_law) 254 = .ok (.iload 4, 2) := by decide +kernel
theorem d_L_law_256 : decode (cd mL_law) 256 = .ok (.iconst 1, 1) := by decide +kernel
theorem d_L_law_257 : decode (cd mL_law) 257 = .ok (.iadd, 1) := by decide +kernel
theorem d_L_law_258 : decode (cd mL_law) 258 = .ok (.iaload, 1) := by decide +kernel
theorem d_L_law_259 : decode (cd mL_law) 259 = .ok (.aload_n 0, 1) := by decide +kernel
theorem d_L_law_260 : decode (cd mL_law) 260 = .ok (.iload 4, 2) := by decide +kernel
theorem d_L_law_262 : decode (cd mL_law) 262 = .ok (.iconst 2, 1) := by decide +kernel
theorem d_L_law_263 : decode (cd mL_law) 263 = .ok (.iadd, 1) := by decide +kernel
theorem d_L_law_264 : decode (cd mL_law) 264 = .ok (.iaload, 1) := by decide +kernel
theorem d_L_law_265 : decode (cd mL_law) 265 = .ok (.aload_n 0, 1) := by decide +kernel
theorem d_L_law_266 : decode (cd mL_law) 266 = .ok (.iload 4, 2) := by decide +kernel
theorem d_L_law_268 : decode (cd mL_law) 268 = .ok (.iconst 3, 1) := by decide +kernel
theorem d_L_law_269 : decode (cd mL_law) 269 = .ok (.iadd, 1) := by decide +kernel
theorem d_L_law_270 : decode (cd mL_law) 270 = .ok (.iaload, 1) := by decide +kernel
theorem d_L_law_271 : decode (cd mL_law) 271 = .ok (.aload_n 0, 1) := by decide +kernel
theorem d_L_law_272 : decode (cd mL_law) 272 = .ok (.iload 4, 2) := by decide +kernel
theorem d_L_law_274 : decode (cd mL_law) 274 = .ok (.iconst 4, 1) := by decide +kernel
theorem d_L_law_275 : decode (cd mL_law) 275 = .ok (.iadd, 1) := by decide +kernel
theorem d_L_law_276 : decode (cd mL_law) 276 = .ok (.iaload, 1) := by decide +kernel
theorem d_L_law_277 : decode (cd mL_law) 277 = .ok (.aload_n 0, 1) := by decide +kernel
theorem d_L_law_278 : decode (cd mL_law) 278 = .ok (.iload 4, 2) := by decide +kernel
theorem d_L_law_280 : decode (cd mL_law) 280 = .ok (.iconst 5, 1) := by decide +kernel
theorem d_L_law_281 : decode (cd mL_law) 281 = .ok (.iadd, 1) := by decide +kernel
theorem d_L_law_282 : decode (cd mL_law) 282 = .ok (.iaload, 1) := by decide +kernel
theorem d_L_law_283 : decode (cd mL_law) 283 = .ok (.invokevirtual 19, 3) := by decide +kernel
theorem d_L_law_286 : decode (cd mL_law) 286 = .ok (.aload_n 2, 1) := by decide +kernel
theorem d_L_law_287 : decode (cd mL_law) 287 = .ok (.aload_n 0, 1) := by decide +kernel
theorem d_L_law_288 : decode (cd mL_law) 288 = .ok (.iload 4, 2) := by decide +kernel
theorem d_L_law_290 : decode (cd mL_law) 290 = .ok (.iconst 1, 1) := by decide +kernel
theorem d_L_law_291 : decode (cd mL_law) 291 = .ok (.iadd, 1) := by decide +kernel
theorem d_L_law_292 : decode (cd mL_law) 292 = .ok (.iaload, 1) := by decide +kernel
theorem d_L_law_293 : decode (cd mL_law) 293 = .ok (.aload_n 0, 1) := by decide +kernel
theorem d_L_law_294 : decode (cd mL_law) 294 = .ok (.iload 4, 2) := by decide +kernel
theorem d_L_law_296 : decode (cd mL_law) 296 = .ok (.iconst 2, 1) := by decide +kernel
theorem d_L_law_297 : decode (cd mL_law) 297 = .ok (.iadd, 1) := by decide +kernel
theorem d_L_law_298 : decode (cd mL_law) 298 = .ok (.iaload, 1) := by decide +kernel
theorem d_L_law_299 : decode (cd mL_law) 299 = .ok (.aload_n 0, 1) := by decide +kernel
theorem d_L_law_300 : decode (cd mL_law) 300 = .ok (.iload 4, 2) := by decide +kernel
theorem d_L_law_302 : decode (cd mL_law) 302 = .ok (.iconst 3, 1) := by decide +kernel
theorem d_L_law_303 : decode (cd mL_law) 303 = .ok (.iadd, 1) := by decide +kernel
theorem d_L_law_304 : decode (cd mL_law) 304 = .ok (.iaload, 1) := by decide +kernel
theorem d_L_law_305 : decode (cd mL_law) 305 = .ok (.aload_n 0, 1) := by decide +kernel
theorem d_L_law_306 : decode (cd mL_law) 306 = .ok (.iload 4, 2) := by decide +kernel
theorem d_L_law_308 : decode (cd mL_law) 308 = .ok (.iconst 4, 1) := by decide +kernel
theorem d_L_law_309 : decode (cd mL_law) 309 = .ok (.iadd, 1) := by decide +kernel
theorem d_L_law_310 : decode (cd mL_law) 310 = .ok (.iaload, 1) := by decide +kernel
theorem d_L_law_311 : decode (cd mL_law) 311 = .ok (.aload_n 0, 1) := by decide +kernel
theorem d_L_law_312 : decode (cd mL_law) 312 = .ok (.iload 4, 2) := by decide +kernel
theorem d_L_law_314 : decode (cd mL_law) 314 = .ok (.iconst 5, 1) := by decide +kernel
theorem d_L_law_315 : decode (cd mL_law) 315 = .ok (.iadd, 1) := by decide +kernel
theorem d_L_law_316 : decode (cd mL_law) 316 = .ok (.iaload, 1) := by decide +kernel
theorem d_L_law_317 : decode (cd mL_law) 317 = .ok (.invokevirtual 23, 3) := by decide +kernel
theorem d_L_law_320 : decode (cd mL_law) 320 = .ok (.if_icmp .eq 1242, 3) := by decide +kernel
theorem d_L_law_323 : decode (cd mL_law) 323 = .ok (.iconst 0, 1) := by decide +kernel
theorem d_L_law_324 : decode (cd mL_law) 324 = .ok (.ireturn, 1) := by decide +kernel
theorem d_L_law_325 : decode (cd mL_law) 325 = .ok (.aload_n 1, 1) := by decide +kernel
theorem d_L_law_326 : decode (cd mL_law) 326 = .ok (.aload_n 0, 1) := by decide +kernel
theorem d_L_law_327 : decode (cd mL_law) 327 = .ok (.iload 4, 2) := by decide +kernel
theorem d_L_law_329 : decode (cd mL_law) 329 = .ok (.iconst 1, 1) := by decide +kernel
theorem d_L_law_330 : decode (cd mL_law) 330 = .ok (.iadd, 1) := by decide +kernel
theorem d_L_law_331 : decode (cd mL_law) 331 = .ok (.iaload, 1) := by decide +kernel
theorem d_L_law_332 : decode (cd mL_law) 332 = .ok (.invokevirtual 24, 3) := by decide +kernel
theorem d_L_law_335 : decode (cd mL_law) 335 = .ok (.aload_n 2, 1) := by decide +kernel
theorem d_L_law_336 : decode (cd mL_law) 336 = .ok (.aload_n 0, 1) := by decide +kernel
theorem d_L_law_337 : decode (cd mL_law) 337 = .ok (.iload 4, 2) := by decide +kernel
theorem d_L_law_339 : decode (cd mL_law) 339 = .ok (.iconst 1, 1) := by decide +kernel
theorem d_L_law_340 : decode (cd mL_law) 340 = .ok (.iadd, 1) := by decide +kernel
theorem d_L_law_341 : decode (cd mL_law) 341 = .ok (.iaload, 1) := by decide +kernel
theorem d_L_law_342 : decode (cd mL_law) 342 = .ok (.invokevirtual 27, 3) := by decide +kernel
theorem d_L_law_345 : decode (cd mL_law) 345 = .ok (.if_icmp .eq 1217, 3) := by decide +kernel
theorem d_L_law_348 : decode (cd mL_law) 348 = .ok (.iconst 0, 1) := by decide +kernel
theorem d_L_law_349 : decode (cd mL_law) 349 = .ok (.ireturn, 1) := by decide +kernel
theorem d_L_law_350 : decode (cd mL_law) 350 = .ok (.aload_n 1, 1) := by decide +kernel
theorem d_L_law_351 : decode (cd mL_law) 351 = .ok (.invokevirtual 28, 3) := by decide +kernel
theorem d_L_law_354 : decode (cd mL_law) 354 = .ok (.aload_n 2, 1) := by decide +kernel
theorem d_L_law_355 : decode (cd mL_law) 355 = .ok (.invokevirtual 32, 3) := by decide +kernel
theorem d_L_law_358 : decode (cd mL_law) 358 = .ok (.if_icmp .eq 1204, 3) := by decide +kernel
theorem d_L_law_361 : decode (cd mL_law) 361 = .ok (.iconst 0, 1) := by decide +kernel
theorem d_L_law_362 : decode (cd mL_law) 362 = .ok (.ireturn, 1) := by decide +kernel
theorem d_L_law_363 : decode (cd mL_law) 363 = .ok (.aload_n 1, 1) := by decide +kernel
theorem d_L_law_364 : decode (cd mL_law) 364 = .ok (.invokevirtual 33, 3) := by decide +kernel
theorem d_L_law_367 : decode (cd mL_law) 367 = .ok (.aload_n 2, 1) := by decide +kernel
theorem d_L_law_368 : decode (cd mL_law) 368 = .ok (.invokevirtual 36, 3) := by decide +kernel
theorem d_L_law_371 : decode (cd mL_law) 371 = .ok (.if_icmp .eq 1191, 3) := by decide +kernel
theorem d_L_law_374 : decode (cd mL_law) 374 = .ok (.iconst 0, 1) := by decide +kernel
theorem d_L_law_375 : decode (cd mL_law) 375 = .ok (.ireturn, 1) := by decide +kernel
theorem d_L_law_376 : decode (cd mL_law) 376 = .ok (.aload_n 1, 1) := by decide +kernel
theorem d_L_law_377 : decode (cd mL_law) 377 = .ok (.aload_n 0, 1) := by decide +kernel
theorem d_L_law_378 : decode (cd mL_law) 378 = .ok (.iload 4, 2) := by decide +kernel
theorem d_L_law_380 : decode (cd mL_law) 380 = .ok (.iconst 1, 1) := by decide +kernel
theorem d_L_law_381 : decode (cd mL_law) 381 = .ok (.iadd, 1) := by decide +kernel
theorem d_L_law_382 : decode (cd mL_law) 382 = .ok (.iaload, 1) := by decide +kernel
theorem d_L_law_383 : decode (cd mL_law) 383 = .ok (.invokevirtual 37, 3) := by decide +kernel
theorem d_L_law_386 : decode (cd mL_law) 386 = .ok (.aload_n 2, 1) := by decide +kernel
theorem d_L_law_387 : decode (cd mL_law) 387 = .ok (.aload_n 0, 1) := by decide +kernel
theorem d_L_law_388 : decode (cd mL_law) 388 = .ok (.iload 4, 2) := by decide +kernel
theorem d_L_law_390 : decode (cd mL_law) 390 = .ok (.iconst 1, 1) := by decide +kernel
theorem d_L_law_391 : decode (cd mL_law) 391 = .ok (.iadd, 1) := by decide +kernel
theorem d_L_law_392 : decode (cd mL_law) 392 = .ok (.iaload, 1) := by decide +kernel
theorem d_L_law_393 : decode (cd mL_law) 393 = .ok (.invokevirtual 40, 3) := by decide +kernel
theorem d_L_law_396 : decode (cd mL_law) 396 = .ok (.if_icmp .eq 1166, 3) := by decide +kernel
theorem d_L_law_399 : decode (cd mL_law) 399 = .ok (.iconst 0, 1) := by decide +kernel
theorem d_L_law_400 : decode (cd mL_law) 400 = .ok (.ireturn, 1) := by decide +kernel
theorem d_L_law_401 : decode (cd mL_law) 401 = .ok (.aload_n 1, 1) := by decide +kernel
theorem d_L_law_402 : decode (cd mL_law) 402 = .ok (.aload_n 0, 1) := by decide +kernel
theorem d_L_law_403 : decode (cd mL_law) 403 = .ok (.iload 4, 2) := by decide +kernel
theorem d_L_law_405 : decode (cd mL_law) 405 = .ok (.iconst 1, 1) := by decide +kernel
theorem d_L_law_406 : decode (cd mL_law) 406 = .ok (.iadd, 1) := by decide +kernel
theorem d_L_law_407 : decode (cd mL_law) 407 = .ok (.iaload, 1) := by decide +kernel
theorem d_L_law_408 : decode (cd mL_law) 408 = .ok (.aload_n 0, 1) := by decide +kernel
theorem d_L_law_409 : decode (cd mL_law) 409 = .ok (.iload 4, 2) := by decide +kernel
theorem d_L_law_411 : decode (cd mL_law) 411 = .ok (.iconst 2, 1) := by decide +kernel
theorem d_L_law_412 : decode (cd mL_law) 412 = .ok (.iadd, 1) := by decide +kernel
theorem d_L_law_413 : decode (cd mL_law) 413 = .ok (.iaload, 1) := by decide +kernel
theorem d_L_law_414 : decode (cd mL_law) 414 = .ok (.invokevirtual 41, 3) := by decide +kernel
theorem d_L_law_417 : decode (cd mL_law) 417 = .ok (.aload_n 2, 1) := by decide +kernel
theorem d_L_law_418 : decode (cd mL_law) 418 = .ok (.aload_n 0, 1) := by decide +kernel
theorem d_L_law_419 : decode (cd mL_law) 419 = .ok (.iload 4, 2) := by decide +kernel
theorem d_L_law_421 : decode (cd mL_law) 421 = .ok (.iconst 1, 1) := by decide +kernel
theorem d_L_law_422 : decode (cd mL_law) 422 = .ok (.iadd, 1) := by decide +kernel
theorem d_L_law_423 : decode (cd mL_law) 423 = .ok (.iaload, 1) := by decide +kernel
theorem d_L_law_424 : decode (cd mL_law) 424 = .ok (.aload_n 0, 1) := by decide +kernel
theorem d_L_law_425 : decode (cd mL_law) 425 = .ok (.iload 4, 2) := by decide +kernel
theorem d_L_law_427 : decode (cd mL_law) 427 = .ok (.iconst 2, 1) := by decide +kernel
theorem d_L_law_428 : decode (cd mL_law) 428 = .ok (.iadd, 1) := by decide +kernel
theorem d_L_law_429 : decode (cd mL_law) 429 = .ok (.iaload, 1) := by decide +kernel
theorem d_L_law_430 : decode (cd mL_law) 430 = .ok (.invokevirtual 45, 3) := by decide +kernel
theorem d_L_law_433 : decode (cd mL_law) 433 = .ok (.if_icmp .eq 1129, 3) := by decide +kernel
theorem d_L_law_436 : decode (cd mL_law) 436 = .ok (.iconst 0, 1) := by decide +kernel
theorem d_L_law_437 : decode (cd mL_law) 437 = .ok (.ireturn, 1) := by decide +kernel
theorem d_L_law_438 : decode (cd mL_law) 438 = .ok (.aload_n 1, 1) := by decide +kernel
theorem d_L_law_439 : decode (cd mL_law) 439 = .ok (.aload_n 0, 1) := by decide +kernel
theorem d_L_law_440 : decode (cd mL_law) 440 = .ok (.iload 4, 2) := by decide +kernel
theorem d_L_law_442 : decode (cd mL_law) 442 = .ok (.iconst 1, 1) := by decide +kernel
theorem d_L_law_443 : decode (cd mL_law) 443 = .ok (.iadd, 1) := by decide +kernel
theorem d_L_law_444 : decode (cd mL_law) 444 = .ok (.iaload, 1) := by decide +kernel
theorem d_L_law_445 : decode (cd mL_law) 445 = .ok (.aload_n 0, 1) := by decide +kernel
theorem d_L_law_446 : decode (cd mL_law) 446 = .ok (.iload 4, 2) := by decide +kernel
theorem d_L_law_448 : decode (cd mL_law) 448 = .ok (.iconst 2, 1) := by decide +kernel
theorem d_L_law_449 : decode (cd mL_law) 449 = .ok (.iadd, 1) := by decide +kernel
theorem d_L_law_450 : decode (cd mL_law) 450 = .ok (.iaload, 1) := by decide +kernel
theorem d_L_law_451 : decode (cd mL_law) 451 = .ok (.invokevirtual 46, 3) := by decide +kernel
theorem d_L_law_454 : decode (cd mL_law) 454 = .ok (.aload_n 2, 1) := by decide +kernel
theorem d_L_law_455 : decode (cd mL_law) 455 = .ok (.aload_n 0, 1) := by decide +kernel
theorem d_L_law_456 : decode (cd mL_law) 456 = .ok (.iload 4, 2) := by decide +kernel
theorem d_L_law_458 : decode (cd mL_law) 458 = .ok (.iconst 1, 1) := by decide +kernel
theorem d_L_law_459 : decode (cd mL_law) 459 = .ok (.iadd, 1) := by decide +kernel
theorem d_L_law_460 : decode (cd mL_law) 460 = .ok (.iaload, 1) := by decide +kernel
theorem d_L_law_461 : decode (cd mL_law) 461 = .ok (.aload_n 0, 1) := by decide +kernel
theorem d_L_law_462 : decode (cd mL_law) 462 = .ok (.iload 4, 2) := by decide +kernel
theorem d_L_law_464 : decode (cd mL_law) 464 = .ok (.iconst 2, 1) := by decide +kernel
theorem d_L_law_465 : decode (cd mL_law) 465 = .ok (.iadd, 1) := by decide +kernel
theorem d_L_law_466 : decode (cd mL_law) 466 = .ok (.iaload, 1) := by decide +kernel
theorem d_L_law_467 : decode (cd mL_law) 467 = .ok (.invokevirtual 49, 3) := by decide +kernel
theorem d_L_law_470 : decode (cd mL_law) 470 = .ok (.if_icmp .eq 1092, 3) := by decide +kernel
theorem d_L_law_473 : decode (cd mL_law) 473 = .ok (.iconst 0, 1) := by decide +kernel
theorem d_L_law_474 : decode (cd mL_law) 474 = .ok (.ireturn, 1) := by decide +kernel
theorem d_L_law_475 : decode (cd mL_law) 475 = .ok (.aload_n 1, 1) := by decide +kernel
theorem d_L_law_476 : decode (cd mL_law) 476 = .ok (.aload_n 0, 1) := by decide +kernel
theorem d_L_law_477 : decode (cd mL_law) 477 = .ok (.iload 4, 2) := by decide +kernel
theorem d_L_law_479 : decode (cd mL_law) 479 = .ok (.iconst 1, 1) := by decide +kernel
theorem d_L_law_480 : decode (cd mL_law) 480 = .ok (.iadd, 1) := by decide +kernel
theorem d_L_law_481 : decode (cd mL_law) 481 = .ok (.iaload, 1) := by decide +kernel
theorem d_L_law_482 : decode (cd mL_law) 482 = .ok (.invokevirtual 50, 3) := by decide +kernel
theorem d_L_law_485 : decode (cd mL_law) 485 = .ok (.aload_n 2, 1) := by decide +kernel
theorem d_L_law_486 : decode (cd mL_law) 486 = .ok (.aload_n 0, 1) := by decide +kernel
theorem d_L_law_487 : decode (cd mL_law) 487 = .ok (.iload 4, 2) := by decide +kernel
theorem d_L_law_489 : decode (cd mL_law) 489 = .ok (.iconst 1, 1) := by decide +kernel
theorem d_L_law_490 : decode (cd mL_law) 490 = .ok (.iadd, 1) := by decide +kernel
theorem d_L_law_491 : decode (cd mL_law) 491 = .ok (.iaload, 1) := by decide +kernel
theorem d_L_law_492 : decode (cd mL_law) 492 = .ok (.invokevirtual 53, 3) := by decide +kernel
theorem d_L_law_495 : decode (cd mL_law) 495 = .ok (.if_icmp .eq 1067, 3) := by decide +kernel
theorem d_L_law_498 : decode (cd mL_law) 498 = .ok (.iconst 0, 1) := by decide +kernel
theorem d_L_law_499 : decode (cd mL_law) 499 = .ok (.ireturn, 1) := by decide +kernel
theorem d_L_law_500 : decode (cd mL_law) 500 = .ok (.aload_n 1, 1) := by decide +kernel
theorem d_L_law_501 : decode (cd mL_law) 501 = .ok (.invokevirtual 54, 3) := by decide +kernel
theorem d_L_law_504 : decode (cd mL_law) 504 = .ok (.aload_n 2, 1) := by decide +kernel
theorem d_L_law_505 : decode (cd mL_law) 505 = .ok (.invokevirtual 57, 3) := by decide +kernel
theorem d_L_law_508 : decode (cd mL_law) 508 = .ok (.if_icmp .eq 1054, 3) := by decide +kernel
theorem d_L_law_511 : decode (cd mL_law) 511 = .ok (.iconst 0, 1) := by decide +kernel
theorem d_L_law_512 : decode (cd mL_law) 512 = .ok (.ireturn, 1) := by decide +kernel
theorem d_L_law_513 : decode (cd mL_law) 513 = .ok (.aload_n 1, 1) := by decide +kernel
theorem d_L_law_514 : decode (cd mL_law) 514 = .ok (.aload_n 0, 1) := by decide +kernel
theorem d_L_law_515 : decode (cd mL_law) 515 = .ok (.iload 4, 2) := by decide +kernel
theorem d_L_law_517 : decode (cd mL_law) 517 = .ok (.iconst 1, 1) := by decide +kernel
theorem d_L_law_518 : decode (cd mL_law) 518 = .ok (.iadd, 1) := by decide +kernel
theorem d_L_law_519 : decode (cd mL_law) 519 = .ok (.iaload, 1) := by decide +kernel
theorem d_L_law_520 : decode (cd mL_law) 520 = .ok (.invokevirtual 58, 3) := by decide +kernel
theorem d_L_law_523 : decode (cd mL_law) 523 = .ok (.aload_n 2, 1) := by decide +kernel
theorem d_L_law_524 : decode (cd mL_law) 524 = .ok (.aload_n 0, 1) := by decide +kernel
theorem d_L_law_525 : decode (cd mL_law) 525 = .ok (.iload 4, 2) := by decide +kernel
theorem d_L_law_527 : decode (cd mL_law) 527 = .ok (.iconst 1, 1) := by decide +kernel
theorem d_L_law_528 : decode (cd mL_law) 528 = .ok (.iadd, 1) := by decide +kernel
theorem d_L_law_529 : decode (cd mL_law) 529 = .ok (.iaload, 1) := by decide +kernel
theorem d_L_law_530 : decode (cd mL_law) 530 = .ok (.invokevirtual 61, 3) := by decide +kernel
theorem d_L_law_533 : decode (cd mL_law) 533 = .ok (.if_icmp .eq 1029, 3) := by decide +kernel
theorem d_L_law_536 : decode (cd mL_law) 536 = .ok (.iconst 0, 1) := by decide +kernel
theorem d_L_law_537 : decode (cd mL_law) 537 = .ok (.ireturn, 1) := by decide +kernel
theorem d_L_law_538 : decode (cd mL_law) 538 = .ok (.aload_n 1, 1) := by decide +kernel
theorem d_L_law_539 : decode (cd mL_law) 539 = .ok (.aload_n 0, 1) := by decide +kernel
theorem d_L_law_540 : decode (cd mL_law) 540 = .ok (.iload 4, 2) := by decide +kernel
theorem d_L_law_542 : decode (cd mL_law) 542 = .ok (.iconst 1, 1) := by decide +kernel
theorem d_L_law_543 : decode (cd mL_law) 543 = .ok (.iadd, 1) := by decide +kernel
theorem d_L_law_544 : decode (cd mL_law) 544 = .ok (.iaload, 1) := by decide +kernel
theorem d_L_law_545 : decode (cd mL_law) 545 = .ok (.invokevirtual 62, 3) := by decide +kernel
theorem d_L_law_548 : decode (cd mL_law) 548 = .ok (.aload_n 2, 1) := by decide +kernel
theorem d_L_law_549 : decode (cd mL_law) 549 = .ok (.aload_n 0, 1) := by decide +kernel
theorem d_L_law_550 : decode (cd mL_law) 550 = .ok (.iload 4, 2) := by decide +kernel
theorem d_L_law_552 : decode (cd mL_law) 552 = .ok (.iconst 1, 1) := by decide +kernel
theorem d_L_law_553 : decode (cd mL_law) 553 = .ok (.iadd, 1) := by decide +kernel
theorem d_L_law_554 : decode (cd mL_law) 554 = .ok (.iaload, 1) := by decide +kernel
theorem d_L_law_555 : decode (cd mL_law) 555 = .ok (.invokevirtual 65, 3) := by decide +kernel
theorem d_L_law_558 : decode (cd mL_law) 558 = .ok (.if_icmp .eq 1004, 3) := by decide +kernel
theorem d_L_law_561 : decode (cd mL_law) 561 = .ok (.iconst 0, 1) := by decide +kernel
theorem d_L_law_562 : decode (cd mL_law) 562 = .ok (.ireturn, 1) := by decide +kernel
theorem d_L_law_563 : decode (cd mL_law) 563 = .ok (.aload_n 1, 1) := by decide +kernel
theorem d_L_law_564 : decode (cd mL_law) 564 = .ok (.aload_n 0, 1) := by decide +kernel
theorem d_L_law_565 : decode (cd mL_law) 565 = .ok (.iload 4, 2) := by decide +kernel
theorem d_L_law_567 : decode (cd mL_law) 567 = .ok (.iconst 1, 1) := by decide +kernel
theorem d_L_law_568 : decode (cd mL_law) 568 = .ok (.iadd, 1) := by decide +kernel
theorem d_L_law_569 : decode (cd mL_law) 569 = .ok (.iaload, 1) := by decide +kernel
theorem d_L_law_570 : decode (cd mL_law) 570 = .ok (.invokevirtual 66, 3) := by decide +kernel
theorem d_L_law_573 : decode (cd mL_law) 573 = .ok (.aload_n 2, 1) := by decide +kernel
theorem d_L_law_574 : decode (cd mL_law) 574 = .ok (.aload_n 0, 1) := by decide +kernel
theorem d_L_law_575 : decode (cd mL_law) 575 = .ok (.iload 4, 2) := by decide +kernel
theorem d_L_law_577 : decode (cd mL_law) 577 = .ok (.iconst 1, 1) := by decide +kernel
theorem d_L_law_578 : decode (cd mL_law) 578 = .ok (.iadd, 1) := by decide +kernel
theorem d_L_law_579 : decode (cd mL_law) 579 = .ok (.iaload, 1) := by decide +kernel
theorem d_L_law_580 : decode (cd mL_law) 580 = .ok (.invokevirtual 69, 3) := by decide +kernel
theorem d_L_law_583 : decode (cd mL_law) 583 = .ok (.if_icmp .eq 979, 3) := by decide +kernel
theorem d_L_law_586 : decode (cd mL_law) 586 = .ok (.iconst 0, 1) := by decide +kernel
theorem d_L_law_587 : decode (cd mL_law) 587 = .ok (.ireturn, 1) := by decide +kernel
theorem d_L_law_588 : decode (cd mL_law) 588 = .ok (.aload_n 1, 1) := by decide +kernel
theorem d_L_law_589 : decode (cd mL_law) 589 = .ok (.aload_n 0, 1) := by decide +kernel
theorem d_L_law_590 : decode (cd mL_law) 590 = .ok (.iload 4, 2) := by decide +kernel
theorem d_L_law_592 : decode (cd mL_law) 592 = .ok (.iconst 1, 1) := by decide +kernel
theorem d_L_law_593 : decode (cd mL_law) 593 = .ok (.iadd, 1) := by decide +kernel
theorem d_L_law_594 : decode (cd mL_law) 594 = .ok (.iaload, 1) := by decide +kernel
theorem d_L_law_595 : decode (cd mL_law) 595 = .ok (.aload_n 0, 1) := by decide +kernel
theorem d_L_law_596 : decode (cd mL_law) 596 = .ok (.iload 4, 2) := by decide +kernel
theorem d_L_law_598 : decode (cd mL_law) 598 = .ok (.iconst 2, 1) := by decide +kernel
theorem d_L_law_599 : decode (cd mL_law) 599 = .ok (.iadd, 1) := by decide +kernel
theorem d_L_law_600 : decode (cd mL_law) 600 = .ok (.iaload, 1) := by decide +kernel
theorem d_L_law_601 : decode (cd mL_law) 601 = .ok (.invokevirtual 70, 3) := by decide +kernel
theorem d_L_law_604 : decode (cd mL_law) 604 = .ok (.aload_n 2, 1) := by decide +kernel
theorem d_L_law_605 : decode (cd mL_law) 605 = .ok (.aload_n 0, 1) := by decide +kernel
theorem d_L_law_606 : decode (cd mL_law) 606 = .ok (.iload 4, 2) := by decide +kernel
theorem d_L_law_608 : decode (cd mL_law) 608 = .ok (.iconst 1, 1) := by decide +kernel
theorem d_L_law_609 : decode (cd mL_law) 609 = .ok (.iadd, 1) := by decide +kernel
theorem d_L_law_610 : decode (cd mL_law) 610 = .ok (.iaload, 1) := by decide +kernel
theorem d_L_law_611 : decode (cd mL_law) 611 = .ok (.aload_n 0, 1) := by decide +kernel
theorem d_L_law_612 : decode (cd mL_law) 612 = .ok (.iload 4, 2) := by decide +kernel
theorem d_L_law_614 : decode (cd mL_law) 614 = .ok (.iconst 2, 1) := by decide +kernel
theorem d_L_law_615 : decode (cd mL_law) 615 = .ok (.iadd, 1) := by decide +kernel
theorem d_L_law_616 : decode (cd mL_law) 616 = .ok (.iaload, 1) := by decide +kernel
theorem d_L_law_617 : decode (cd mL_law) 617 = .ok (.invokevirtual 73, 3) := by decide +kernel
theorem d_L_law_620 : decode (cd mL_law) 620 = .ok (.if_icmp .eq 942, 3) := by decide +kernel
theorem d_L_law_623 : decode (cd mL_law) 623 = .ok (.iconst 0, 1) := by decide +kernel
theorem d_L_law_624 : decode (cd mL_law) 624 = .ok (.ireturn, 1) := by decide +kernel
theorem d_L_law_625 : decode (cd mL_law) 625 = .ok (.aload_n 1, 1) := by decide +kernel
theorem d_L_law_626 : decode (cd mL_law) 626 = .ok (.aload_n 0, 1) := by decide +kernel
theorem d_L_law_627 : decode (cd mL_law) 627 = .ok (.iload 4, 2) := by decide +kernel
theorem d_L_law_629 : decode (cd mL_law) 629 = .ok (.iconst 1, 1) := by decide +kernel
theorem d_L_law_630 : decode (cd mL_law) 630 = .ok (.iadd, 1) := by decide +kernel
theorem d_L_law_631 : decode (cd mL_law) 631 = .ok (.iaload, 1) := by decide +kernel
theorem d_L_law_632 : decode (cd mL_law) 632 = .ok (.invokevirtual 74, 3) := by decide +kernel
theorem d_L_law_635 : decode (cd mL_law) 635 = .ok (.aload_n 2, 1) := by decide +kernel
theorem d_L_law_636 : decode (cd mL_law) 636 = .ok (.aload_n 0, 1) := by decide +kernel
theorem d_L_law_637 : decode (cd mL_law) 637 = .ok (.iload 4, 2) := by decide +kernel
theorem d_L_law_639 : decode (cd mL_law) 639 = .ok (.iconst 1, 1) := by decide +kernel
theorem d_L_law_640 : decode (cd mL_law) 640 = .ok (.iadd, 1) := by decide +kernel
theorem d_L_law_641 : decode (cd mL_law) 641 = .ok (.iaload, 1) := by decide +kernel
theorem d_L_law_642 : decode (cd mL_law) 642 = .ok (.invokevirtual 77, 3) := by decide +kernel
theorem d_L_law_645 : decode (cd mL_law) 645 = .ok (.if_icmp .eq 917, 3) := by decide +kernel
theorem d_L_law_648 : decode (cd mL_law) 648 = .ok (.iconst 0, 1) := by decide +kernel
theorem d_L_law_649 : decode (cd mL_law) 649 = .ok (.ireturn, 1) := by decide +kernel
theorem d_L_law_650 : decode (cd mL_law) 650 = .ok (.aload_n 1, 1) := by decide +kernel
theorem d_L_law_651 : decode (cd mL_law) 651 = .ok (.invokevirtual 78, 3) := by decide +kernel
theorem d_L_law_654 : decode (cd mL_law) 654 = .ok (.aload_n 2, 1) := by decide +kernel
theorem d_L_law_655 : decode (cd mL_law) 655 = .ok (.invokevirtual 81, 3) := by decide +kernel
theorem d_L_law_658 : decode (cd mL_law) 658 = .ok (.if_icmp .eq 904, 3) := by decide +kernel
theorem d_L_law_661 : decode (cd mL_law) 661 = .ok (.iconst 0, 1) := by decide +kernel
theorem d_L_law_662 : decode (cd mL_law) 662 = .ok (.ireturn, 1) := by decide +kernel
theorem d_L_law_663 : decode (cd mL_law) 663 = .ok (.aload_n 1, 1) := by decide +kernel
theorem d_L_law_664 : decode (cd mL_law) 664 = .ok (.aload_n 0, 1) := by decide +kernel
theorem d_L_law_665 : decode (cd mL_law) 665 = .ok (.iload 4, 2) := by decide +kernel
theorem d_L_law_667 : decode (cd mL_law) 667 = .ok (.iconst 1, 1) := by decide +kernel
theorem d_L_law_668 : decode (cd mL_law) 668 = .ok (.iadd, 1) := by decide +kernel
theorem d_L_law_669 : decode (cd mL_law) 669 = .ok (.iaload, 1) := by decide +kernel
theorem d_L_law_670 : decode (cd mL_law) 670 = .ok (.invokevirtual 82, 3) := by decide +kernel
theorem d_L_law_673 : decode (cd mL_law) 673 = .ok (.aload_n 2, 1) := by decide +kernel
theorem d_L_law_674 : decode (cd mL_law) 674 = .ok (.aload_n 0, 1) := by decide +kernel
theorem d_L_law_675 : decode (cd mL_law) 675 = .ok (.iload 4, 2) := by decide +kernel
theorem d_L_law_677 : decode (cd mL_law) 677 = .ok (.iconst 1, 1) := by decide +kernel
theorem d_L_law_678 : decode (cd mL_law) 678 = .ok (.iadd, 1) := by decide +kernel
theorem d_L_law_679 : decode (cd mL_law) 679 = .ok (.iaload, 1) := by decide +kernel
theorem d_L_law_680 : decode (cd mL_law) 680 = .ok (.invokevirtual 85, 3) := by decide +kernel
theorem d_L_law_683 : decode (cd mL_law) 683 = .ok (.if_icmp .eq 879, 3) := by decide +kernel
theorem d_L_law_686 : decode (cd mL_law) 686 = .ok (.iconst 0, 1) := by decide +kernel
theorem d_L_law_687 : decode (cd mL_law) 687 = .ok (.ireturn, 1) := by decide +kernel
theorem d_L_law_688 : decode (cd mL_law) 688 = .ok (.aload_n 1, 1) := by decide +kernel
theorem d_L_law_689 : decode (cd mL_law) 689 = .ok (.aload_n 0, 1) := by decide +kernel
theorem d_L_law_690 : decode (cd mL_law) 690 = .ok (.iload 4, 2) := by decide +kernel
theorem d_L_law_692 : decode (cd mL_law) 692 = .ok (.iconst 1, 1) := by decide +kernel
theorem d_L_law_693 : decode (cd mL_law) 693 = .ok (.iadd, 1) := by decide +kernel
theorem d_L_law_694 : decode (cd mL_law) 694 = .ok (.iaload, 1) := by decide +kernel
theorem d_L_law_695 : decode (cd mL_law) 695 = .ok (.aload_n 0, 1) := by decide +kernel
theorem d_L_law_696 : decode (cd mL_law) 696 = .ok (.iload 4, 2) := by decide +kernel
theorem d_L_law_698 : decode (cd mL_law) 698 = .ok (.iconst 2, 1) := by decide +kernel
theorem d_L_law_699 : decode (cd mL_law) 699 = .ok (.iadd, 1) := by decide +kernel
theorem d_L_law_700 : decode (cd mL_law) 700 = .ok (.iaload, 1) := by decide +kernel
theorem d_L_law_701 : decode (cd mL_law) 701 = .ok (.invokevirtual 86, 3) := by decide +kernel
theorem d_L_law_704 : decode (cd mL_law) 704 = .ok (.aload_n 2, 1) := by decide +kernel
theorem d_L_law_705 : decode (cd mL_law) 705 = .ok (.aload_n 0, 1) := by decide +kernel
theorem d_L_law_706 : decode (cd mL_law) 706 = .ok (.iload 4, 2) := by decide +kernel
theorem d_L_law_708 : decode (cd mL_law) 708 = .ok (.iconst 1, 1) := by decide +kernel
theorem d_L_law_709 : decode (cd mL_law) 709 = .ok (.iadd, 1) := by decide +kernel
theorem d_L_law_710 : decode (cd mL_law) 710 = .ok (.iaload, 1) := by decide +kernel
theorem d_L_law_711 : decode (cd mL_law) 711 = .ok (.aload_n 0, 1) := by decide +kernel
theorem d_L_law_712 : decode (cd mL_law) 712 = .ok (.iload 4, 2) := by decide +kernel
theorem d_L_law_714 : decode (cd mL_law) 714 = .ok (.iconst 2, 1) := by decide +kernel
theorem d_L_law_715 : decode (cd mL_law) 715 = .ok (.iadd, 1) := by decide +kernel
theorem d_L_law_716 : decode (cd mL_law) 716 = .ok (.iaload, 1) := by decide +kernel
theorem d_L_law_717 : decode (cd mL_law) 717 = .ok (.invokevirtual 89, 3) := by decide +kernel
theorem d_L_law_720 : decode (cd mL_law) 720 = .ok (.if_icmp .eq 842, 3) := by decide +kernel
theorem d_L_law_723 : decode (cd mL_law) 723 = .ok (.iconst 0, 1) := by decide +kernel
theorem d_L_law_724 : decode (cd mL_law) 724 = .ok (.ireturn, 1) := by decide +kernel
theorem d_L_law_725 : decode (cd mL_law) 725 = .ok (.aload_n 1, 1) := by decide +kernel
theorem d_L_law_726 : decode (cd mL_law) 726 = .ok (.aload_n 0, 1) := by decide +kernel
theorem d_L_law_727 : decode (cd mL_law) 727 = .ok (.iload 4, 2) := by decide +kernel
theorem d_L_law_729 : decode (cd mL_law) 729 = .ok (.iconst 1, 1) := by decide +kernel
theorem d_L_law_730 : decode (cd mL_law) 730 = .ok (.iadd, 1) := by decide +kernel
theorem d_L_law_731 : decode (cd mL_law) 731 = .ok (.iaload, 1) := by decide +kernel
theorem d_L_law_732 : decode (cd mL_law) 732 = .ok (.invokevirtual 90, 3) := by decide +kernel
theorem d_L_law_735 : decode (cd mL_law) 735 = .ok (.aload_n 2, 1) := by decide +kernel
theorem d_L_law_736 : decode (cd mL_law) 736 = .ok (.aload_n 0, 1) := by decide +kernel
theorem d_L_law_737 : decode (cd mL_law) 737 = .ok (.iload 4, 2) := by decide +kernel
theorem d_L_law_739 : decode (cd mL_law) 739 = .ok (.iconst 1, 1) := by decide +kernel
theorem d_L_law_740 : decode (cd mL_law) 740 = .ok (.iadd, 1) := by decide +kernel
theorem d_L_law_741 : decode (cd mL_law) 741 = .ok (.iaload, 1) := by decide +kernel
theorem d_L_law_742 : decode (cd mL_law) 742 = .ok (.invokevirtual 93, 3) := by decide +kernel
theorem d_L_law_745 : decode (cd mL_law) 745 = .ok (.if_icmp .eq 817, 3) := by decide +kernel
theorem d_L_law_748 : decode (cd mL_law) 748 = .ok (.iconst 0, 1) := by decide +kernel
theorem d_L_law_749 : decode (cd mL_law) 749 = .ok (.ireturn, 1) := by decide +kernel
theorem d_L_law_750 : decode (cd mL_law) 750 = .ok (.aload_n 1, 1) := by decide +kernel
theorem d_L_law_751 : decode (cd mL_law) 751 = .ok (.aload_n 0, 1) := by decide +kernel
theorem d_L_law_752 : decode (cd mL_law) 752 = .ok (.iload 4, 2) := by decide +kernel
theorem d_L_law_754 : decode (cd mL_law) 754 = .ok (.iconst 1, 1) := by decide +kernel
theorem d_L_law_755 : decode (cd mL_law) 755 = .ok (.iadd, 1) := by decide +kernel
theorem d_L_law_756 : decode (cd mL_law) 756 = .ok (.iaload, 1) := by decide +kernel
theorem d_L_law_757 : decode (cd mL_law) 757 = .ok (.invokevirtual 94, 3) := by decide +kernel
theorem d_L_law_760 : decode (cd mL_law) 760 = .ok (.aload_n 2, 1) := by decide +kernel
theorem d_L_law_761 : decode (cd mL_law) 761 = .ok (.aload_n 0, 1) := by decide +kernel
theorem d_L_law_762 : decode (cd mL_law) 762 = .ok (.iload 4, 2) := by decide +kernel
theorem d_L_law_764 : decode (cd mL_law) 764 = .ok (.iconst 1, 1) := by decide +kernel
theorem d_L_law_765 : decode (cd mL_law) 765 = .ok (.iadd, 1) := by decide +kernel
theorem d_L_law_766 : decode (cd mL_law) 766 = .ok (.iaload, 1) := by decide +kernel
theorem d_L_law_767 : decode (cd mL_law) 767 = .ok (.invokevirtual 97, 3) := by decide +kernel
theorem d_L_law_770 : decode (cd mL_law) 770 = .ok (.if_icmp .eq 792, 3) := by decide +kernel
theorem d_L_law_773 : decode (cd mL_law) 773 = .ok (.iconst 0, 1) := by decide +kernel
theorem d_L_law_774 : decode (cd mL_law) 774 = .ok (.ireturn, 1) := by decide +kernel
theorem d_L_law_775 : decode (cd mL_law) 775 = .ok (.aload_n 1, 1) := by decide +kernel
theorem d_L_law_776 : decode (cd mL_law) 776 = .ok (.aload_n 0, 1) := by decide +kernel
theorem d_L_law_777 : decode (cd mL_law) 777 = .ok (.iload 4, 2) := by decide +kernel
theorem d_L_law_779 : decode (cd mL_law) 779 = .ok (.iconst 1, 1) := by decide +kernel
theorem d_L_law_780 : decode (cd mL_law) 780 = .ok (.iadd, 1) := by decide +kernel
theorem d_L_law_781 : decode (cd mL_law) 781 = .ok (.iaload, 1) := by decide +kernel
theorem d_L_law_782 : decode (cd mL_law) 782 = .ok (.invokevirtual 98, 3) := by decide +kernel
theorem d_L_law_785 : decode (cd mL_law) 785 = .ok (.aload_n 2, 1) := by decide +kernel
theorem d_L_law_786 : decode (cd mL_law) 786 = .ok (.aload_n 0, 1) := by decide +kernel
theorem d_L_law_787 : decode (cd mL_law) 787 = .ok (.iload 4, 2) := by decide +kernel
theorem d_L_law_789 : decode (cd mL_law) 789 = .ok (.iconst 1, 1) := by decide +kernel
theorem d_L_law_790 : decode (cd mL_law) 790 = .ok (.iadd, 1) := by decide +kernel
theorem d_L_law_791 : decode (cd mL_law) 791 = .ok (.iaload, 1) := by decide +kernel
theorem d_L_law_792 : decode (cd mL_law) 792 = .ok (.invokevirtual 101, 3) := by decide +kernel
theorem d_L_law_795 : decode (cd mL_law) 795 = .ok (.if_icmp .eq 767, 3) := by decide +kernel
theorem d_L_law_798 : decode (cd mL_law) 798 = .ok (.iconst 0, 1) := by decide +kernel
theorem d_L_law_799 : decode (cd mL_law) 799 = .ok (.ireturn, 1) := by decide +kernel
theorem d_L_law_800 : decode (cd mL_law) 800 = .ok (.aload_n 1, 1) := by decide +kernel
theorem d_L_law_801 : decode (cd mL_law) 801 = .ok (.aload_n 0, 1) := by decide +kernel
theorem d_L_law_802 : decode (cd mL_law) 802 = .ok (.iload 4, 2) := by decide +kernel
theorem d_L_law_804 : decode (cd mL_law) 804 = .ok (.iconst 1, 1) := by decide +kernel
theorem d_L_law_805 : decode (cd mL_law) 805 = .ok (.iadd, 1) := by decide +kernel
theorem d_L_law_806 : decode (cd mL_law) 806 = .ok (.iaload, 1) := by decide +kernel
theorem d_L_law_807 : decode (cd mL_law) 807 = .ok (.invokevirtual 102, 3) := by decide +kernel
theorem d_L_law_810 : decode (cd mL_law) 810 = .ok (.aload_n 2, 1) := by decide +kernel
theorem d_L_law_811 : decode (cd mL_law) 811 = .ok (.aload_n 0, 1) := by decide +kernel
theorem d_L_law_812 : decode (cd mL_law) 812 = .ok (.iload 4, 2) := by decide +kernel
theorem d_L_law_814 : decode (cd mL_law) 814 = .ok (.iconst 1, 1) := by decide +kernel
theorem d_L_law_815 : decode (cd mL_law) 815 = .ok (.iadd, 1) := by decide +kernel
theorem d_L_law_816 : decode (cd mL_law) 816 = .ok (.iaload, 1) := by decide +kernel
theorem d_L_law_817 : decode (cd mL_law) 817 = .ok (.invokevirtual 105, 3) := by decide +kernel
theorem d_L_law_820 : decode (cd mL_law) 820 = .ok (.if_icmp .eq 742, 3) := by decide +kernel
theorem d_L_law_823 : decode (cd mL_law) 823 = .ok (.iconst 0, 1) := by decide +kernel
theorem d_L_law_824 : decode (cd mL_law) 824 = .ok (.ireturn, 1) := by decide +kernel
theorem d_L_law_825 : decode (cd mL_law) 825 = .ok (.aload_n 1, 1) := by decide +kernel
theorem d_L_law_826 : decode (cd mL_law) 826 = .ok (.aload_n 0, 1) := by decide +kernel
theorem d_L_law_827 : decode (cd mL_law) 827 = .ok (.iload 4, 2) := by decide +kernel
theorem d_L_law_829 : decode (cd mL_law) 829 = .ok (.iconst 1, 1) := by decide +kernel
theorem d_L_law_830 : decode (cd mL_law) 830 = .ok (.iadd, 1) := by decide +kernel
theorem d_L_law_831 : decode (cd mL_law) 831 = .ok (.iaload, 1) := by decide +kernel
theorem d_L_law_832 : decode (cd mL_law) 832 = .ok (.aload_n 0, 1) := by decide +kernel
theorem d_L_law_833 : decode (cd mL_law) 833 = .ok (.iload 4, 2) := by decide +kernel
theorem d_L_law_835 : decode (cd mL_law) 835 = .ok (.iconst 2, 1) := by decide +kernel
theorem d_L_law_836 : decode (cd mL_law) 836 = .ok (.iadd, 1) := by decide +kernel
theorem d_L_law_837 : decode (cd mL_law) 837 = .ok (.iaload, 1) := by decide +kernel
theorem d_L_law_838 : decode (cd mL_law) 838 = .ok (.invokevirtual 106, 3) := by decide +kernel
theorem d_L_law_841 : decode (cd mL_law) 841 = .ok (.aload_n 2, 1) := by decide +kernel
theorem d_L_law_842 : decode (cd mL_law) 842 = .ok (.aload_n 0, 1) := by decide +kernel
theorem d_L_law_843 : decode (cd mL_law) 843 = .ok (.iload 4, 2) := by decide +kernel
theorem d_L_law_845 : decode (cd mL_law) 845 = .ok (.iconst 1, 1) := by decide +kernel
theorem d_L_law_846 : decode (cd mL_law) 846 = .ok (.iadd, 1) := by decide +kernel
theorem d_L_law_847 : decode (cd mL_law) 847 = .ok (.iaload, 1) := by decide +kernel
theorem d_L_law_848 : decode (cd mL_law) 848 = .ok (.aload_n 0, 1) := by decide +kernel
theorem d_L_law_849 : decode (cd mL_law) 849 = .ok (.iload 4, 2) := by decide +kernel
theorem d_L_law_851 : decode (cd mL_law) 851 = .ok (.iconst 2, 1) := by decide +kernel
theorem d_L_law_852 : decode (cd mL_law) 852 = .ok (.iadd, 1) := by decide +kernel
theorem d_L_law_853 : decode (cd mL_law) 853 = .ok (.iaload, 1) := by decide +kernel
theorem d_L_law_854 : decode (cd mL_law) 854 = .ok (.invokevirtual 109, 3) := by decide +kernel
theorem d_L_law_857 : decode (cd mL_law) 857 = .ok (.if_icmp .eq 705, 3) := by decide +kernel
theorem d_L_law_860 : decode (cd mL_law) 860 = .ok (.iconst 0, 1) := by decide +kernel
theorem d_L_law_861 : decode (cd mL_law) 861 = .ok (.ireturn, 1) := by decide +kernel
theorem d_L_law_862 : decode (cd mL_law) 862 = .ok (.aload_n 1, 1) := by decide +kernel
theorem d_L_law_863 : decode (cd mL_law) 863 = .ok (.invokevirtual 110, 3) := by decide +kernel
theorem d_L_law_866 : decode (cd mL_law) 866 = .ok (.aload_n 2, 1) := by decide +kernel
theorem d_L_law_867 : decode (cd mL_law) 867 = .ok (.invokevirtual 113, 3) := by decide +kernel
theorem d_L_law_870 : decode (cd mL_law) 870 = .ok (.if_icmp .eq 692, 3) := by decide +kernel
theorem d_L_law_873 : decode (cd mL_law) 873 = .ok (.iconst 0, 1) := by decide +kernel
theorem d_L_law_874 : decode (cd mL_law) 874 = .ok (.ireturn, 1) := by decide +kernel
theorem d_L_law_875 : decode (cd mL_law) 875 = .ok (.aload_n 1, 1) := by decide +kernel
theorem d_L_law_876 : decode (cd mL_law) 876 = .ok (.aload_n 0, 1) := by decide +kernel
theorem d_L_law_877 : decode (cd mL_law) 877 = .ok (.iload 4, 2) := by decide +kernel
theorem d_L_law_879 : decode (cd mL_law) 879 = .ok (.iconst 1, 1) := by decide +kernel
theorem d_L_law_880 : decode (cd mL_law) 880 = .ok (.iadd, 1) := by decide +kernel
theorem d_L_law_881 : decode (cd mL_law) 881 = .ok (.iaload, 1) := by decide +kernel
theorem d_L_law_882 : decode (cd mL_law) 882 = .ok (.invokevirtual 114, 3) := by decide +kernel
theorem d_L_law_885 : decode (cd mL_law) 885 = .ok (.aload_n 2, 1) := by decide +kernel
theorem d_L_law_886 : decode (cd mL_law) 886 = .ok (.aload_n 0, 1) := by decide +kernel
theorem d_L_law_887 : decode (cd mL_law) 887 = .ok (.iload 4, 2) := by decide +kernel
theorem d_L_law_889 : decode (cd mL_law) 889 = .ok (.iconst 1, 1) := by decide +kernel
theorem d_L_law_890 : decode (cd mL_law) 890 = .ok (.iadd, 1) := by decide +kernel
theorem d_L_law_891 : decode (cd mL_law) 891 = .ok (.iaload, 1) := by decide +kernel
theorem d_L_law_892 : decode (cd mL_law) 892 = .ok (.invokevirtual 117, 3) := by decide +kernel
theorem d_L_law_895 : decode (cd mL_law) 895 = .ok (.if_icmp .eq 667, 3) := by decide +kernel
theorem d_L_law_898 : decode (cd mL_law) 898 = .ok (.iconst 0, 1) := by decide +kernel
theorem d_L_law_899 : decode (cd mL_law) 899 = .ok (.ireturn, 1) := by decide +kernel
theorem d_L_law_900 : decode (cd mL_law) 900 = .ok (.aload_n 1, 1) := by decide +kernel
theorem d_L_law_901 : decode (cd mL_law) 901 = .ok (.aload_n 0, 1) := by decide +kernel
theorem d_L_law_902 : decode (cd mL_law) 902 = .ok (.iload 4, 2) := by decide +kernel
theorem d_L_law_904 : decode (cd mL_law) 904 = .ok (.iconst 1, 1) := by decide +kernel
theorem d_L_law_905 : decode (cd mL_law) 905 = .ok (.iadd, 1) := by decide +kernel
theorem d_L_law_906 : decode (cd mL_law) 906 = .ok (.iaload, 1) := by decide +kernel
theorem d_L_law_907 : decode (cd mL_law) 907 = .ok (.ifCond .eq 7, 3) := by decide +kernel
theorem d_L_law_910 : decode (cd mL_law) 910 = .ok (.iconst 1, 1) := by decide +kernel
theorem d_L_law_911 : decode (cd mL_law) 911 = .ok (.goto 4, 3) := by decide +kernel
theorem d_L_law_914 : decode (cd mL_law) 914 = .ok (.iconst 0, 1) := by decide +kernel
theorem d_L_law_915 : decode (cd mL_law) 915 = .ok (.invokevirtual 118, 3) := by decide +kernel
theorem d_L_law_918 : decode (cd mL_law) 918 = .ok (.aload_n 2, 1) := by decide +kernel
theorem d_L_law_919 : decode (cd mL_law) 919 = .ok (.aload_n 0, 1) := by decide +kernel
theorem d_L_law_920 : decode (cd mL_law) 920 = .ok (.iload 4, 2) := by decide +kernel
theorem d_L_law_922 : decode (cd mL_law) 922 = .ok (.iconst 1, 1) := by decide +kernel
theorem d_L_law_923 : decode (cd mL_law) 923 = .ok (.iadd, 1) := by decide +kernel
theorem d_L_law_924 : decode (cd mL_law) 924 = .ok (.iaload, 1) := by decide +kernel
theorem d_L_law_925 : decode (cd mL_law) 925 = .ok (.ifCond .eq 7, 3) := by decide +kernel
theorem d_L_law_928 : decode (cd mL_law) 928 = .ok (.iconst 1, 1) := by decide +kernel
theorem d_L_law_929 : decode (cd mL_law) 929 = .ok (.goto 4, 3) := by decide +kernel
theorem d_L_law_932 : decode (cd mL_law) 932 = .ok (.iconst 0, 1) := by decide +kernel
theorem d_L_law_933 : decode (cd mL_law) 933 = .ok (.invokevirtual 122, 3) := by decide +kernel
theorem d_L_law_936 : decode (cd mL_law) 936 = .ok (.if_icmp .eq 626, 3) := by decide +kernel
theorem d_L_law_939 : decode (cd mL_law) 939 = .ok (.iconst 0, 1) := by decide +kernel
theorem d_L_law_940 : decode (cd mL_law) 940 = .ok (.ireturn, 1) := by decide +kernel
theorem d_L_law_941 : decode (cd mL_law) 941 = .ok (.aload_n 1, 1) := by decide +kernel
theorem d_L_law_942 : decode (cd mL_law) 942 = .ok (.aload_n 0, 1) := by decide +kernel
theorem d_L_law_943 : decode (cd mL_law) 943 = .ok (.iload 4, 2) := by decide +kernel
theorem d_L_law_945 : decode (cd mL_law) 945 = .ok (.iconst 1, 1) := by decide +kernel
theorem d_L_law_946 : decode (cd mL_law) 946 = .ok (.iadd, 1) := by decide +kernel
theorem d_L_law_947 : decode (cd mL_law) 947 = .ok (.iaload, 1) := by decide +kernel
theorem d_L_law_948 : decode (cd mL_law) 948 = .ok (.ifCond .eq 7, 3) := by decide +kernel
theorem d_L_law_951 : decode (cd mL_law) 951 = .ok (.iconst 1, 1) := by decide +kernel
theorem d_L_law_952 : decode (cd mL_law) 952 = .ok (.goto 4, 3) := by decide +kernel
theorem d_L_law_955 : decode (cd mL_law) 955 = .ok (.iconst 0, 1) := by decide +kernel
theorem d_L_law_956 : decode (cd mL_law) 956 = .ok (.invokevirtual 123, 3) := by decide +kernel
theorem d_L_law_959 : decode (cd mL_law) 959 = .ok (.aload_n 2, 1) := by decide +kernel
theorem d_L_law_960 : decode (cd mL_law) 960 = .ok (.aload_n 0, 1) := by decide +kernel
theorem d_L_law_961 : decode (cd mL_law) 961 = .ok (.iload 4, 2) := by decide +kernel
theorem d_L_law_963 : decode (cd mL_law) 963 = .ok (.iconst 1, 1) := by decide +kernel
theorem d_L_law_964 : decode (cd mL_law) 964 = .ok (.iadd, 1) := by decide +kernel
theorem d_L_law_965 : decode (cd mL_law) 965 = .ok (.iaload, 1) := by decide +kernel
theorem d_L_law_966 : decode (cd mL_law) 966 = .ok (.ifCond .eq 7, 3) := by decide +kernel
theorem d_L_law_969 : decode (cd mL_law) 969 = .ok (.iconst 1, 1) := by decide +kernel
theorem d_L_law_970 : decode (cd mL_law) 970 = .ok (.goto 4, 3) := by decide +kernel
theorem d_L_law_973 : decode (cd mL_law) 973 = .ok (.iconst 0, 1) := by decide +kernel
theorem d_L_law_974 : decode (cd mL_law) 974 = .ok (.invokevirtual 126, 3) := by decide +kernel
theorem d_L_law_977 : decode (cd mL_law) 977 = .ok (.if_icmp .eq 585, 3) := by decide +kernel
theorem d_L_law_980 : decode (cd mL_law) 980 = .ok (.iconst 0, 1) := by decide +kernel
theorem d_L_law_981 : decode (cd mL_law) 981 = .ok (.ireturn, 1) := by decide +kernel
theorem d_L_law_982 : decode (cd mL_law) 982 = .ok (.aload_n 1, 1) := by decide +kernel
theorem d_L_law_983 : decode (cd mL_law) 983 = .ok (.invokevirtual 127, 3) := by decide +kernel
theorem d_L_law_986 : decode (cd mL_law) 986 = .ok (.aload_n 2, 1) := by decide +kernel
theorem d_L_law_987 : decode (cd mL_law) 987 = .ok (.invokevirtual 130, 3) := by decide +kernel
theorem d_L_law_990 : decode (cd mL_law) 990 = .ok (.if_icmp .eq 572, 3) := by decide +kernel
theorem d_L_law_993 : decode (cd mL_law) 993 = .ok (.iconst 0, 1) := by decide +kernel
theorem d_L_law_994 : decode (cd mL_law) 994 = .ok (.ireturn, 1) := by decide +kernel
theorem d_L_law_995 : decode (cd mL_law) 995 = .ok (.aload_n 1, 1) := by decide +kernel
theorem d_L_law_996 : decode (cd mL_law) 996 = .ok (.invokevirtual 131, 3) := by decide +kernel
theorem d_L_law_999 : decode (cd mL_law) 999 = .ok (.aload_n 2, 1) := by decide +kernel
theorem d_L_law_1000 : decode (cd mL_law) 1000 = .ok (.invokevirtual 134, 3) := by decide +kernel
theorem d_L_law_1003 : decode (cd mL_law) 1003 = .ok (.if_icmp .eq 559, 3) := by decide +kernel
theorem d_L_law_1006 : decode (cd mL_law) 1006 = .ok (.iconst 0, 1) := by decide +kernel
theorem d_L_law_1007 : decode (cd mL_law) 1007 = .ok (.ireturn, 1) := by decide +kernel
theorem d_L_law_1008 : decode (cd mL_law) 1008 = .ok (.aload_n 1, 1) := by decide +kernel
theorem d_L_law_1009 : decode (cd mL_law) 1009 = .ok (.invokevirtual 135, 3) := by decide +kernel
theorem d_L_law_1012 : decode (cd mL_law) 1012 = .ok (.aload_n 2, 1) := by decide +kernel
theorem d_L_law_1013 : decode (cd mL_law) 1013 = .ok (.invokevirtual 138, 3) := by decide +kernel
theorem d_L_law_1016 : decode (cd mL_law) 1016 = .ok (.if_icmp .eq 546, 3) := by decide +kernel
theorem d_L_law_1019 : decode (cd mL_law) 1019 = .ok (.iconst 0, 1) := by decide +kernel
theorem d_L_law_1020 : decode (cd mL_law) 1020 = .ok (.ireturn, 1) := by decide +kernel
theorem d_L_law_1021 : decode (cd mL_law) 1021 = .ok (.aload_n 1, 1) := by decide +kernel
theorem d_L_law_1022 : decode (cd mL_law) 1022 = .ok (.aload_n 0, 1) := by decide +kernel
theorem d_L_law_1023 : decode (cd mL_law) 1023 = .ok (.iload 4, 2) := by decide +kernel
theorem d_L_law_1025 : decode (cd mL_law) 1025 = .ok (.iconst 1, 1) := by decide +kernel
theorem d_L_law_1026 : decode (cd mL_law) 1026 = .ok (.iadd, 1) := by decide +kernel
theorem d_L_law_1027 : decode (cd mL_law) 1027 = .ok (.iaload, 1) := by decide +kernel
theorem d_L_law_1028 : decode (cd mL_law) 1028 = .ok (.invokevirtual 139, 3) := by decide +kernel
theorem d_L_law_1031 : decode (cd mL_law) 1031 = .ok (.aload_n 2, 1) := by decide +kernel
theorem d_L_law_1032 : decode (cd mL_law) 1032 = .ok (.aload_n 0, 1) := by decide +kernel
theorem d_L_law_1033 : decode (cd mL_law) 1033 = .ok (.iload 4, 2) := by decide +kernel
theorem d_L_law_1035 : decode (cd mL_law) 1035 = .ok (.iconst 1, 1) := by decide +kernel
theorem d_L_law_1036 : decode (cd mL_law) 1036 = .ok (.iadd, 1) := by decide +kernel
theorem d_L_law_1037 : decode (cd mL_law) 1037 = .ok (.iaload, 1) := by decide +kernel
theorem d_L_law_1038 : decode (cd mL_law) 1038 = .ok (.invokevirtual 142, 3) := by decide +kernel
theorem d_L_law_1041 : decode (cd mL_law) 1041 = .ok (.if_icmp .eq 521, 3) := by decide +kernel
theorem d_L_law_1044 : decode (cd mL_law) 1044 = .ok (.iconst 0, 1) := by decide +kernel
theorem d_L_law_1045 : decode (cd mL_law) 1045 = .ok (.ireturn, 1) := by decide +kernel
theorem d_L_law_1046 : decode (cd mL_law) 1046 = .ok (.aload_n 1, 1) := by decide +kernel
theorem d_L_law_1047 : decode (cd mL_law) 1047 = .ok (.aload_n 0, 1) := by decide +kernel
theorem d_L_law_1048 : decode (cd mL_law) 1048 = .ok (.iload 4, 2) := by decide +kernel
theorem d_L_law_1050 : decode (cd mL_law) 1050 = .ok (.iconst 1, 1) := by decide +kernel
theorem d_L_law_1051 : decode (cd mL_law) 1051 = .ok (.iadd, 1) := by decide +kernel
theorem d_L_law_1052 : decode (cd mL_law) 1052 = .ok (.iaload, 1) := by decide +kernel
theorem d_L_law_1053 : decode (cd mL_law) 1053 = .ok (.invokevirtual 143, 3) := by decide +kernel
theorem d_L_law_1056 : decode (cd mL_law) 1056 = .ok (.aload_n 2, 1) := by decide +kernel
theorem d_L_law_1057 : decode (cd mL_law) 1057 = .ok (.aload_n 0, 1) := by decide +kernel
theorem d_L_law_1058 : decode (cd mL_law) 1058 = .ok (.iload 4, 2) := by decide +kernel
theorem d_L_law_1060 : decode (cd mL_law) 1060 = .ok (.iconst 1, 1) := by decide +kernel
theorem d_L_law_1061 : decode (cd mL_law) 1061 = .ok (.iadd, 1) := by decide +kernel
theorem d_L_law_1062 : decode (cd mL_law) 1062 = .ok (.iaload, 1) := by decide +kernel
theorem d_L_law_1063 : decode (cd mL_law) 1063 = .ok (.invokevirtual 146, 3) := by decide +kernel
theorem d_L_law_1066 : decode (cd mL_law) 1066 = .ok (.if_icmp .eq 496, 3) := by decide +kernel
theorem d_L_law_1069 : decode (cd mL_law) 1069 = .ok (.iconst 0, 1) := by decide +kernel
theorem d_L_law_1070 : decode (cd mL_law) 1070 = .ok (.ireturn, 1) := by decide +kernel
theorem d_L_law_1071 : decode (cd mL_law) 1071 = .ok (.aload_n 1, 1) := by decide +kernel
theorem d_L_law_1072 : decode (cd mL_law) 1072 = .ok (.invokevirtual 147, 3) := by decide +kernel
theorem d_L_law_1075 : decode (cd mL_law) 1075 = .ok (.aload_n 2, 1) := by decide +kernel
theorem d_L_law_1076 : decode (cd mL_law) 1076 = .ok (.invokevirtual 150, 3) := by decide +kernel
theorem d_L_law_1079 : decode (cd mL_law) 1079 = .ok (.if_icmp .eq 483, 3) := by decide +kernel
theorem d_L_law_1082 : decode (cd mL_law) 1082 = .ok (.iconst 0, 1) := by decide +kernel
theorem d_L_law_1083 : decode (cd mL_law) 1083 = .ok (.ireturn, 1) := by decide +kernel
theorem d_L_law_1084 : decode (cd mL_law) 1084 = .ok (.aload_n 1, 1) := by decide +kernel
theorem d_L_law_1085 : decode (cd mL_law) 1085 = .ok (.invokevirtual 151, 3) := by decide +kernel
theorem d_L_law_1088 : decode (cd mL_law) 1088 = .ok (.aload_n 2, 1) := by decide +kernel
theorem d_L_law_1089 : decode (cd mL_law) 1089 = .ok (.invokevirtual 154, 3) := by decide +kernel
theorem d_L_law_1092 : decode (cd mL_law) 1092 = .ok (.if_icmp .eq 470, 3) := by decide +kernel
theorem d_L_law_1095 : decode (cd mL_law) 1095 = .ok (.iconst 0, 1) := by decide +kernel
theorem d_L_law_1096 : decode (cd mL_law) 1096 = .ok (.ireturn, 1) := by decide +kernel
theorem d_L_law_1097 : decode (cd mL_law) 1097 = .ok (.aload_n 1, 1) := by decide +kernel
theorem d_L_law_1098 : decode (cd mL_law) 1098 = .ok (.aload_n 0, 1) := by decide +kernel
theorem d_L_law_1099 : decode (cd mL_law) 1099 = .ok (.iload 4, 2) := by decide +kernel
theorem d_L_law_1101 : decode (cd mL_law) 1101 = .ok (.iconst 1, 1) := by decide +kernel
theorem d_L_law_1102 : decode (cd mL_law) 1102 = .ok (.iadd, 1) := by decide +kernel
theorem d_L_law_1103 : decode (cd mL_law) 1103 = .ok (.iaload, 1) := by decide +kernel
theorem d_L_law_1104 : decode (cd mL_law) 1104 = .ok (.aload_n 0, 1) := by decide +kernel
theorem d_L_law_1105 : decode (cd mL_law) 1105 = .ok (.iload 4, 2) := by decide +kernel
theorem d_L_law_1107 : decode (cd mL_law) 1107 = .ok (.iconst 2, 1) := by decide +kernel
theorem d_L_law_1108 : decode (cd mL_law) 1108 = .ok (.iadd, 1) := by decide +kernel
theorem d_L_law_1109 : decode (cd mL_law) 1109 = .ok (.iaload, 1) := by decide +kernel
theorem d_L_law_1110 : decode (cd mL_law) 1110 = .ok (.invokevirtual 155, 3) := by decide +kernel
theorem d_L_law_1113 : decode (cd mL_law) 1113 = .ok (.aload_n 2, 1) := by decide +kernel
theorem d_L_law_1114 : decode (cd mL_law) 1114 = .ok (.aload_n 0, 1) := by decide +kernel
theorem d_L_law_1115 : decode (cd mL_law) 1115 = .ok (.iload 4, 2) := by decide +kernel
theorem d_L_law_1117 : decode (cd mL_law) 1117 = .ok (.iconst 1, 1) := by decide +kernel
theorem d_L_law_1118 : decode (cd mL_law) 1118 = .ok (.iadd, 1) := by decide +kernel
theorem d_L_law_1119 : decode (cd mL_law) 1119 = .ok (.iaload, 1) := by decide +kernel
theorem d_L_law_1120 : decode (cd mL_law) 1120 = .ok (.aload_n 0, 1) := by decide +kernel
theorem d_L_law_1121 : decode (cd mL_law) 1121 = .ok (.iload 4, 2) := by decide +kernel
theorem d_L_law_1123 : decode (cd mL_law) 1123 = .ok (.iconst 2, 1) := by decide +kernel
theorem d_L_law_1124 : decode (cd mL_law) 1124 = .ok (.iadd, 1) := by decide +kernel
theorem d_L_law_1125 : decode (cd mL_law) 1125 = .ok (.iaload, 1) := by decide +kernel
theorem d_L_law_1126 : decode (cd mL_law) 1126 = .ok (.invokevirtual 158, 3) := by decide +kernel
theorem d_L_law_1129 : decode (cd mL_law) 1129 = .ok (.if_icmp .eq 433, 3) := by decide +kernel
theorem d_L_law_1132 : decode (cd mL_law) 1132 = .ok (.iconst 0, 1) := by decide +kernel
theorem d_L_law_1133 : decode (cd mL_law) 1133 = .ok (.ireturn, 1) := by decide +kernel
theorem d_L_law_1134 : decode (cd mL_law) 1134 = .ok (.aload_n 1, 1) := by decide +kernel
theorem d_L_law_1135 : decode (cd mL_law) 1135 = .ok (.invokevirtual 159, 3) := by decide +kernel
theorem d_L_law_1138 : decode (cd mL_law) 1138 = .ok (.aload_n 2, 1) := by decide +kernel
theorem d_L_law_1139 : decode (cd mL_law) 1139 = .ok (.invokevirtual 162, 3) := by decide +kernel
theorem d_L_law_1142 : decode (cd mL_law) 1142 = .ok (.if_icmp .eq 420, 3) := by decide +kernel
theorem d_L_law_1145 : decode (cd mL_law) 1145 = .ok (.iconst 0, 1) := by decide +kernel
theorem d_L_law_1146 : decode (cd mL_law) 1146 = .ok (.ireturn, 1) := by decide +kernel
theorem d_L_law_1147 : decode (cd mL_law) 1147 = .ok (.aload_n 1, 1) := by decide +kernel
theorem d_L_law_1148 : decode (cd mL_law) 1148 = .ok (.aload_n 0, 1) := by decide +kernel
theorem d_L_law_1149 : decode (cd mL_law) 1149 = .ok (.iload 4, 2) := by decide +kernel
theorem d_L_law_1151 : decode (cd mL_law) 1151 = .ok (.iconst 1, 1) := by decide +kernel
theorem d_L_law_1152 : decode (cd mL_law) 1152 = .ok (.iadd, 1) := by decide +kernel
theorem d_L_law_1153 : decode (cd mL_law) 1153 = .ok (.iaload, 1) := by decide +kernel
theorem d_L_law_1154 : decode (cd mL_law) 1154 = .ok (.invokevirtual 163, 3) := by decide +kernel
theorem d_L_law_1157 : decode (cd mL_law) 1157 = .ok (.aload_n 2, 1) := by decide +kernel
theorem d_L_law_1158 : decode (cd mL_law) 1158 = .ok (.aload_n 0, 1) := by decide +kernel
theorem d_L_law_1159 : decode (cd mL_law) 1159 = .ok (.iload 4, 2) := by decide +kernel
theorem d_L_law_1161 : decode (cd mL_law) 1161 = .ok (.iconst 1, 1) := by decide +kernel
theorem d_L_law_1162 : decode (cd mL_law) 1162 = .ok (.iadd, 1) := by decide +kernel
theorem d_L_law_1163 : decode (cd mL_law) 1163 = .ok (.iaload, 1) := by decide +kernel
theorem d_L_law_1164 : decode (cd mL_law) 1164 = .ok (.invokevirtual 166, 3) := by decide +kernel
theorem d_L_law_1167 : decode (cd mL_law) 1167 = .ok (.if_icmp .eq 395, 3) := by decide +kernel
theorem d_L_law_1170 : decode (cd mL_law) 1170 = .ok (.iconst 0, 1) := by decide +kernel
theorem d_L_law_1171 : decode (cd mL_law) 1171 = .ok (.ireturn, 1) := by decide +kernel
theorem d_L_law_1172 : decode (cd mL_law) 1172 = .ok (.aload_n 1, 1) := by decide +kernel
theorem d_L_law_1173 : decode (cd mL_law) 1173 = .ok (.aload_n 0, 1) := by decide +kernel
theorem d_L_law_1174 : decode (cd mL_law) 1174 = .ok (.iload 4, 2) := by decide +kernel
theorem d_L_law_1176 : decode (cd mL_law) 1176 = .ok (.iconst 1, 1) := by decide +kernel
theorem d_L_law_1177 : decode (cd mL_law) 1177 = .ok (.iadd, 1) := by decide +kernel
theorem d_L_law_1178 : decode (cd mL_law) 1178 = .ok (.iaload, 1) := by decide +kernel
theorem d_L_law_1179 : decode (cd mL_law) 1179 = .ok (.aload_n 0, 1) := by decide +kernel
theorem d_L_law_1180 : decode (cd mL_law) 1180 = .ok (.iload 4, 2) := by decide +kernel
theorem d_L_law_1182 : decode (cd mL_law) 1182 = .ok (.iconst 2, 1) := by decide +kernel
theorem d_L_law_1183 : decode (cd mL_law) 1183 = .ok (.iadd, 1) := by decide +kernel
theorem d_L_law_1184 : decode (cd mL_law) 1184 = .ok (.iaload, 1) := by decide +kernel
theorem d_L_law_1185 : decode (cd mL_law) 1185 = .ok (.aload_n 0, 1) := by decide +kernel
theorem d_L_law_1186 : decode (cd mL_law) 1186 = .ok (.iload 4, 2) := by decide +kernel
theorem d_L_law_1188 : decode (cd mL_law) 1188 = .ok (.iconst 3, 1) := by decide +kernel
theorem d_L_law_1189 : decode (cd mL_law) 1189 = .ok (.iadd, 1) := by decide +kernel
theorem d_L_law_1190 : decode (cd mL_law) 1190 = .ok (.iaload, 1) := by decide +kernel
theorem d_L_law_1191 : decode (cd mL_law) 1191 = .ok (.ifCond .eq 7, 3) := by decide +kernel
theorem d_L_law_1194 : decode (cd mL_law) 1194 = .ok (.iconst 1, 1) := by decide +kernel
theorem d_L_law_1195 : decode (cd mL_law) 1195 = .ok (.goto 4, 3) := by decide +kernel
theorem d_L_law_1198 : decode (cd mL_law) 1198 = .ok (.iconst 0, 1) := by decide +kernel
theorem d_L_law_1199 : decode (cd mL_law) 1199 = .ok (.invokevirtual 167, 3) := by decide +kernel
theorem d_L_law_1202 : decode (cd mL_law) 1202 = .ok (.aload_n 2, 1) := by decide +kernel
theorem d_L_law_1203 : decode (cd mL_law) 1203 = .ok (.aload_n 0, 1) := by decide +kernel
theorem d_L_law_1204 : decode (cd mL_law) 1204 = .ok (.iload 4, 2) := by decide +kernel
theorem d_L_law_1206 : decode (cd mL_law) 1206 = .ok (.iconst 1, 1) := by decide +kernel
theorem d_L_law_1207 : decode (cd mL_law) 1207 = .ok (.iadd, 1) := by decide +kernel
theorem d_L_law_1208 : decode (cd mL_law) 1208 = .ok (.iaload, 1) := by decide +kernel
theorem d_L_law_1209 : decode (cd mL_law) 1209 = .ok (.aload_n 0, 1) := by decide +kernel
theorem d_L_law_1210 : decode (cd mL_law) 1210 = .ok (.iload 4, 2) := by decide +kernel
theorem d_L_law_1212 : decode (cd mL_law) 1212 = .ok (.iconst 2, 1) := by decide +kernel
theorem d_L_law_1213 : decode (cd mL_law) 1213 = .ok (.iadd, 1) := by decide +kernel
theorem d_L_law_1214 : decode (cd mL_law) 1214 = .ok (.iaload, 1) := by decide +kernel
theorem d_L_law_1215 : decode (cd mL_law) 1215 = .ok (.aload_n 0, 1) := by decide +kernel
theorem d_L_law_1216 : decode (cd mL_law) 1216 = .ok (.iload 4, 2) := by decide +kernel
theorem d_L_law_1218 : decode (cd mL_law) 1218 = .ok (.iconst 3, 1) := by decide +kernel
theorem d_L_law_1219 : decode (cd mL_law) 1219 = .ok (.iadd, 1) := by decide +kernel
theorem d_L_law_1220 : decode (cd mL_law) 1220 = .ok (.iaload, 1) := by decide +kernel
theorem d_L_law_1221 : decode (cd mL_law) 1221 = .ok (.ifCond .eq 7, 3) := by decide +kernel
theorem d_L_law_1224 : decode (cd mL_law) 1224 = .ok (.iconst 1, 1) := by decide +kernel
theorem d_L_law_1225 : decode (cd mL_law) 1225 = .ok (.goto 4, 3) := by decide +kernel
theorem d_L_law_1228 : decode (cd mL_law) 1228 = .ok (.iconst 0, 1) := by decide +kernel
theorem d_L_law_1229 : decode (cd mL_law) 1229 = .ok (.invokevirtual 171, 3) := by decide +kernel
theorem d_L_law_1232 : decode (cd mL_law) 1232 = .ok (.lcmp, 1) := by decide +kernel
theorem d_L_law_1233 : decode (cd mL_law) 1233 = .ok (.ifCond .eq 329, 3) := by decide +kernel
theorem d_L_law_1236 : decode (cd mL_law) 1236 = .ok (.iconst 0, 1) := by decide +kernel
theorem d_L_law_1237 : decode (cd mL_law) 1237 = .ok (.ireturn, 1) := by decide +kernel
theorem d_L_law_1238 : decode (cd mL_law) 1238 = .ok (.aload_n 1, 1) := by decide +kernel
theorem d_L_law_1239 : decode (cd mL_law) 1239 = .ok (.aload_n 0, 1) := by decide +kernel
theorem d_L_law_1240 : decode (cd mL_law) 1240 = .ok (.iload 4, 2) := by decide +kernel
theorem d_L_law_1242 : decode (cd mL_law) 1242 = .ok (.iconst 1, 1) := by decide +kernel
theorem d_L_law_1243 : decode (cd mL_law) 1243 = .ok (.iadd, 1) := by decide +kernel
theorem d_L_law_1244 : decode (cd mL_law) 1244 = .ok (.iaload, 1) := by decide +kernel
theorem d_L_law_1245 : decode (cd mL_law) 1245 = .ok (.aload_n 0, 1) := by decide +kernel
theorem d_L_law_1246 : decode (cd mL_law) 1246 = .ok (.iload 4, 2) := by decide +kernel
theorem d_L_law_1248 : decode (cd mL_law) 1248 = .ok (.iconst 2, 1) := by decide +kernel
theorem d_L_law_1249 : decode (cd mL_law) 1249 = .ok (.iadd, 1) := by decide +kernel
theorem d_L_law_1250 : decode (cd mL_law) 1250 = .ok (.iaload, 1) := by decide +kernel
theorem d_L_law_1251 : decode (cd mL_law) 1251 = .ok (.ifCond .eq 7, 3) := by decide +kernel
theorem d_L_law_1254 : decode (cd mL_law) 1254 = .ok (.iconst 1, 1) := by decide +kernel
theorem d_L_law_1255 : decode (cd mL_law) 1255 = .ok (.goto 4, 3) := by decide +kernel
theorem d_L_law_1258 : decode (cd mL_law) 1258 = .ok (.iconst 0, 1) := by decide +kernel
theorem d_L_law_1259 : decode (cd mL_law) 1259 = .ok (.invokevirtual 172, 3) := by decide +kernel
theorem d_L_law_1262 : decode (cd mL_law) 1262 = .ok (.aload_n 2, 1) := by decide +kernel
theorem d_L_law_1263 : decode (cd mL_law) 1263 = .ok (.aload_n 0, 1) := by decide +kernel
theorem d_L_law_1264 : decode (cd mL_law) 1264 = .ok (.iload 4, 2) := by decide +kernel
theorem d_L_law_1266 : decode (cd mL_law) 1266 = .ok (.iconst 1, 1) := by decide +kernel
theorem d_L_law_1267 : decode (cd mL_law) 1267 = .ok (.iadd, 1) := by decide +kernel
theorem d_L_law_1268 : decode (cd mL_law) 1268 = .ok (.iaload, 1) := by decide +kernel
theorem d_L_law_1269 : decode (cd mL_law) 1269 = .ok (.aload_n 0, 1) := by decide +kernel
theorem d_L_law_1270 : decode (cd mL_law) 1270 = .ok (.iload 4, 2) := by decide +kernel
theorem d_L_law_1272 : decode (cd mL_law) 1272 = .ok (.iconst 2, 1) := by decide +kernel
theorem d_L_law_1273 : decode (cd mL_law) 1273 = .ok (.iadd, 1) := by decide +kernel
theorem d_L_law_1274 : decode (cd mL_law) 1274 = .ok (.iaload, 1) := by decide +kernel
theorem d_L_law_1275 : decode (cd mL_law) 1275 = .ok (.ifCond .eq 7, 3) := by decide +kernel
theorem d_L_law_1278 : decode (cd mL_law) 1278 = .ok (.iconst 1, 1) := by decide +kernel
theorem d_L_law_1279 : decode (cd mL_law) 1279 = .ok (.goto 4, 3) := by decide +kernel
theorem d_L_law_1282 : decode (cd mL_law) 1282 = .ok (.iconst 0, 1) := by decide +kernel
theorem d_L_law_1283 : decode (cd mL_law) 1283 = .ok (.invokevirtual 176, 3) := by decide +kernel
theorem d_L_law_1286 : decode (cd mL_law) 1286 = .ok (.lcmp, 1) := by decide +kernel
theorem d_L_law_1287 : decode (cd mL_law) 1287 = .ok (.ifCond .eq 275, 3) := by decide +kernel
theorem d_L_law_1290 : decode (cd mL_law) 1290 = .ok (.iconst 0, 1) := by decide +kernel
theorem d_L_law_1291 : decode (cd mL_law) 1291 = .ok (.ireturn, 1) := by decide +kernel
theorem d_L_law_1292 : decode (cd mL_law) 1292 = .ok (.aload_n 1, 1) := by decide +kernel
theorem d_L_law_1293 : decode (cd mL_law) 1293 = .ok (.aload_n 0, 1) := by decide +kernel
theorem d_L_law_1294 : decode (cd mL_law) 1294 = .ok (.iload 4, 2) := by decide +kernel
theorem d_L_law_1296 : decode (cd mL_law) 1296 = .ok (.iconst 1, 1) := by decide +kernel
theorem d_L_law_1297 : decode (cd mL_law) 1297 = .ok (.iadd, 1) := by decide +kernel
theorem d_L_law_1298 : decode (cd mL_law) 1298 = .ok (.iaload, 1) := by decide +kernel
theorem d_L_law_1299 : decode (cd mL_law) 1299 = .ok (.aload_n 0, 1) := by decide +kernel
theorem d_L_law_1300 : decode (cd mL_law) 1300 = .ok (.iload 4, 2) := by decide +kernel
theorem d_L_law_1302 : decode (cd mL_law) 1302 = .ok (.iconst 2, 1) := by decide +kernel
theorem d_L_law_1303 : decode (cd mL_law) 1303 = .ok (.iadd, 1) := by decide +kernel
theorem d_L_law_1304 : decode (cd mL_law) 1304 = .ok (.iaload, 1) := by decide +kernel
theorem d_L_law_1305 : decode (cd mL_law) 1305 = .ok (.invokevirtual 177, 3) := by decide +kernel
theorem d_L_law_1308 : decode (cd mL_law) 1308 = .ok (.aload_n 2, 1) := by decide +kernel
theorem d_L_law_1309 : decode (cd mL_law) 1309 = .ok (.aload_n 0, 1) := by decide +kernel
theorem d_L_law_1310 : decode (cd mL_law) 1310 = .ok (.iload 4, 2) := by decide +kernel
theorem d_L_law_1312 : decode (cd mL_law) 1312 = .ok (.iconst 1, 1) := by decide +kernel
theorem d_L_law_1313 : decode (cd mL_law) 1313 = .ok (.iadd, 1) := by decide +kernel
theorem d_L_law_1314 : decode (cd mL_law) 1314 = .ok (.iaload, 1) := by decide +kernel
theorem d_L_law_1315 : decode (cd mL_law) 1315 = .ok (.aload_n 0, 1) := by decide +kernel
theorem d_L_law_1316 : decode (cd mL_law) 1316 = .ok (.iload 4, 2) := by decide +kernel
theorem d_L_law_1318 : decode (cd mL_law) 1318 = .ok (.iconst 2, 1) := by decide +kernel
theorem d_L_law_1319 : decode (cd mL_law) 1319 = .ok (.iadd, 1) := by decide +kernel
theorem d_L_law_1320 : decode (cd mL_law) 1320 = .ok (.iaload, 1) := by decide +kernel
theorem d_L_law_1321 : decode (cd mL_law) 1321 = .ok (.invokevirtual 180, 3) := by decide +kernel
theorem d_L_law_1324 : decode (cd mL_law) 1324 = .ok (.if_icmp .eq 238, 3) := by decide +kernel
theorem d_L_law_1327 : decode (cd mL_law) 1327 = .ok (.iconst 0, 1) := by decide +kernel
theorem d_L_law_1328 : decode (cd mL_law) 1328 = .ok (.ireturn, 1) := by decide +kernel
theorem d_L_law_1329 : decode (cd mL_law) 1329 = .ok (.aload_n 1, 1) := by decide +kernel
theorem d_L_law_1330 : decode (cd mL_law) 1330 = .ok (.aload_n 0, 1) := by decide +kernel
theorem d_L_law_1331 : decode (cd mL_law) 1331 = .ok (.iload 4, 2) := by decide +kernel
theorem d_L_law_1333 : decode (cd mL_law) 1333 = .ok (.iconst 1, 1) := by decide +kernel
theorem d_L_law_1334 : decode (cd mL_law) 1334 = .ok (.iadd, 1) := by decide +kernel
theorem d_L_law_1335 : decode (cd mL_law) 1335 = .ok (.iaload, 1) := by decide +kernel
theorem d_L_law_1336 : decode (cd mL_law) 1336 = .ok (.aload_n 0, 1) := by decide +kernel
theorem d_L_law_1337 : decode (cd mL_law) 1337 = .ok (.iload 4, 2) := by decide +kernel
theorem d_L_law_1339 : decode (cd mL_law) 1339 = .ok (.iconst 2, 1) := by decide +kernel
theorem d_L_law_1340 : decode (cd mL_law) 1340 = .ok (.iadd, 1) := by decide +kernel
theorem d_L_law_1341 : decode (cd mL_law) 1341 = .ok (.iaload, 1) := by decide +kernel
theorem d_L_law_1342 : decode (cd mL_law) 1342 = .ok (.invokevirtual 181, 3) := by decide +kernel
theorem d_L_law_1345 : decode (cd mL_law) 1345 = .ok (.aload_n 2, 1) := by decide +kernel
theorem d_L_law_1346 : decode (cd mL_law) 1346 = .ok (.aload_n 0, 1) := by decide +kernel
theorem d_L_law_1347 : decode (cd mL_law) 1347 = .ok (.iload 4, 2) := by decide +kernel
theorem d_L_law_1349 : decode (cd mL_law) 1349 = .ok (.iconst 1, 1) := by decide +kernel
theorem d_L_law_1350 : decode (cd mL_law) 1350 = .ok (.iadd, 1) := by decide +kernel
theorem d_L_law_1351 : decode (cd mL_law) 1351 = .ok (.iaload, 1) := by decide +kernel
theorem d_L_law_1352 : decode (cd mL_law) 1352 = .ok (.aload_n 0, 1) := by decide +kernel
theorem d_L_law_1353 : decode (cd mL_law) 1353 = .ok (.iload 4, 2) := by decide +kernel
theorem d_L_law_1355 : decode (cd mL_law) 1355 = .ok (.iconst 2, 1) := by decide +kernel
theorem d_L_law_1356 : decode (cd mL_law) 1356 = .ok (.iadd, 1) := by decide +kernel
theorem d_L_law_1357 : decode (cd mL_law) 1357 = .ok (.iaload, 1) := by decide +kernel
theorem d_L_law_1358 : decode (cd mL_law) 1358 = .ok (.invokevirtual 184, 3) := by decide +kernel
theorem d_L_law_1361 : decode (cd mL_law) 1361 = .ok (.if_icmp .eq 201, 3) := by decide +kernel
theorem d_L_law_1364 : decode (cd mL_law) 1364 = .ok (.iconst 0, 1) := by decide +kernel
theorem d_L_law_1365 : decode (cd mL_law) 1365 = .ok (.ireturn, 1) := by decide +kernel
theorem d_L_law_1366 : decode (cd mL_law) 1366 = .ok (.aload_n 1, 1) := by decide +kernel
theorem d_L_law_1367 : decode (cd mL_law) 1367 = .ok (.aload_n 0, 1) := by decide +kernel
theorem d_L_law_1368 : decode (cd mL_law) 1368 = .ok (.iload 4, 2) := by decide +kernel
theorem d_L_law_1370 : decode (cd mL_law) 1370 = .ok (.iconst 1, 1) := by decide +kernel
theorem d_L_law_1371 : decode (cd mL_law) 1371 = .ok (.iadd, 1) := by decide +kernel
theorem d_L_law_1372 : decode (cd mL_law) 1372 = .ok (.iaload, 1) := by decide +kernel
theorem d_L_law_1373 : decode (cd mL_law) 1373 = .ok (.invokevirtual 185, 3) := by decide +kernel
theorem d_L_law_1376 : decode (cd mL_law) 1376 = .ok (.aload_n 2, 1) := by decide +kernel
theorem d_L_law_1377 : decode (cd mL_law) 1377 = .ok (.aload_n 0, 1) := by decide +kernel
theorem d_L_law_1378 : decode (cd mL_law) 1378 = .ok (.iload 4, 2) := by decide +kernel
theorem d_L_law_1380 : decode (cd mL_law) 1380 = .ok (.iconst 1, 1) := by decide +kernel
theorem d_L_law_1381 : decode (cd mL_law) 1381 = .ok (.iadd, 1) := by decide +kernel
theorem d_L_law_1382 : decode (cd mL_law) 1382 = .ok (.iaload, 1) := by decide +kernel
theorem d_L_law_1383 : decode (cd mL_law) 1383 = .ok (.invokevirtual 189, 3) := by decide +kernel
theorem d_L_law_1386 : decode (cd mL_law) 1386 = .ok (.if_icmp .eq 176, 3) := by decide +kernel
theorem d_L_law_1389 : decode (cd mL_law) 1389 = .ok (.iconst 0, 1) := by decide +kernel
theorem d_L_law_1390 : decode (cd mL_law) 1390 = .ok (.ireturn, 1) := by decide +kernel
theorem d_L_law_1391 : decode (cd mL_law) 1391 = .ok (.aload_n 1, 1) := by decide +kernel
theorem d_L_law_1392 : decode (cd mL_law) 1392 = .ok (.invokevirtual 190, 3) := by decide +kernel
theorem d_L_law_1395 : decode (cd mL_law) 1395 = .ok (.aload_n 2, 1) := by decide +kernel
theorem d_L_law_1396 : decode (cd mL_law) 1396 = .ok (.invokevirtual 193, 3) := by decide +kernel
theorem d_L_law_1399 : decode (cd mL_law) 1399 = .ok (.if_icmp .eq 163, 3) := by decide +kernel
theorem d_L_law_1402 : decode (cd mL_law) 1402 = .ok (.iconst 0, 1) := by decide +kernel
theorem d_L_law_1403 : decode (cd mL_law) 1403 = .ok (.ireturn, 1) := by decide +kernel
theorem d_L_law_1404 : decode (cd mL_law) 1404 = .ok (.aload_n 1, 1) := by decide +kernel
theorem d_L_law_1405 : decode (cd mL_law) 1405 = .ok (.invokevirtual 194, 3) := by decide +kernel
theorem d_L_law_1408 : decode (cd mL_law) 1408 = .ok (.aload_n 2, 1) := by decide +kernel
theorem d_L_law_1409 : decode (cd mL_law) 1409 = .ok (.invokevirtual 197, 3) := by decide +kernel
theorem d_L_law_1412 : decode (cd mL_law) 1412 = .ok (.if_icmp .eq 150, 3) := by decide +kernel
theorem d_L_law_1415 : decode (cd mL_law) 1415 = .ok (.iconst 0, 1) := by decide +kernel
theorem d_L_law_1416 : decode (cd mL_law) 1416 = .ok (.ireturn, 1) := by decide +kernel
theorem d_L_law_1417 : decode (cd mL_law) 1417 = .ok (.aload_n 1, 1) := by decide +kernel
theorem d_L_law_1418 : decode (cd mL_law) 1418 = .ok (.invokevirtual 198, 3) := by decide +kernel
theorem d_L_law_1421 : decode (cd mL_law) 1421 = .ok (.aload_n 2, 1) := by decide +kernel
theorem d_L_law_1422 : decode (cd mL_law) 1422 = .ok (.invokevirtual 202, 3) := by decide +kernel
theorem d_L_law_1425 : decode (cd mL_law) 1425 = .ok (.if_icmp .eq 137, 3) := by decide +kernel
theorem d_L_law_1428 : decode (cd mL_law) 1428 = .ok (.iconst 0, 1) := by decide +kernel
theorem d_L_law_1429 : decode (cd mL_law) 1429 = .ok (.ireturn, 1) := by decide +kernel
theorem d_L_law_1430 : decode (cd mL_law) 1430 = .ok (.aload_n 1, 1) := by decide +kernel
theorem d_L_law_1431 : decode (cd mL_law) 1431 = .ok (.invokevirtual 203, 3) := by decide +kernel
theorem d_L_law_1434 : decode (cd mL_law) 1434 = .ok (.aload_n 2, 1) := by decide +kernel
theorem d_L_law_1435 : decode (cd mL_law) 1435 = .ok (.invokevirtual 206, 3) := by decide +kernel
theorem d_L_law_1438 : decode (cd mL_law) 1438 = .ok (.if_icmp .eq 124, 3) := by decide +kernel
theorem d_L_law_1441 : decode (cd mL_law) 1441 = .ok (.iconst 0, 1) := by decide +kernel
theorem d_L_law_1442 : decode (cd mL_law) 1442 = .ok (.ireturn, 1) := by decide +kernel
theorem d_L_law_1443 : decode (cd mL_law) 1443 = .ok (.aload_n 1, 1) := by decide +kernel
theorem d_L_law_1444 : decode (cd mL_law) 1444 = .ok (.aload_n 0, 1) := by decide +kernel
theorem d_L_law_1445 : decode (cd mL_law) 1445 = .ok (.iload 4, 2) := by decide +kernel
theorem d_L_law_1447 : decode (cd mL_law) 1447 = .ok (.iconst 1, 1) := by decide +kernel
theorem d_L_law_1448 : decode (cd mL_law) 1448 = .ok (.iadd, 1) := by decide +kernel
theorem d_L_law_1449 : decode (cd mL_law) 1449 = .ok (.iaload, 1) := by decide +kernel
theorem d_L_law_1450 : decode (cd mL_law) 1450 = .ok (.invokevirtual 207, 3) := by decide +kernel
theorem d_L_law_1453 : decode (cd mL_law) 1453 = .ok (.aload_n 2, 1) := by decide +kernel
theorem d_L_law_1454 : decode (cd mL_law) 1454 = .ok (.aload_n 0, 1) := by decide +kernel
theorem d_L_law_1455 : decode (cd mL_law) 1455 = .ok (.iload 4, 2) := by decide +kernel
theorem d_L_law_1457 : decode (cd mL_law) 1457 = .ok (.iconst 1, 1) := by decide +kernel
theorem d_L_law_1458 : decode (cd mL_law) 1458 = .ok (.iadd, 1) := by decide +kernel
theorem d_L_law_1459 : decode (cd mL_law) 1459 = .ok (.iaload, 1) := by decide +kernel
theorem d_L_law_1460 : decode (cd mL_law) 1460 = .ok (.invokevirtual 210, 3) := by decide +kernel
theorem d_L_law_1463 : decode (cd mL_law) 1463 = .ok (.if_icmp .eq 99, 3) := by decide +kernel
theorem d_L_law_1466 : decode (cd mL_law) 1466 = .ok (.iconst 0, 1) := by decide +kernel
theorem d_L_law_1467 : decode (cd mL_law) 1467 = .ok (.ireturn, 1) := by decide +kernel
theorem d_L_law_1468 : decode (cd mL_law) 1468 = .ok (.aload_n 1, 1) := by decide +kernel
theorem d_L_law_1469 : decode (cd mL_law) 1469 = .ok (.aload_n 0, 1) := by decide +kernel
theorem d_L_law_1470 : decode (cd mL_law) 1470 = .ok (.iload 4, 2) := by decide +kernel
theorem d_L_law_1472 : decode (cd mL_law) 1472 = .ok (.iconst 1, 1) := by decide +kernel
theorem d_L_law_1473 : decode (cd mL_law) 1473 = .ok (.iadd, 1) := by decide +kernel
theorem d_L_law_1474 : decode (cd mL_law) 1474 = .ok (.iaload, 1) := by decide +kernel
theorem d_L_law_1475 : decode (cd mL_law) 1475 = .ok (.aload_n 3, 1) := by decide +kernel
theorem d_L_law_1476 : decode (cd mL_law) 1476 = .ok (.invokestatic 211, 3) := by decide +kernel
theorem d_L_law_1479 : decode (cd mL_law) 1479 = .ok (.istore 5, 2) := by decide +kernel
theorem d_L_law_1481 : decode (cd mL_law) 1481 = .ok (.aload_n 2, 1) := by decide +kernel
theorem d_L_law_1482 : decode (cd mL_law) 1482 = .ok (.aload_n 0, 1) := by decide +kernel
theorem d_L_law_1483 : decode (cd mL_law) 1483 = .ok (.iload 4, 2) := by decide +kernel
theorem d_L_law_1485 : decode (cd mL_law) 1485 = .ok (.iconst 1, 1) := by decide +kernel
theorem d_L_law_1486 : decode (cd mL_law) 1486 = .ok (.iadd, 1) := by decide +kernel
theorem d_L_law_1487 : decode (cd mL_law) 1487 = .ok (.iaload, 1) := by decide +kernel
theorem d_L_law_1488 : decode (cd mL_law) 1488 = .ok (.invokevirtual 216, 3) := by decide +kernel
theorem d_L_law_1491 : decode (cd mL_law) 1491 = .ok (.istore 6, 2) := by decide +kernel
theorem d_L_law_1493 : decode (cd mL_law) 1493 = .ok (.aload_n 2, 1) := by decide +kernel
theorem d_L_law_1494 : decode (cd mL_law) 1494 = .ok (.invokevirtual 217, 3) := by decide +kernel
theorem d_L_law_1497 : decode (cd mL_law) 1497 = .ok (.iload 5, 2) := by decide +kernel
theorem d_L_law_1499 : decode (cd mL_law) 1499 = .ok (.if_icmp .eq 5, 3) := by decide +kernel
theorem d_L_law_1502 : decode (cd mL_law) 1502 = .ok (.iconst 0, 1) := by decide +kernel
theorem d_L_law_1503 : decode (cd mL_law) 1503 = .ok (.ireturn, 1) := by decide +kernel
theorem d_L_law_1504 : decode (cd mL_law) 1504 = .ok (.iload 5, 2) := by decide +kernel
theorem d_L_law_1506 : decode (cd mL_law) 1506 = .ok (.ifCond .ne 15, 3) := by decide +kernel
theorem d_L_law_1509 : decode (cd mL_law) 1509 = .ok (.aload_n 3, 1) := by decide +kernel
theorem d_L_law_1510 : decode (cd mL_law) 1510 = .ok (.iconst 0, 1) := by decide +kernel
theorem d_L_law_1511 : decode (cd mL_law) 1511 = .ok (.laload, 1) := by decide +kernel
theorem d_L_law_1512 : decode (cd mL_law) 1512 = .ok (.iload 6, 2) := by decide +kernel
theorem d_L_law_1514 : decode (cd mL_law) 1514 = .ok (.i2l, 1) := by decide +kernel
theorem d_L_law_1515 : decode (cd mL_law) 1515 = .ok (.lcmp, 1) := by decide +kernel
theorem d_L_law_1516 : decode (cd mL_law) 1516 = .ok (.ifCond .eq 5, 3) := by decide +kernel
theorem d_L_law_1519 : decode (cd mL_law) 1519 = .ok (.iconst 0, 1) := by decide +kernel
theorem d_L_law_1520 : decode (cd mL_law) 1520 = .ok (.ireturn, 1) := by decide +kernel
theorem d_L_law_1521 : decode (cd mL_law) 1521 = .ok (.goto 41, 3) := by decide +kernel
theorem d_L_law_1524 : decode (cd mL_law) 1524 = .ok (.aload_n 1, 1) := by decide +kernel
theorem d_L_law_1525 : decode (cd mL_law) 1525 = .ok (.aload_n 0, 1) := by decide +kernel
theorem d_L_law_1526 : decode (cd mL_law) 1526 = .ok (.iload 4, 2) := by decide +kernel
theorem d_L_law_1528 : decode (cd mL_law) 1528 = .ok (.iconst 1, 1) := by decide +kernel
theorem d_L_law_1529 : decode (cd mL_law) 1529 = .ok (.iadd, 1) := by decide +kernel
theorem d_L_law_1530 : decode (cd mL_law) 1530 = .ok (.iaload, 1) := by decide +kernel
theorem d_L_law_1531 : decode (cd mL_law) 1531 = .ok (.invokevirtual 220, 3) := by decide +kernel
theorem d_L_law_1534 : decode (cd mL_law) 1534 = .ok (.aload_n 2, 1) := by decide +kernel
theorem d_L_law_1535 : decode (cd mL_law) 1535 = .ok (.aload_n 0, 1) := by decide +kernel
theorem d_L_law_1536 : decode (cd mL_law) 1536 = .ok (.iload 4, 2) := by decide +kernel
theorem d_L_law_1538 : decode (cd mL_law) 1538 = .ok (.iconst 1, 1) := by decide +kernel
theorem d_L_law_1539 : decode (cd mL_law) 1539 = .ok (.iadd, 1) := by decide +kernel
theorem d_L_law_1540 : decode (cd mL_law) 1540 = .ok (.iaload, 1) := by decide +kernel
theorem d_L_law_1541 : decode (cd mL_law) 1541 = .ok (.invokevirtual 223, 3) := by decide +kernel
theorem d_L_law_1544 : decode (cd mL_law) 1544 = .ok (.if_icmp .eq 18, 3) := by decide +kernel
theorem d_L_law_1547 : decode (cd mL_law) 1547 = .ok (.iconst 0, 1) := by decide +kernel
theorem d_L_law_1548 : decode (cd mL_law) 1548 = .ok (.ireturn, 1) := by decide +kernel
theorem d_L_law_1549 : decode (cd mL_law) 1549 = .ok (.aload_n 1, 1) := by decide +kernel
theorem d_L_law_1550 : decode (cd mL_law) 1550 = .ok (.invokevirtual 224, 3) := by decide +kernel
theorem d_L_law_1553 : decode (cd mL_law) 1553 = .ok (.aload_n 2, 1) := by decide +kernel
theorem d_L_law_1554 : decode (cd mL_law) 1554 = .ok (.invokevirtual 227, 3) := by decide +kernel
theorem d_L_law_1557 : decode (cd mL_law) 1557 = .ok (.if_icmp .eq 5, 3) := by decide +kernel
theorem d_L_law_1560 : decode (cd mL_law) 1560 = .ok (.iconst 0, 1) := by decide +kernel
theorem d_L_law_1561 : decode (cd mL_law) 1561 = .ok (.ireturn, 1) := by decide +kernel
theorem d_L_law_1562 : decode (cd mL_law) 1562 = .ok (.iinc 4 6, 3) := by decide +kernel
theorem d_L_law_1565 : decode (cd mL_law) 1565 = .ok (.goto (-1542), 3) := by decide +kernel
theorem d_L_law_1568 : decode (cd mL_law) 1568 = .ok (.iconst 1, 1) := by decide +kernel
theorem d_L_law_1569 : decode (cd mL_law) 1569 = .ok (.ireturn, 1) := by decide +kernel
