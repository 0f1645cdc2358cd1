theorem d_La_law_285 : decode code 285 = .ok (.i2l, 1) := by decide +kernel
theorem d_La_law_286 : decode code 286 = .ok (.bipush 32, 2) := by decide +kernel
theorem d_La_law_288 : decode code 288 = .ok (.lshl, 1) := by decide +kernel
theorem d_La_law_289 : decode code 289 = .ok (.aload_n 0, 1) := by decide +kernel
theorem d_La_law_290 : decode code 290 = .ok (.iload 4, 2) := by decide +kernel
theorem d_La_law_292 : decode code 292 = .ok (.iconst 2, 1) := by decide +kernel
theorem d_La_law_293 : decode code 293 = .ok (.iadd, 1) := by decide +kernel
theorem d_La_law_294 : decode code 294 = .ok (.iaload, 1) := by decide +kernel
theorem d_La_law_295 : decode code 295 = .ok (.i2l, 1) := by decide +kernel
theorem d_La_law_296 : decode code 296 = .ok (.ldc2_w 89, 3) := by decide +kernel
theorem d_La_law_299 : decode code 299 = .ok (.land, 1) := by decide +kernel
theorem d_La_law_300 : decode code 300 = .ok (.lor, 1) := by decide +kernel
theorem d_La_law_301 : decode code 301 = .ok (.aload_n 0, 1) := by decide +kernel
theorem d_La_law_302 : decode code 302 = .ok (.iload 4, 2) := by decide +kernel
theorem d_La_law_304 : decode code 304 = .ok (.iconst 3, 1) := by decide +kernel
theorem d_La_law_305 : decode code 305 = .ok (.iadd, 1) := by decide +kernel
theorem d_La_law_306 : decode code 306 = .ok (.iaload, 1) := by decide +kernel
theorem d_La_law_307 : decode code 307 = .ok (.i2l, 1) := by decide +kernel
theorem d_La_law_308 : decode code 308 = .ok (.bipush 32, 2) := by decide +kernel
theorem d_La_law_310 : decode code 310 = .ok (.lshl, 1) := by decide +kernel
theorem d_La_law_311 : decode code 311 = .ok (.aload_n 0, 1) := by decide +kernel
theorem d_La_law_312 : decode code 312 = .ok (.iload 4, 2) := by decide +kernel
theorem d_La_law_314 : decode code 314 = .ok (.iconst 4, 1) := by decide +kernel
theorem d_La_law_315 : decode code 315 = .ok (.iadd, 1) := by decide +kernel
theorem d_La_law_316 : decode code 316 = .ok (.iaload, 1) := by decide +kernel
theorem d_La_law_317 : decode code 317 = .ok (.i2l, 1) := by decide +kernel
theorem d_La_law_318 : decode code 318 = .ok (.ldc2_w 89, 3) := by decide +kernel
theorem d_La_law_321 : decode code 321 = .ok (.land, 1) := by decide +kernel
theorem d_La_law_322 : decode code 322 = .ok (.lor, 1) := by decide +kernel
theorem d_La_law_323 : decode code 323 = .ok (.invokevirtual 101, 3) := by decide +kernel
theorem d_La_law_326 : decode code 326 = .ok (.aload_n 2, 1) := by decide +kernel
theorem d_La_law_327 : decode code 327 = .ok (.invokevirtual 95, 3) := by decide +kernel
theorem d_La_law_330 : decode code 330 = .ok (.iload 5, 2) := by decide +kernel
theorem d_La_law_332 : decode code 332 = .ok (.if_icmp .eq 5, 3) := by decide +kernel
theorem d_La_law_335 : decode code 335 = .ok (.iconst 0, 1) := by decide +kernel
theorem d_La_law_336 : decode code 336 = .ok (.ireturn, 1) := by decide +kernel
theorem d_La_law_337 : decode code 337 = .ok (.goto 908, 3) := by decide +kernel
theorem d_La_law_340 : decode code 340 = .ok (.aload_n 1, 1) := by decide +kernel
theorem d_La_law_341 : decode code 341 = .ok (.aload_n 0, 1) := by decide +kernel
theorem d_La_law_342 : decode code 342 = .ok (.iload 4, 2) := by decide +kernel
theorem d_La_law_344 : decode code 344 = .ok (.iconst 1, 1) := by decide +kernel
theorem d_La_law_345 : decode code 345 = .ok (.iadd, 1) := by decide +kernel
theorem d_La_law_346 : decode code 346 = .ok (.iaload, 1) := by decide +kernel
theorem d_La_law_347 : decode code 347 = .ok (.aload_n 3, 1) := by decide +kernel
theorem d_La_law_348 : decode code 348 = .ok (.invokestatic 102, 3) := by decide +kernel
theorem d_La_law_351 : decode code 351 = .ok (.istore 5, 2) := by decide +kernel
theorem d_La_law_353 : decode code 353 = .ok (.aload_n 2, 1) := by decide +kernel
theorem d_La_law_354 : decode code 354 = .ok (.aload_n 0, 1) := by decide +kernel
theorem d_La_law_355 : decode code 355 = .ok (.iload 4, 2) := by decide +kernel
theorem d_La_law_357 : decode code 357 = .ok (.iconst 1, 1) := by decide +kernel
theorem d_La_law_358 : decode code 358 = .ok (.iadd, 1) := by decide +kernel
theorem d_La_law_359 : decode code 359 = .ok (.iaload, 1) := by decide +kernel
theorem d_La_law_360 : decode code 360 = .ok (.invokevirtual 105, 3) := by decide +kernel
theorem d_La_law_363 : decode code 363 = .ok (.istore 6, 2) := by decide +kernel
theorem d_La_law_365 : decode code 365 = .ok (.aload_n 2, 1) := by decide +kernel
theorem d_La_law_366 : decode code 366 = .ok (.invokevirtual 95, 3) := by decide +kernel
theorem d_La_law_369 : decode code 369 = .ok (.iload 5, 2) := by decide +kernel
theorem d_La_law_371 : decode code 371 = .ok (.if_icmp .eq 5, 3) := by decide +kernel
theorem d_La_law_374 : decode code 374 = .ok (.iconst 0, 1) := by decide +kernel
theorem d_La_law_375 : decode code 375 = .ok (.ireturn, 1) := by decide +kernel
theorem d_La_law_376 : decode code 376 = .ok (.iload 5, 2) := by decide +kernel
theorem d_La_law_378 : decode code 378 = .ok (.ifCond .ne 15, 3) := by decide +kernel
theorem d_La_law_381 : decode code 381 = .ok (.aload_n 3, 1) := by decide +kernel
theorem d_La_law_382 : decode code 382 = .ok (.iconst 0, 1) := by decide +kernel
theorem d_La_law_383 : decode code 383 = .ok (.laload, 1) := by decide +kernel
theorem d_La_law_384 : decode code 384 = .ok (.iload 6, 2) := by decide +kernel
theorem d_La_law_386 : decode code 386 = .ok (.i2l, 1) := by decide +kernel
theorem d_La_law_387 : decode code 387 = .ok (.lcmp, 1) := by decide +kernel
theorem d_La_law_388 : decode code 388 = .ok (.ifCond .eq 5, 3) := by decide +kernel
theorem d_La_law_391 : decode code 391 = .ok (.iconst 0, 1) := by decide +kernel
theorem d_La_law_392 : decode code 392 = .ok (.ireturn, 1) := by decide +kernel
theorem d_La_law_393 : decode code 393 = .ok (.goto 852, 3) := by decide +kernel
theorem d_La_law_396 : decode code 396 = .ok (.aload_n 1, 1) := by decide +kernel
theorem d_La_law_397 : decode code 397 = .ok (.invokevirtual 106, 3) := by decide +kernel
theorem d_La_law_400 : decode code 400 = .ok (.aload_n 2, 1) := by decide +kernel
theorem d_La_law_401 : decode code 401 = .ok (.invokevirtual 109, 3) := by decide +kernel
theorem d_La_law_404 : decode code 404 = .ok (.goto 841, 3) := by decide +kernel
theorem d_La_law_407 : decode code 407 = .ok (.aload_n 1, 1) := by decide +kernel
theorem d_La_law_408 : decode code 408 = .ok (.invokevirtual 110, 3) := by decide +kernel
theorem d_La_law_411 : decode code 411 = .ok (.aload_n 2, 1) := by decide +kernel
theorem d_La_law_412 : decode code 412 = .ok (.invokevirtual 113, 3) := by decide +kernel
theorem d_La_law_415 : decode code 415 = .ok (.goto 830, 3) := by decide +kernel
theorem d_La_law_418 : decode code 418 = .ok (.aload_n 1, 1) := by decide +kernel
theorem d_La_law_419 : decode code 419 = .ok (.invokestatic 114, 3) := by decide +kernel
theorem d_La_law_422 : decode code 422 = .ok (.istore 5, 2) := by decide +kernel
theorem d_La_law_424 : decode code 424 = .ok (.aload_n 2, 1) := by decide +kernel
theorem d_La_law_425 : decode code 425 = .ok (.invokevirtual 117, 3) := by decide +kernel
theorem d_La_law_428 : decode code 428 = .ok (.aload_n 2, 1) := by decide +kernel
theorem d_La_law_429 : decode code 429 = .ok (.invokevirtual 95, 3) := by decide +kernel
theorem d_La_law_432 : decode code 432 = .ok (.iload 5, 2) := by decide +kernel
theorem d_La_law_434 : decode code 434 = .ok (.if_icmp .eq 5, 3) := by decide +kernel
theorem d_La_law_437 : decode code 437 = .ok (.iconst 0, 1) := by decide +kernel
theorem d_La_law_438 : decode code 438 = .ok (.ireturn, 1) := by decide +kernel
theorem d_La_law_439 : decode code 439 = .ok (.goto 806, 3) := by decide +kernel
theorem d_La_law_442 : decode code 442 = .ok (.aload_n 1, 1) := by decide +kernel
theorem d_La_law_443 : decode code 443 = .ok (.aload_n 0, 1) := by decide +kernel
theorem d_La_law_444 : decode code 444 = .ok (.iload 4, 2) := by decide +kernel
theorem d_La_law_446 : decode code 446 = .ok (.iconst 1, 1) := by decide +kernel
theorem d_La_law_447 : decode code 447 = .ok (.iadd, 1) := by decide +kernel
theorem d_La_law_448 : decode code 448 = .ok (.iaload, 1) := by decide +kernel
theorem d_La_law_449 : decode code 449 = .ok (.i2l, 1) := by decide +kernel
theorem d_La_law_450 : decode code 450 = .ok (.bipush 32, 2) := by decide +kernel
theorem d_La_law_452 : decode code 452 = .ok (.lshl, 1) := by decide +kernel
theorem d_La_law_453 : decode code 453 = .ok (.aload_n 0, 1) := by decide +kernel
theorem d_La_law_454 : decode code 454 = .ok (.iload 4, 2) := by decide +kernel
theorem d_La_law_456 : decode code 456 = .ok (.iconst 2, 1) := by decide +kernel
theorem d_La_law_457 : decode code 457 = .ok (.iadd, 1) := by decide +kernel
theorem d_La_law_458 : decode code 458 = .ok (.iaload, 1) := by decide +kernel
theorem d_La_law_459 : decode code 459 = .ok (.i2l, 1) := by decide +kernel
theorem d_La_law_460 : decode code 460 = .ok (.ldc2_w 89, 3) := by decide +kernel
theorem d_La_law_463 : decode code 463 = .ok (.land, 1) := by decide +kernel
theorem d_La_law_464 : decode code 464 = .ok (.lor, 1) := by decide +kernel
theorem d_La_law_465 : decode code 465 = .ok (.aload_n 3, 1) := by decide +kernel
theorem d_La_law_466 : decode code 466 = .ok (.invokestatic 118, 3) := by decide +kernel
theorem d_La_law_469 : decode code 469 = .ok (.istore 5, 2) := by decide +kernel
theorem d_La_law_471 : decode code 471 = .ok (.aload_n 2, 1) := by decide +kernel
theorem d_La_law_472 : decode code 472 = .ok (.aload_n 0, 1) := by decide +kernel
theorem d_La_law_473 : decode code 473 = .ok (.iload 4, 2) := by decide +kernel
theorem d_La_law_475 : decode code 475 = .ok (.iconst 1, 1) := by decide +kernel
theorem d_La_law_476 : decode code 476 = .ok (.iadd, 1) := by decide +kernel
