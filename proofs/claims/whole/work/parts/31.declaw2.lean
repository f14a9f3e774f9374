theorem dLL_law_357 : decode cLL_law 357 = .ok (.iload 4, 2) := by decide +kernel
theorem dLL_law_359 : decode cLL_law 359 = .ok (.iconst 2, 1) := by decide +kernel
theorem dLL_law_360 : decode cLL_law 360 = .ok (.iadd, 1) := by decide +kernel
theorem dLL_law_361 : decode cLL_law 361 = .ok (.iaload, 1) := by decide +kernel
theorem dLL_law_362 : decode cLL_law 362 = .ok (.invokevirtual 72, 3) := by decide +kernel
theorem dLL_law_365 : decode cLL_law 365 = .ok (.aload_n 2, 1) := by decide +kernel
theorem dLL_law_366 : decode cLL_law 366 = .ok (.aload_n 0, 1) := by decide +kernel
theorem dLL_law_367 : decode cLL_law 367 = .ok (.iload 4, 2) := by decide +kernel
theorem dLL_law_369 : decode cLL_law 369 = .ok (.iconst 1, 1) := by decide +kernel
theorem dLL_law_370 : decode cLL_law 370 = .ok (.iadd, 1) := by decide +kernel
theorem dLL_law_371 : decode cLL_law 371 = .ok (.iaload, 1) := by decide +kernel
theorem dLL_law_372 : decode cLL_law 372 = .ok (.aload_n 0, 1) := by decide +kernel
theorem dLL_law_373 : decode cLL_law 373 = .ok (.iload 4, 2) := by decide +kernel
theorem dLL_law_375 : decode cLL_law 375 = .ok (.iconst 2, 1) := by decide +kernel
theorem dLL_law_376 : decode cLL_law 376 = .ok (.iadd, 1) := by decide +kernel
theorem dLL_law_377 : decode cLL_law 377 = .ok (.iaload, 1) := by decide +kernel
theorem dLL_law_378 : decode cLL_law 378 = .ok (.invokevirtual 75, 3) := by decide +kernel
theorem dLL_law_381 : decode cLL_law 381 = .ok (.if_icmp .eq 242, 3) := by decide +kernel
theorem dLL_law_384 : decode cLL_law 384 = .ok (.iconst 0, 1) := by decide +kernel
theorem dLL_law_385 : decode cLL_law 385 = .ok (.ireturn, 1) := by decide +kernel
theorem dLL_law_386 : decode cLL_law 386 = .ok (.aload_n 1, 1) := by decide +kernel
theorem dLL_law_387 : decode cLL_law 387 = .ok (.aload_n 0, 1) := by decide +kernel
theorem dLL_law_388 : decode cLL_law 388 = .ok (.iload 4, 2) := by decide +kernel
theorem dLL_law_390 : decode cLL_law 390 = .ok (.iconst 1, 1) := by decide +kernel
theorem dLL_law_391 : decode cLL_law 391 = .ok (.iadd, 1) := by decide +kernel
theorem dLL_law_392 : decode cLL_law 392 = .ok (.iaload, 1) := by decide +kernel
theorem dLL_law_393 : decode cLL_law 393 = .ok (.aload_n 3, 1) := by decide +kernel
theorem dLL_law_394 : decode cLL_law 394 = .ok (.invokestatic 76, 3) := by decide +kernel
theorem dLL_law_397 : decode cLL_law 397 = .ok (.istore 5, 2) := by decide +kernel
theorem dLL_law_399 : decode cLL_law 399 = .ok (.aload_n 2, 1) := by decide +kernel
theorem dLL_law_400 : decode cLL_law 400 = .ok (.aload_n 0, 1) := by decide +kernel
theorem dLL_law_401 : decode cLL_law 401 = .ok (.iload 4, 2) := by decide +kernel
theorem dLL_law_403 : decode cLL_law 403 = .ok (.iconst 1, 1) := by decide +kernel
theorem dLL_law_404 : decode cLL_law 404 = .ok (.iadd, 1) := by decide +kernel
theorem dLL_law_405 : decode cLL_law 405 = .ok (.iaload, 1) := by decide +kernel
theorem dLL_law_406 : decode cLL_law 406 = .ok (.invokevirtual 79, 3) := by decide +kernel
theorem dLL_law_409 : decode cLL_law 409 = .ok (.istore 6, 2) := by decide +kernel
theorem dLL_law_411 : decode cLL_law 411 = .ok (.aload_n 2, 1) := by decide +kernel
theorem dLL_law_412 : decode cLL_law 412 = .ok (.invokevirtual 52, 3) := by decide +kernel
theorem dLL_law_415 : decode cLL_law 415 = .ok (.iload 5, 2) := by decide +kernel
theorem dLL_law_417 : decode cLL_law 417 = .ok (.if_icmp .eq 5, 3) := by decide +kernel
theorem dLL_law_420 : decode cLL_law 420 = .ok (.iconst 0, 1) := by decide +kernel
theorem dLL_law_421 : decode cLL_law 421 = .ok (.ireturn, 1) := by decide +kernel
theorem dLL_law_422 : decode cLL_law 422 = .ok (.iload 5, 2) := by decide +kernel
theorem dLL_law_424 : decode cLL_law 424 = .ok (.ifCond .ne 15, 3) := by decide +kernel
theorem dLL_law_427 : decode cLL_law 427 = .ok (.aload_n 3, 1) := by decide +kernel
theorem dLL_law_428 : decode cLL_law 428 = .ok (.iconst 0, 1) := by decide +kernel
theorem dLL_law_429 : decode cLL_law 429 = .ok (.laload, 1) := by decide +kernel
theorem dLL_law_430 : decode cLL_law 430 = .ok (.iload 6, 2) := by decide +kernel
theorem dLL_law_432 : decode cLL_law 432 = .ok (.i2l, 1) := by decide +kernel
theorem dLL_law_433 : decode cLL_law 433 = .ok (.lcmp, 1) := by decide +kernel
theorem dLL_law_434 : decode cLL_law 434 = .ok (.ifCond .eq 5, 3) := by decide +kernel
theorem dLL_law_437 : decode cLL_law 437 = .ok (.iconst 0, 1) := by decide +kernel
theorem dLL_law_438 : decode cLL_law 438 = .ok (.ireturn, 1) := by decide +kernel
theorem dLL_law_439 : decode cLL_law 439 = .ok (.goto 184, 3) := by decide +kernel
theorem dLL_law_442 : decode cLL_law 442 = .ok (.aload_n 1, 1) := by decide +kernel
theorem dLL_law_443 : decode cLL_law 443 = .ok (.aload_n 0, 1) := by decide +kernel
theorem dLL_law_444 : decode cLL_law 444 = .ok (.iload 4, 2) := by decide +kernel
theorem dLL_law_446 : decode cLL_law 446 = .ok (.iconst 1, 1) := by decide +kernel
theorem dLL_law_447 : decode cLL_law 447 = .ok (.iadd, 1) := by decide +kernel
theorem dLL_law_448 : decode cLL_law 448 = .ok (.iaload, 1) := by decide +kernel
theorem dLL_law_449 : decode cLL_law 449 = .ok (.aload_n 0, 1) := by decide +kernel
theorem dLL_law_450 : decode cLL_law 450 = .ok (.iload 4, 2) := by decide +kernel
theorem dLL_law_452 : decode cLL_law 452 = .ok (.iconst 2, 1) := by decide +kernel
theorem dLL_law_453 : decode cLL_law 453 = .ok (.iadd, 1) := by decide +kernel
theorem dLL_law_454 : decode cLL_law 454 = .ok (.iaload, 1) := by decide +kernel
theorem dLL_law_455 : decode cLL_law 455 = .ok (.aload_n 3, 1) := by decide +kernel
theorem dLL_law_456 : decode cLL_law 456 = .ok (.invokestatic 80, 3) := by decide +kernel
theorem dLL_law_459 : decode cLL_law 459 = .ok (.istore 5, 2) := by decide +kernel
theorem dLL_law_461 : decode cLL_law 461 = .ok (.aload_n 2, 1) := by decide +kernel
theorem dLL_law_462 : decode cLL_law 462 = .ok (.aload_n 0, 1) := by decide +kernel
theorem dLL_law_463 : decode cLL_law 463 = .ok (.iload 4, 2) := by decide +kernel
theorem dLL_law_465 : decode cLL_law 465 = .ok (.iconst 1, 1) := by decide +kernel
theorem dLL_law_466 : decode cLL_law 466 = .ok (.iadd, 1) := by decide +kernel
theorem dLL_law_467 : decode cLL_law 467 = .ok (.iaload, 1) := by decide +kernel
theorem dLL_law_468 : decode cLL_law 468 = .ok (.aload_n 0, 1) := by decide +kernel
theorem dLL_law_469 : decode cLL_law 469 = .ok (.iload 4, 2) := by decide +kernel
theorem dLL_law_471 : decode cLL_law 471 = .ok (.iconst 2, 1) := by decide +kernel
theorem dLL_law_472 : decode cLL_law 472 = .ok (.iadd, 1) := by decide +kernel
theorem dLL_law_473 : decode cLL_law 473 = .ok (.iaload, 1) := by decide +kernel
theorem dLL_law_474 : decode cLL_law 474 = .ok (.invokevirtual 82, 3) := by decide +kernel
theorem dLL_law_477 : decode cLL_law 477 = .ok (.istore 6, 2) := by decide +kernel
theorem dLL_law_479 : decode cLL_law 479 = .ok (.aload_n 2, 1) := by decide +kernel
theorem dLL_law_480 : decode cLL_law 480 = .ok (.invokevirtual 52, 3) := by decide +kernel
theorem dLL_law_483 : decode cLL_law 483 = .ok (.iload 5, 2) := by decide +kernel
theorem dLL_law_485 : decode cLL_law 485 = .ok (.if_icmp .eq 5, 3) := by decide +kernel
theorem dLL_law_488 : decode cLL_law 488 = .ok (.iconst 0, 1) := by decide +kernel
theorem dLL_law_489 : decode cLL_law 489 = .ok (.ireturn, 1) := by decide +kernel
theorem dLL_law_490 : decode cLL_law 490 = .ok (.iload 5, 2) := by decide +kernel
theorem dLL_law_492 : decode cLL_law 492 = .ok (.ifCond .ne 15, 3) := by decide +kernel
