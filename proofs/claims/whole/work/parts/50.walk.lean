theorem dL_law_0 : decode cL_law 0 = .ok (.new 8, 3) := by decide +kernel
theorem dL_law_3 : decode cL_law 3 = .ok (.dup, 1) := by decide +kernel
theorem dL_law_4 : decode cL_law 4 = .ok (.invokespecial 171, 3) := by decide +kernel
theorem dL_law_7 : decode cL_law 7 = .ok (.astore_n 1, 1) := by decide +kernel
theorem dL_law_8 : decode cL_law 8 = .ok (.new 172, 3) := by decide +kernel
theorem dL_law_11 : decode cL_law 11 = .ok (.dup, 1) := by decide +kernel
theorem dL_law_12 : decode cL_law 12 = .ok (.invokespecial 174, 3) := by decide +kernel
theorem dL_law_15 : decode cL_law 15 = .ok (.astore_n 2, 1) := by decide +kernel
theorem dL_law_16 : decode cL_law 16 = .ok (.iconst 1, 1) := by decide +kernel
theorem dL_law_17 : decode cL_law 17 = .ok (.newarray .long, 2) := by decide +kernel
theorem dL_law_19 : decode cL_law 19 = .ok (.astore_n 3, 1) := by decide +kernel
theorem dL_law_20 : decode cL_law 20 = .ok (.iconst 1, 1) := by decide +kernel
theorem dL_law_21 : decode cL_law 21 = .ok (.newarray .double, 2) := by decide +kernel
theorem dL_law_23 : decode cL_law 23 = .ok (.astore 4, 2) := by decide +kernel
theorem dL_law_25 : decode cL_law 25 = .ok (.iconst 0, 1) := by decide +kernel
theorem dL_law_26 : decode cL_law 26 = .ok (.istore 5, 2) := by decide +kernel
theorem dL_law_28 : decode cL_law 28 = .ok (.iload 5, 2) := by decide +kernel
theorem dL_law_30 : decode cL_law 30 = .ok (.aload_n 0, 1) := by decide +kernel
theorem dL_law_31 : decode cL_law 31 = .ok (.arraylength, 1) := by decide +kernel
theorem dL_law_32 : decode cL_law 32 = .ok (.iconst 5, 1) := by decide +kernel
theorem dL_law_33 : decode cL_law 33 = .ok (.isub, 1) := by decide +kernel
theorem dL_law_34 : decode cL_law 34 = .ok (.if_icmp .gt 3366, 3) := by decide +kernel
theorem dL_law_37 : decode cL_law 37 = .ok (.aload_n 0, 1) := by decide +kernel
theorem dL_law_38 : decode cL_law 38 = .ok (.iload 5, 2) := by decide +kernel
theorem dL_law_40 : decode cL_law 40 = .ok (.iaload, 1) := by decide +kernel
theorem dL_law_41 : decode cL_law 41 = .ok (.bipush 63, 2) := by decide +kernel
theorem dL_law_43 : decode cL_law 43 = .ok (.iand, 1) := by decide +kernel
theorem dL_law_44 : decode cL_law 44 = .ok (.tableswitch 3350 0 60 #[260, 328, 341, 409, 493, 537, 593, 606, 619, 632, 645, 736, 780, 843, 856, 912, 953, 1016, 1060, 1116, 1172, 1228, 1284, 1340, 1384, 1397, 1441, 1454, 1538, 1626, 1639, 1683, 1727, 1740, 1832, 1888, 1956, 2012, 2068, 2136, 2216, 2300, 2356, 2424, 2492, 2560, 2628, 2641, 2709, 2722, 2778, 2822, 2866, 2910, 2966, 3010, 3066, 3110, 3182, 3259, 3337], 260) := by decide +kernel
theorem dL_law_304 : decode cL_law 304 = .ok (.aload_n 1, 1) := by decide +kernel
theorem dL_law_305 : decode cL_law 305 = .ok (.aload_n 0, 1) := by decide +kernel
theorem dL_law_306 : decode cL_law 306 = .ok (.iload 5, 2) := by decide +kernel
theorem dL_law_308 : decode cL_law 308 = .ok (.iconst 1, 1) := by decide +kernel
theorem dL_law_309 : decode cL_law 309 = .ok (.iadd, 1) := by decide +kernel
theorem dL_law_310 : decode cL_law 310 = .ok (.iaload, 1) := by decide +kernel
theorem dL_law_311 : decode cL_law 311 = .ok (.aload_n 0, 1) := by decide +kernel
theorem dL_law_312 : decode cL_law 312 = .ok (.iload 5, 2) := by decide +kernel
theorem dL_law_314 : decode cL_law 314 = .ok (.iconst 2, 1) := by decide +kernel
theorem dL_law_315 : decode cL_law 315 = .ok (.iadd, 1) := by decide +kernel
theorem dL_law_316 : decode cL_law 316 = .ok (.iaload, 1) := by decide +kernel
theorem dL_law_317 : decode cL_law 317 = .ok (.aload_n 3, 1) := by decide +kernel
theorem dL_law_318 : decode cL_law 318 = .ok (.invokestatic 175, 3) := by decide +kernel
theorem dL_law_321 : decode cL_law 321 = .ok (.istore 6, 2) := by decide +kernel
theorem dL_law_323 : decode cL_law 323 = .ok (.aload_n 2, 1) := by decide +kernel
theorem dL_law_324 : decode cL_law 324 = .ok (.aload_n 0, 1) := by decide +kernel
theorem dL_law_325 : decode cL_law 325 = .ok (.iload 5, 2) := by decide +kernel
theorem dL_law_327 : decode cL_law 327 = .ok (.iconst 1, 1) := by decide +kernel
theorem dL_law_328 : decode cL_law 328 = .ok (.iadd, 1) := by decide +kernel
theorem dL_law_329 : decode cL_law 329 = .ok (.iaload, 1) := by decide +kernel
theorem dL_law_330 : decode cL_law 330 = .ok (.aload_n 0, 1) := by decide +kernel
theorem dL_law_331 : decode cL_law 331 = .ok (.iload 5, 2) := by decide +kernel
theorem dL_law_333 : decode cL_law 333 = .ok (.iconst 2, 1) := by decide +kernel
theorem dL_law_334 : decode cL_law 334 = .ok (.iadd, 1) := by decide +kernel
theorem dL_law_335 : decode cL_law 335 = .ok (.iaload, 1) := by decide +kernel
theorem dL_law_336 : decode cL_law 336 = .ok (.invokevirtual 180, 3) := by decide +kernel
theorem dL_law_339 : decode cL_law 339 = .ok (.istore 7, 2) := by decide +kernel
theorem dL_law_341 : decode cL_law 341 = .ok (.aload_n 2, 1) := by decide +kernel
theorem dL_law_342 : decode cL_law 342 = .ok (.invokevirtual 181, 3) := by decide +kernel
theorem dL_law_345 : decode cL_law 345 = .ok (.iload 6, 2) := by decide +kernel
theorem dL_law_347 : decode cL_law 347 = .ok (.if_icmp .eq 5, 3) := by decide +kernel
theorem dL_law_350 : decode cL_law 350 = .ok (.iconst 0, 1) := by decide +kernel
theorem dL_law_351 : decode cL_law 351 = .ok (.ireturn, 1) := by decide +kernel
theorem dL_law_352 : decode cL_law 352 = .ok (.iload 6, 2) := by decide +kernel
theorem dL_law_354 : decode cL_law 354 = .ok (.ifCond .ne 15, 3) := by decide +kernel
theorem dL_law_357 : decode cL_law 357 = .ok (.aload_n 3, 1) := by decide +kernel
theorem dL_law_358 : decode cL_law 358 = .ok (.iconst 0, 1) := by decide +kernel
theorem dL_law_359 : decode cL_law 359 = .ok (.laload, 1) := by decide +kernel
theorem dL_law_360 : decode cL_law 360 = .ok (.iload 7, 2) := by decide +kernel
theorem dL_law_362 : decode cL_law 362 = .ok (.i2l, 1) := by decide +kernel
theorem dL_law_363 : decode cL_law 363 = .ok (.lcmp, 1) := by decide +kernel
theorem dL_law_364 : decode cL_law 364 = .ok (.ifCond .eq 5, 3) := by decide +kernel
theorem dL_law_367 : decode cL_law 367 = .ok (.iconst 0, 1) := by decide +kernel
theorem dL_law_368 : decode cL_law 368 = .ok (.ireturn, 1) := by decide +kernel
theorem dL_law_369 : decode cL_law 369 = .ok (.goto 3025, 3) := by decide +kernel
theorem dL_law_372 : decode cL_law 372 = .ok (.aload_n 1, 1) := by decide +kernel
theorem dL_law_373 : decode cL_law 373 = .ok (.invokevirtual 184, 3) := by decide +kernel
theorem dL_law_376 : decode cL_law 376 = .ok (.aload_n 2, 1) := by decide +kernel
theorem dL_law_377 : decode cL_law 377 = .ok (.invokevirtual 187, 3) := by decide +kernel
theorem dL_law_380 : decode cL_law 380 = .ok (.if_icmp .eq 3014, 3) := by decide +kernel
theorem dL_law_383 : decode cL_law 383 = .ok (.iconst 0, 1) := by decide +kernel
theorem dL_law_384 : decode cL_law 384 = .ok (.ireturn, 1) := by decide +kernel
theorem dL_law_385 : decode cL_law 385 = .ok (.aload_n 1, 1) := by decide +kernel
theorem dL_law_386 : decode cL_law 386 = .ok (.aload_n 0, 1) := by decide +kernel
theorem dL_law_387 : decode cL_law 387 = .ok (.iload 5, 2) := by decide +kernel
theorem dL_law_389 : decode cL_law 389 = .ok (.iconst 1, 1) := by decide +kernel
theorem dL_law_390 : decode cL_law 390 = .ok (.iadd, 1) := by decide +kernel
theorem dL_law_391 : decode cL_law 391 = .ok (.iaload, 1) := by decide +kernel
theorem dL_law_392 : decode cL_law 392 = .ok (.aload_n 0, 1) := by decide +kernel
theorem dL_law_393 : decode cL_law 393 = .ok (.iload 5, 2) := by decide +kernel
theorem dL_law_395 : decode cL_law 395 = .ok (.iconst 2, 1) := by decide +kernel
theorem dL_law_396 : decode cL_law 396 = .ok (.iadd, 1) := by decide +kernel
theorem dL_law_397 : decode cL_law 397 = .ok (.iaload, 1) := by decide +kernel
theorem dL_law_398 : decode cL_law 398 = .ok (.aload_n 3, 1) := by decide +kernel
theorem dL_law_399 : decode cL_law 399 = .ok (.invokestatic 188, 3) := by decide +kernel
theorem dL_law_402 : decode cL_law 402 = .ok (.istore 6, 2) := by decide +kernel
theorem dL_law_404 : decode cL_law 404 = .ok (.aload_n 2, 1) := by decide +kernel
theorem dL_law_405 : decode cL_law 405 = .ok (.aload_n 0, 1) := by decide +kernel
theorem dL_law_406 : decode cL_law 406 = .ok (.iload 5, 2) := by decide +kernel
theorem dL_law_408 : decode cL_law 408 = .ok (.iconst 1, 1) := by decide +kernel
theorem dL_law_409 : decode cL_law 409 = .ok (.iadd, 1) := by decide +kernel
theorem dL_law_410 : decode cL_law 410 = .ok (.iaload, 1) := by decide +kernel
theorem dL_law_411 : decode cL_law 411 = .ok (.aload_n 0, 1) := by decide +kernel
theorem dL_law_412 : decode cL_law 412 = .ok (.iload 5, 2) := by decide +kernel
theorem dL_law_414 : decode cL_law 414 = .ok (.iconst 2, 1) := by decide +kernel
theorem dL_law_415 : decode cL_law 415 = .ok (.iadd, 1) := by decide +kernel
theorem dL_law_416 : decode cL_law 416 = .ok (.iaload, 1) := by decide +kernel
theorem dL_law_417 : decode cL_law 417 = .ok (.invokevirtual 190, 3) := by decide +kernel
theorem dL_law_420 : decode cL_law 420 = .ok (.istore 7, 2) := by decide +kernel
theorem dL_law_422 : decode cL_law 422 = .ok (.aload_n 2, 1) := by decide +kernel
theorem dL_law_423 : decode cL_law 423 = .ok (.invokevirtual 181, 3) := by decide +kernel
theorem dL_law_426 : decode cL_law 426 = .ok (.iload 6, 2) := by decide +kernel
theorem dL_law_428 : decode cL_law 428 = .ok (.if_icmp .eq 5, 3) := by decide +kernel
theorem dL_law_431 : decode cL_law 431 = .ok (.iconst 0, 1) := by decide +kernel
theorem dL_law_432 : decode cL_law 432 = .ok (.ireturn, 1) := by decide +kernel
theorem dL_law_433 : decode cL_law 433 = .ok (.iload 6, 2) := by decide +kernel
theorem dL_law_435 : decode cL_law 435 = .ok (.ifCond .ne 15, 3) := by decide +kernel
theorem dL_law_438 : decode cL_law 438 = .ok (.aload_n 3, 1) := by decide +kernel
theorem dL_law_439 : decode cL_law 439 = .ok (.iconst 0, 1) := by decide +kernel
theorem dL_law_440 : decode cL_law 440 = .ok (.laload, 1) := by decide +kernel
theorem dL_law_441 : decode cL_law 441 = .ok (.iload 7, 2) := by decide +kernel
theorem dL_law_443 : decode cL_law 443 = .ok (.i2l, 1) := by decide +kernel
theorem dL_law_444 : decode cL_law 444 = .ok (.lcmp, 1) := by decide +kernel
theorem dL_law_445 : decode cL_law 445 = .ok (.ifCond .eq 5, 3) := by decide +kernel
theorem dL_law_448 : decode cL_law 448 = .ok (.iconst 0, 1) := by decide +kernel
theorem dL_law_449 : decode cL_law 449 = .ok (.ireturn, 1) := by decide +kernel
theorem dL_law_450 : decode cL_law 450 = .ok (.goto 2944, 3) := by decide +kernel
theorem dL_law_453 : decode cL_law 453 = .ok (.aload_n 1, 1) := by decide +kernel
theorem dL_law_454 : decode cL_law 454 = .ok (.aload_n 0, 1) := by decide +kernel
theorem dL_law_455 : decode cL_law 455 = .ok (.iload 5, 2) := by decide +kernel
theorem dL_law_457 : decode cL_law 457 = .ok (.iconst 1, 1) := by decide +kernel
theorem dL_law_458 : decode cL_law 458 = .ok (.iadd, 1) := by decide +kernel
theorem dL_law_459 : decode cL_law 459 = .ok (.iaload, 1) := by decide +kernel
theorem dL_law_460 : decode cL_law 460 = .ok (.ifCond .eq 7, 3) := by decide +kernel
theorem dL_law_463 : decode cL_law 463 = .ok (.iconst 1, 1) := by decide +kernel
theorem dL_law_464 : decode cL_law 464 = .ok (.goto 4, 3) := by decide +kernel
theorem dL_law_467 : decode cL_law 467 = .ok (.iconst 0, 1) := by decide +kernel
theorem dL_law_468 : decode cL_law 468 = .ok (.aload_n 0, 1) := by decide +kernel
theorem dL_law_469 : decode cL_law 469 = .ok (.iload 5, 2) := by decide +kernel
theorem dL_law_471 : decode cL_law 471 = .ok (.iconst 2, 1) := by decide +kernel
theorem dL_law_472 : decode cL_law 472 = .ok (.iadd, 1) := by decide +kernel
theorem dL_law_473 : decode cL_law 473 = .ok (.iaload, 1) := by decide +kernel
theorem dL_law_474 : decode cL_law 474 = .ok (.aload_n 3, 1) := by decide +kernel
theorem dL_law_475 : decode cL_law 475 = .ok (.invokestatic 191, 3) := by decide +kernel
theorem dL_law_478 : decode cL_law 478 = .ok (.istore 6, 2) := by decide +kernel
theorem dL_law_480 : decode cL_law 480 = .ok (.aload_n 2, 1) := by decide +kernel
theorem dL_law_481 : decode cL_law 481 = .ok (.aload_n 0, 1) := by decide +kernel
theorem dL_law_482 : decode cL_law 482 = .ok (.iload 5, 2) := by decide +kernel
theorem dL_law_484 : decode cL_law 484 = .ok (.iconst 1, 1) := by decide +kernel
theorem dL_law_485 : decode cL_law 485 = .ok (.iadd, 1) := by decide +kernel
theorem dL_law_486 : decode cL_law 486 = .ok (.iaload, 1) := by decide +kernel
theorem dL_law_487 : decode cL_law 487 = .ok (.ifCond .eq 7, 3) := by decide +kernel
theorem dL_law_490 : decode cL_law 490 = .ok (.iconst 1, 1) := by decide +kernel
theorem dL_law_491 : decode cL_law 491 = .ok (.goto 4, 3) := by decide +kernel
theorem dL_law_494 : decode cL_law 494 = .ok (.iconst 0, 1) := by decide +kernel
theorem dL_law_495 : decode cL_law 495 = .ok (.aload_n 0, 1) := by decide +kernel
theorem dL_law_496 : decode cL_law 496 = .ok (.iload 5, 2) := by decide +kernel
theorem dL_law_498 : decode cL_law 498 = .ok (.iconst 2, 1) := by decide +kernel
theorem dL_law_499 : decode cL_law 499 = .ok (.iadd, 1) := by decide +kernel
theorem dL_law_500 : decode cL_law 500 = .ok (.iaload, 1) := by decide +kernel
theorem dL_law_501 : decode cL_law 501 = .ok (.invokevirtual 194, 3) := by decide +kernel
theorem dL_law_504 : decode cL_law 504 = .ok (.istore 7, 2) := by decide +kernel
theorem dL_law_506 : decode cL_law 506 = .ok (.aload_n 2, 1) := by decide +kernel
theorem dL_law_507 : decode cL_law 507 = .ok (.invokevirtual 181, 3) := by decide +kernel
theorem dL_law_510 : decode cL_law 510 = .ok (.iload 6, 2) := by decide +kernel
theorem dL_law_512 : decode cL_law 512 = .ok (.if_icmp .eq 5, 3) := by decide +kernel
theorem dL_law_515 : decode cL_law 515 = .ok (.iconst 0, 1) := by decide +kernel
theorem dL_law_516 : decode cL_law 516 = .ok (.ireturn, 1) := by decide +kernel
theorem dL_law_517 : decode cL_law 517 = .ok (.iload 6, 2) := by decide +kernel
theorem dL_law_519 : decode cL_law 519 = .ok (.ifCond .ne 15, 3) := by decide +kernel
theorem dL_law_522 : decode cL_law 522 = .ok (.aload_n 3, 1) := by decide +kernel
theorem dL_law_523 : decode cL_law 523 = .ok (.iconst 0, 1) := by decide +kernel
theorem dL_law_524 : decode cL_law 524 = .ok (.laload, 1) := by decide +kernel
theorem dL_law_525 : decode cL_law 525 = .ok (.iload 7, 2) := by decide +kernel
theorem dL_law_527 : decode cL_law 527 = .ok (.i2l, 1) := by decide +kernel
theorem dL_law_528 : decode cL_law 528 = .ok (.lcmp, 1) := by decide +kernel
theorem dL_law_529 : decode cL_law 529 = .ok (.ifCond .eq 5, 3) := by decide +kernel
theorem dL_law_532 : decode cL_law 532 = .ok (.iconst 0, 1) := by decide +kernel
theorem dL_law_533 : decode cL_law 533 = .ok (.ireturn, 1) := by decide +kernel
theorem dL_law_534 : decode cL_law 534 = .ok (.goto 2860, 3) := by decide +kernel
theorem dL_law_537 : decode cL_law 537 = .ok (.aload_n 1, 1) := by decide +kernel
theorem dL_law_538 : decode cL_law 538 = .ok (.aload_n 3, 1) := by decide +kernel
theorem dL_law_539 : decode cL_law 539 = .ok (.invokestatic 195, 3) := by decide +kernel
theorem dL_law_542 : decode cL_law 542 = .ok (.istore 6, 2) := by decide +kernel
theorem dL_law_544 : decode cL_law 544 = .ok (.aload_n 2, 1) := by decide +kernel
theorem dL_law_545 : decode cL_law 545 = .ok (.invokevirtual 198, 3) := by decide +kernel
theorem dL_law_548 : decode cL_law 548 = .ok (.istore 7, 2) := by decide +kernel
theorem dL_law_550 : decode cL_law 550 = .ok (.aload_n 2, 1) := by decide +kernel
theorem dL_law_551 : decode cL_law 551 = .ok (.invokevirtual 181, 3) := by decide +kernel
theorem dL_law_554 : decode cL_law 554 = .ok (.iload 6, 2) := by decide +kernel
theorem dL_law_556 : decode cL_law 556 = .ok (.if_icmp .eq 5, 3) := by decide +kernel
theorem dL_law_559 : decode cL_law 559 = .ok (.iconst 0, 1) := by decide +kernel
theorem dL_law_560 : decode cL_law 560 = .ok (.ireturn, 1) := by decide +kernel
theorem dL_law_561 : decode cL_law 561 = .ok (.iload 6, 2) := by decide +kernel
theorem dL_law_563 : decode cL_law 563 = .ok (.ifCond .ne 15, 3) := by decide +kernel
theorem dL_law_566 : decode cL_law 566 = .ok (.aload_n 3, 1) := by decide +kernel
theorem dL_law_567 : decode cL_law 567 = .ok (.iconst 0, 1) := by decide +kernel
theorem dL_law_568 : decode cL_law 568 = .ok (.laload, 1) := by decide +kernel
theorem dL_law_569 : decode cL_law 569 = .ok (.iload 7, 2) := by decide +kernel
theorem dL_law_571 : decode cL_law 571 = .ok (.i2l, 1) := by decide +kernel
theorem dL_law_572 : decode cL_law 572 = .ok (.lcmp, 1) := by decide +kernel
theorem dL_law_573 : decode cL_law 573 = .ok (.ifCond .eq 5, 3) := by decide +kernel
theorem dL_law_576 : decode cL_law 576 = .ok (.iconst 0, 1) := by decide +kernel
theorem dL_law_577 : decode cL_law 577 = .ok (.ireturn, 1) := by decide +kernel
theorem dL_law_578 : decode cL_law 578 = .ok (.goto 2816, 3) := by decide +kernel
theorem dL_law_581 : decode cL_law 581 = .ok (.aload_n 1, 1) := by decide +kernel
theorem dL_law_582 : decode cL_law 582 = .ok (.aload_n 0, 1) := by decide +kernel
theorem dL_law_583 : decode cL_law 583 = .ok (.iload 5, 2) := by decide +kernel
theorem dL_law_585 : decode cL_law 585 = .ok (.iconst 1, 1) := by decide +kernel
theorem dL_law_586 : decode cL_law 586 = .ok (.iadd, 1) := by decide +kernel
theorem dL_law_587 : decode cL_law 587 = .ok (.iaload, 1) := by decide +kernel
theorem dL_law_588 : decode cL_law 588 = .ok (.aload_n 3, 1) := by decide +kernel
theorem dL_law_589 : decode cL_law 589 = .ok (.invokestatic 199, 3) := by decide +kernel
theorem dL_law_592 : decode cL_law 592 = .ok (.istore 6, 2) := by decide +kernel
theorem dL_law_594 : decode cL_law 594 = .ok (.aload_n 2, 1) := by decide +kernel
theorem dL_law_595 : decode cL_law 595 = .ok (.aload_n 0, 1) := by decide +kernel
theorem dL_law_596 : decode cL_law 596 = .ok (.iload 5, 2) := by decide +kernel
theorem dL_law_598 : decode cL_law 598 = .ok (.iconst 1, 1) := by decide +kernel
theorem dL_law_599 : decode cL_law 599 = .ok (.iadd, 1) := by decide +kernel
theorem dL_law_600 : decode cL_law 600 = .ok (.iaload, 1) := by decide +kernel
theorem dL_law_601 : decode cL_law 601 = .ok (.invokevirtual 202, 3) := by decide +kernel
theorem dL_law_604 : decode cL_law 604 = .ok (.istore 7, 2) := by decide +kernel
theorem dL_law_606 : decode cL_law 606 = .ok (.aload_n 2, 1) := by decide +kernel
theorem dL_law_607 : decode cL_law 607 = .ok (.invokevirtual 181, 3) := by decide +kernel
theorem dL_law_610 : decode cL_law 610 = .ok (.iload 6, 2) := by decide +kernel
theorem dL_law_612 : decode cL_law 612 = .ok (.if_icmp .eq 5, 3) := by decide +kernel
theorem dL_law_615 : decode cL_law 615 = .ok (.iconst 0, 1) := by decide +kernel
theorem dL_law_616 : decode cL_law 616 = .ok (.ireturn, 1) := by decide +kernel
theorem dL_law_617 : decode cL_law 617 = .ok (.iload 6, 2) := by decide +kernel
theorem dL_law_619 : decode cL_law 619 = .ok (.ifCond .ne 15, 3) := by decide +kernel
theorem dL_law_622 : decode cL_law 622 = .ok (.aload_n 3, 1) := by decide +kernel
theorem dL_law_623 : decode cL_law 623 = .ok (.iconst 0, 1) := by decide +kernel
theorem dL_law_624 : decode cL_law 624 = .ok (.laload, 1) := by decide +kernel
theorem dL_law_625 : decode cL_law 625 = .ok (.iload 7, 2) := by decide +kernel
theorem dL_law_627 : decode cL_law 627 = .ok (.i2l, 1) := by decide +kernel
theorem dL_law_628 : decode cL_law 628 = .ok (.lcmp, 1) := by decide +kernel
theorem dL_law_629 : decode cL_law 629 = .ok (.ifCond .eq 5, 3) := by decide +kernel
theorem dL_law_632 : decode cL_law 632 = .ok (.iconst 0, 1) := by decide +kernel
theorem dL_law_633 : decode cL_law 633 = .ok (.ireturn, 1) := by decide +kernel
theorem dL_law_634 : decode cL_law 634 = .ok (.goto 2760, 3) := by decide +kernel
theorem dL_law_637 : decode cL_law 637 = .ok (.aload_n 1, 1) := by decide +kernel
theorem dL_law_638 : decode cL_law 638 = .ok (.invokevirtual 203, 3) := by decide +kernel
theorem dL_law_641 : decode cL_law 641 = .ok (.aload_n 2, 1) := by decide +kernel
theorem dL_law_642 : decode cL_law 642 = .ok (.invokevirtual 207, 3) := by decide +kernel
theorem dL_law_645 : decode cL_law 645 = .ok (.if_icmp .eq 2749, 3) := by decide +kernel
theorem dL_law_648 : decode cL_law 648 = .ok (.iconst 0, 1) := by decide +kernel
theorem dL_law_649 : decode cL_law 649 = .ok (.ireturn, 1) := by decide +kernel
theorem dL_law_650 : decode cL_law 650 = .ok (.aload_n 1, 1) := by decide +kernel
theorem dL_law_651 : decode cL_law 651 = .ok (.invokevirtual 208, 3) := by decide +kernel
theorem dL_law_654 : decode cL_law 654 = .ok (.aload_n 2, 1) := by decide +kernel
theorem dL_law_655 : decode cL_law 655 = .ok (.invokevirtual 211, 3) := by decide +kernel
theorem dL_law_658 : decode cL_law 658 = .ok (.if_icmp .eq 2736, 3) := by decide +kernel
theorem dL_law_661 : decode cL_law 661 = .ok (.iconst 0, 1) := by decide +kernel
theorem dL_law_662 : decode cL_law 662 = .ok (.ireturn, 1) := by decide +kernel
theorem dL_law_663 : decode cL_law 663 = .ok (.aload_n 1, 1) := by decide +kernel
theorem dL_law_664 : decode cL_law 664 = .ok (.invokevirtual 212, 3) := by decide +kernel
theorem dL_law_667 : decode cL_law 667 = .ok (.aload_n 2, 1) := by decide +kernel
theorem dL_law_668 : decode cL_law 668 = .ok (.invokevirtual 215, 3) := by decide +kernel
theorem dL_law_671 : decode cL_law 671 = .ok (.if_icmp .eq 2723, 3) := by decide +kernel
theorem dL_law_674 : decode cL_law 674 = .ok (.iconst 0, 1) := by decide +kernel
theorem dL_law_675 : decode cL_law 675 = .ok (.ireturn, 1) := by decide +kernel
theorem dL_law_676 : decode cL_law 676 = .ok (.aload_n 1, 1) := by decide +kernel
theorem dL_law_677 : decode cL_law 677 = .ok (.invokevirtual 216, 3) := by decide +kernel
theorem dL_law_680 : decode cL_law 680 = .ok (.aload_n 2, 1) := by decide +kernel
theorem dL_law_681 : decode cL_law 681 = .ok (.invokevirtual 219, 3) := by decide +kernel
theorem dL_law_684 : decode cL_law 684 = .ok (.if_icmp .eq 2710, 3) := by decide +kernel
theorem dL_law_687 : decode cL_law 687 = .ok (.iconst 0, 1) := by decide +kernel
theorem dL_law_688 : decode cL_law 688 = .ok (.ireturn, 1) := by decide +kernel
theorem dL_law_689 : decode cL_law 689 = .ok (.aload_n 1, 1) := by decide +kernel
theorem dL_law_690 : decode cL_law 690 = .ok (.aload_n 0, 1) := by decide +kernel
theorem dL_law_691 : decode cL_law 691 = .ok (.iload 5, 2) := by decide +kernel
theorem dL_law_693 : decode cL_law 693 = .ok (.iconst 1, 1) := by decide +kernel
theorem dL_law_694 : decode cL_law 694 = .ok (.iadd, 1) := by decide +kernel
theorem dL_law_695 : decode cL_law 695 = .ok (.iaload, 1) := by decide +kernel
theorem dL_law_696 : decode cL_law 696 = .ok (.aload_n 0, 1) := by decide +kernel
theorem dL_law_697 : decode cL_law 697 = .ok (.iload 5, 2) := by decide +kernel
theorem dL_law_699 : decode cL_law 699 = .ok (.iconst 2, 1) := by decide +kernel
theorem dL_law_700 : decode cL_law 700 = .ok (.iadd, 1) := by decide +kernel
theorem dL_law_701 : decode cL_law 701 = .ok (.iaload, 1) := by decide +kernel
theorem dL_law_702 : decode cL_law 702 = .ok (.ifCond .eq 7, 3) := by decide +kernel
theorem dL_law_705 : decode cL_law 705 = .ok (.iconst 1, 1) := by decide +kernel
theorem dL_law_706 : decode cL_law 706 = .ok (.goto 4, 3) := by decide +kernel
theorem dL_law_709 : decode cL_law 709 = .ok (.iconst 0, 1) := by decide +kernel
theorem dL_law_710 : decode cL_law 710 = .ok (.aload_n 3, 1) := by decide +kernel
theorem dL_law_711 : decode cL_law 711 = .ok (.invokestatic 220, 3) := by decide +kernel
theorem dL_law_714 : decode cL_law 714 = .ok (.istore 6, 2) := by decide +kernel
theorem dL_law_716 : decode cL_law 716 = .ok (.aload_n 2, 1) := by decide +kernel
theorem dL_law_717 : decode cL_law 717 = .ok (.aload_n 0, 1) := by decide +kernel
theorem dL_law_718 : decode cL_law 718 = .ok (.iload 5, 2) := by decide +kernel
theorem dL_law_720 : decode cL_law 720 = .ok (.iconst 1, 1) := by decide +kernel
theorem dL_law_721 : decode cL_law 721 = .ok (.iadd, 1) := by decide +kernel
theorem dL_law_722 : decode cL_law 722 = .ok (.iaload, 1) := by decide +kernel
theorem dL_law_723 : decode cL_law 723 = .ok (.aload_n 0, 1) := by decide +kernel
theorem dL_law_724 : decode cL_law 724 = .ok (.iload 5, 2) := by decide +kernel
theorem dL_law_726 : decode cL_law 726 = .ok (.iconst 2, 1) := by decide +kernel
theorem dL_law_727 : decode cL_law 727 = .ok (.iadd, 1) := by decide +kernel
theorem dL_law_728 : decode cL_law 728 = .ok (.iaload, 1) := by decide +kernel
theorem dL_law_729 : decode cL_law 729 = .ok (.ifCond .eq 7, 3) := by decide +kernel
theorem dL_law_732 : decode cL_law 732 = .ok (.iconst 1, 1) := by decide +kernel
theorem dL_law_733 : decode cL_law 733 = .ok (.goto 4, 3) := by decide +kernel
theorem dL_law_736 : decode cL_law 736 = .ok (.iconst 0, 1) := by decide +kernel
theorem dL_law_737 : decode cL_law 737 = .ok (.invokevirtual 223, 3) := by decide +kernel
theorem dL_law_740 : decode cL_law 740 = .ok (.istore 7, 2) := by decide +kernel
theorem dL_law_742 : decode cL_law 742 = .ok (.aload_n 2, 1) := by decide +kernel
theorem dL_law_743 : decode cL_law 743 = .ok (.invokevirtual 181, 3) := by decide +kernel
theorem dL_law_746 : decode cL_law 746 = .ok (.iload 6, 2) := by decide +kernel
theorem dL_law_748 : decode cL_law 748 = .ok (.if_icmp .eq 5, 3) := by decide +kernel
theorem dL_law_751 : decode cL_law 751 = .ok (.iconst 0, 1) := by decide +kernel
theorem dL_law_752 : decode cL_law 752 = .ok (.ireturn, 1) := by decide +kernel
theorem dL_law_753 : decode cL_law 753 = .ok (.iload 6, 2) := by decide +kernel
theorem dL_law_755 : decode cL_law 755 = .ok (.ifCond .ne 22, 3) := by decide +kernel
theorem dL_law_758 : decode cL_law 758 = .ok (.aload_n 3, 1) := by decide +kernel
theorem dL_law_759 : decode cL_law 759 = .ok (.iconst 0, 1) := by decide +kernel
theorem dL_law_760 : decode cL_law 760 = .ok (.laload, 1) := by decide +kernel
theorem dL_law_761 : decode cL_law 761 = .ok (.iload 7, 2) := by decide +kernel
theorem dL_law_763 : decode cL_law 763 = .ok (.ifCond .eq 7, 3) := by decide +kernel
theorem dL_law_766 : decode cL_law 766 = .ok (.lconst 1, 1) := by decide +kernel
theorem dL_law_767 : decode cL_law 767 = .ok (.goto 4, 3) := by decide +kernel
theorem dL_law_770 : decode cL_law 770 = .ok (.lconst 0, 1) := by decide +kernel
theorem dL_law_771 : decode cL_law 771 = .ok (.lcmp, 1) := by decide +kernel
theorem dL_law_772 : decode cL_law 772 = .ok (.ifCond .eq 5, 3) := by decide +kernel
theorem dL_law_775 : decode cL_law 775 = .ok (.iconst 0, 1) := by decide +kernel
theorem dL_law_776 : decode cL_law 776 = .ok (.ireturn, 1) := by decide +kernel
theorem dL_law_777 : decode cL_law 777 = .ok (.goto 2617, 3) := by decide +kernel
theorem dL_law_780 : decode cL_law 780 = .ok (.aload_n 1, 1) := by decide +kernel
theorem dL_law_781 : decode cL_law 781 = .ok (.aload_n 3, 1) := by decide +kernel
theorem dL_law_782 : decode cL_law 782 = .ok (.invokestatic 224, 3) := by decide +kernel
theorem dL_law_785 : decode cL_law 785 = .ok (.istore 6, 2) := by decide +kernel
theorem dL_law_787 : decode cL_law 787 = .ok (.aload_n 2, 1) := by decide +kernel
theorem dL_law_788 : decode cL_law 788 = .ok (.invokevirtual 226, 3) := by decide +kernel
theorem dL_law_791 : decode cL_law 791 = .ok (.istore 7, 2) := by decide +kernel
theorem dL_law_793 : decode cL_law 793 = .ok (.aload_n 2, 1) := by decide +kernel
theorem dL_law_794 : decode cL_law 794 = .ok (.invokevirtual 181, 3) := by decide +kernel
theorem dL_law_797 : decode cL_law 797 = .ok (.iload 6, 2) := by decide +kernel
theorem dL_law_799 : decode cL_law 799 = .ok (.if_icmp .eq 5, 3) := by decide +kernel
theorem dL_law_802 : decode cL_law 802 = .ok (.iconst 0, 1) := by decide +kernel
theorem dL_law_803 : decode cL_law 803 = .ok (.ireturn, 1) := by decide +kernel
theorem dL_law_804 : decode cL_law 804 = .ok (.iload 6, 2) := by decide +kernel
theorem dL_law_806 : decode cL_law 806 = .ok (.ifCond .ne 15, 3) := by decide +kernel
theorem dL_law_809 : decode cL_law 809 = .ok (.aload_n 3, 1) := by decide +kernel
theorem dL_law_810 : decode cL_law 810 = .ok (.iconst 0, 1) := by decide +kernel
theorem dL_law_811 : decode cL_law 811 = .ok (.laload, 1) := by decide +kernel
theorem dL_law_812 : decode cL_law 812 = .ok (.iload 7, 2) := by decide +kernel
theorem dL_law_814 : decode cL_law 814 = .ok (.i2l, 1) := by decide +kernel
theorem dL_law_815 : decode cL_law 815 = .ok (.lcmp, 1) := by decide +kernel
theorem dL_law_816 : decode cL_law 816 = .ok (.ifCond .eq 5, 3) := by decide +kernel
theorem dL_law_819 : decode cL_law 819 = .ok (.iconst 0, 1) := by decide +kernel
theorem dL_law_820 : decode cL_law 820 = .ok (.ireturn, 1) := by decide +kernel
theorem dL_law_821 : decode cL_law 821 = .ok (.goto 2573, 3) := by decide +kernel
theorem dL_law_824 : decode cL_law 824 = .ok (.aload_n 1, 1) := by decide +kernel
theorem dL_law_825 : decode cL_law 825 = .ok (.aload_n 0, 1) := by decide +kernel
theorem dL_law_826 : decode cL_law 826 = .ok (.iload 5, 2) := by decide +kernel
theorem dL_law_828 : decode cL_law 828 = .ok (.iconst 1, 1) := by decide +kernel
theorem dL_law_829 : decode cL_law 829 = .ok (.iadd, 1) := by decide +kernel
theorem dL_law_830 : decode cL_law 830 = .ok (.iaload, 1) := by decide +kernel
theorem dL_law_831 : decode cL_law 831 = .ok (.aload_n 3, 1) := by decide +kernel
theorem dL_law_832 : decode cL_law 832 = .ok (.invokestatic 227, 3) := by decide +kernel
theorem dL_law_835 : decode cL_law 835 = .ok (.istore 6, 2) := by decide +kernel
theorem dL_law_837 : decode cL_law 837 = .ok (.aload_n 2, 1) := by decide +kernel
theorem dL_law_838 : decode cL_law 838 = .ok (.aload_n 0, 1) := by decide +kernel
theorem dL_law_839 : decode cL_law 839 = .ok (.iload 5, 2) := by decide +kernel
theorem dL_law_841 : decode cL_law 841 = .ok (.iconst 1, 1) := by decide +kernel
theorem dL_law_842 : decode cL_law 842 = .ok (.iadd, 1) := by decide +kernel
theorem dL_law_843 : decode cL_law 843 = .ok (.iaload, 1) := by decide +kernel
theorem dL_law_844 : decode cL_law 844 = .ok (.invokevirtual 229, 3) := by decide +kernel
theorem dL_law_847 : decode cL_law 847 = .ok (.istore 7, 2) := by decide +kernel
theorem dL_law_849 : decode cL_law 849 = .ok (.aload_n 2, 1) := by decide +kernel
theorem dL_law_850 : decode cL_law 850 = .ok (.invokevirtual 181, 3) := by decide +kernel
theorem dL_law_853 : decode cL_law 853 = .ok (.iload 6, 2) := by decide +kernel
theorem dL_law_855 : decode cL_law 855 = .ok (.if_icmp .eq 5, 3) := by decide +kernel
theorem dL_law_858 : decode cL_law 858 = .ok (.iconst 0, 1) := by decide +kernel
theorem dL_law_859 : decode cL_law 859 = .ok (.ireturn, 1) := by decide +kernel
theorem dL_law_860 : decode cL_law 860 = .ok (.iload 6, 2) := by decide +kernel
theorem dL_law_862 : decode cL_law 862 = .ok (.ifCond .ne 22, 3) := by decide +kernel
theorem dL_law_865 : decode cL_law 865 = .ok (.aload_n 3, 1) := by decide +kernel
theorem dL_law_866 : decode cL_law 866 = .ok (.iconst 0, 1) := by decide +kernel
theorem dL_law_867 : decode cL_law 867 = .ok (.laload, 1) := by decide +kernel
theorem dL_law_868 : decode cL_law 868 = .ok (.iload 7, 2) := by decide +kernel
theorem dL_law_870 : decode cL_law 870 = .ok (.ifCond .eq 7, 3) := by decide +kernel
theorem dL_law_873 : decode cL_law 873 = .ok (.lconst 1, 1) := by decide +kernel
theorem dL_law_874 : decode cL_law 874 = .ok (.goto 4, 3) := by decide +kernel
theorem dL_law_877 : decode cL_law 877 = .ok (.lconst 0, 1) := by decide +kernel
theorem dL_law_878 : decode cL_law 878 = .ok (.lcmp, 1) := by decide +kernel
theorem dL_law_879 : decode cL_law 879 = .ok (.ifCond .eq 5, 3) := by decide +kernel
theorem dL_law_882 : decode cL_law 882 = .ok (.iconst 0, 1) := by decide +kernel
theorem dL_law_883 : decode cL_law 883 = .ok (.ireturn, 1) := by decide +kernel
theorem dL_law_884 : decode cL_law 884 = .ok (.goto 2510, 3) := by decide +kernel
theorem dL_law_887 : decode cL_law 887 = .ok (.aload_n 1, 1) := by decide +kernel
theorem dL_law_888 : decode cL_law 888 = .ok (.invokevirtual 230, 3) := by decide +kernel
theorem dL_law_891 : decode cL_law 891 = .ok (.aload_n 2, 1) := by decide +kernel
theorem dL_law_892 : decode cL_law 892 = .ok (.invokevirtual 233, 3) := by decide +kernel
theorem dL_law_895 : decode cL_law 895 = .ok (.if_icmp .eq 2499, 3) := by decide +kernel
theorem dL_law_898 : decode cL_law 898 = .ok (.iconst 0, 1) := by decide +kernel
theorem dL_law_899 : decode cL_law 899 = .ok (.ireturn, 1) := by decide +kernel
theorem dL_law_900 : decode cL_law 900 = .ok (.aload_n 1, 1) := by decide +kernel
theorem dL_law_901 : decode cL_law 901 = .ok (.aload_n 0, 1) := by decide +kernel
theorem dL_law_902 : decode cL_law 902 = .ok (.iload 5, 2) := by decide +kernel
theorem dL_law_904 : decode cL_law 904 = .ok (.iconst 1, 1) := by decide +kernel
theorem dL_law_905 : decode cL_law 905 = .ok (.iadd, 1) := by decide +kernel
theorem dL_law_906 : decode cL_law 906 = .ok (.iaload, 1) := by decide +kernel
theorem dL_law_907 : decode cL_law 907 = .ok (.aload_n 3, 1) := by decide +kernel
theorem dL_law_908 : decode cL_law 908 = .ok (.invokestatic 234, 3) := by decide +kernel
theorem dL_law_911 : decode cL_law 911 = .ok (.istore 6, 2) := by decide +kernel
theorem dL_law_913 : decode cL_law 913 = .ok (.aload_n 2, 1) := by decide +kernel
theorem dL_law_914 : decode cL_law 914 = .ok (.aload_n 0, 1) := by decide +kernel
theorem dL_law_915 : decode cL_law 915 = .ok (.iload 5, 2) := by decide +kernel
theorem dL_law_917 : decode cL_law 917 = .ok (.iconst 1, 1) := by decide +kernel
theorem dL_law_918 : decode cL_law 918 = .ok (.iadd, 1) := by decide +kernel
theorem dL_law_919 : decode cL_law 919 = .ok (.iaload, 1) := by decide +kernel
theorem dL_law_920 : decode cL_law 920 = .ok (.invokevirtual 236, 3) := by decide +kernel
theorem dL_law_923 : decode cL_law 923 = .ok (.istore 7, 2) := by decide +kernel
theorem dL_law_925 : decode cL_law 925 = .ok (.aload_n 2, 1) := by decide +kernel
theorem dL_law_926 : decode cL_law 926 = .ok (.invokevirtual 181, 3) := by decide +kernel
theorem dL_law_929 : decode cL_law 929 = .ok (.iload 6, 2) := by decide +kernel
theorem dL_law_931 : decode cL_law 931 = .ok (.if_icmp .eq 5, 3) := by decide +kernel
theorem dL_law_934 : decode cL_law 934 = .ok (.iconst 0, 1) := by decide +kernel
theorem dL_law_935 : decode cL_law 935 = .ok (.ireturn, 1) := by decide +kernel
theorem dL_law_936 : decode cL_law 936 = .ok (.iload 6, 2) := by decide +kernel
theorem dL_law_938 : decode cL_law 938 = .ok (.ifCond .ne 15, 3) := by decide +kernel
theorem dL_law_941 : decode cL_law 941 = .ok (.aload_n 3, 1) := by decide +kernel
theorem dL_law_942 : decode cL_law 942 = .ok (.iconst 0, 1) := by decide +kernel
theorem dL_law_943 : decode cL_law 943 = .ok (.laload, 1) := by decide +kernel
theorem dL_law_944 : decode cL_law 944 = .ok (.iload 7, 2) := by decide +kernel
theorem dL_law_946 : decode cL_law 946 = .ok (.i2l, 1) := by decide +kernel
theorem dL_law_947 : decode cL_law 947 = .ok (.lcmp, 1) := by decide +kernel
theorem dL_law_948 : decode cL_law 948 = .ok (.ifCond .eq 5, 3) := by decide +kernel
theorem dL_law_951 : decode cL_law 951 = .ok (.iconst 0, 1) := by decide +kernel
theorem dL_law_952 : decode cL_law 952 = .ok (.ireturn, 1) := by decide +kernel
theorem dL_law_953 : decode cL_law 953 = .ok (.goto 2441, 3) := by decide +kernel
theorem dL_law_956 : decode cL_law 956 = .ok (.aload_n 1, 1) := by decide +kernel
theorem dL_law_957 : decode cL_law 957 = .ok (.aload_n 0, 1) := by decide +kernel
theorem dL_law_958 : decode cL_law 958 = .ok (.iload 5, 2) := by decide +kernel
theorem dL_law_960 : decode cL_law 960 = .ok (.iconst 1, 1) := by decide +kernel
theorem dL_law_961 : decode cL_law 961 = .ok (.iadd, 1) := by decide +kernel
theorem dL_law_962 : decode cL_law 962 = .ok (.iaload, 1) := by decide +kernel
theorem dL_law_963 : decode cL_law 963 = .ok (.ifCond .eq 7, 3) := by decide +kernel
theorem dL_law_966 : decode cL_law 966 = .ok (.iconst 1, 1) := by decide +kernel
theorem dL_law_967 : decode cL_law 967 = .ok (.goto 4, 3) := by decide +kernel
theorem dL_law_970 : decode cL_law 970 = .ok (.iconst 0, 1) := by decide +kernel
theorem dL_law_971 : decode cL_law 971 = .ok (.invokevirtual 237, 3) := by decide +kernel
theorem dL_law_974 : decode cL_law 974 = .ok (.aload_n 2, 1) := by decide +kernel
theorem dL_law_975 : decode cL_law 975 = .ok (.aload_n 0, 1) := by decide +kernel
theorem dL_law_976 : decode cL_law 976 = .ok (.iload 5, 2) := by decide +kernel
theorem dL_law_978 : decode cL_law 978 = .ok (.iconst 1, 1) := by decide +kernel
theorem dL_law_979 : decode cL_law 979 = .ok (.iadd, 1) := by decide +kernel
theorem dL_law_980 : decode cL_law 980 = .ok (.iaload, 1) := by decide +kernel
theorem dL_law_981 : decode cL_law 981 = .ok (.ifCond .eq 7, 3) := by decide +kernel
theorem dL_law_984 : decode cL_law 984 = .ok (.iconst 1, 1) := by decide +kernel
theorem dL_law_985 : decode cL_law 985 = .ok (.goto 4, 3) := by decide +kernel
theorem dL_law_988 : decode cL_law 988 = .ok (.iconst 0, 1) := by decide +kernel
theorem dL_law_989 : decode cL_law 989 = .ok (.invokevirtual 240, 3) := by decide +kernel
theorem dL_law_992 : decode cL_law 992 = .ok (.if_icmp .eq 2402, 3) := by decide +kernel
theorem dL_law_995 : decode cL_law 995 = .ok (.iconst 0, 1) := by decide +kernel
theorem dL_law_996 : decode cL_law 996 = .ok (.ireturn, 1) := by decide +kernel
theorem dL_law_997 : decode cL_law 997 = .ok (.aload_n 1, 1) := by decide +kernel
theorem dL_law_998 : decode cL_law 998 = .ok (.aload_n 0, 1) := by decide +kernel
theorem dL_law_999 : decode cL_law 999 = .ok (.iload 5, 2) := by decide +kernel
theorem dL_law_1001 : decode cL_law 1001 = .ok (.iconst 1, 1) := by decide +kernel
theorem dL_law_1002 : decode cL_law 1002 = .ok (.iadd, 1) := by decide +kernel
theorem dL_law_1003 : decode cL_law 1003 = .ok (.iaload, 1) := by decide +kernel
theorem dL_law_1004 : decode cL_law 1004 = .ok (.aload_n 3, 1) := by decide +kernel
theorem dL_law_1005 : decode cL_law 1005 = .ok (.invokestatic 241, 3) := by decide +kernel
theorem dL_law_1008 : decode cL_law 1008 = .ok (.istore 6, 2) := by decide +kernel
theorem dL_law_1010 : decode cL_law 1010 = .ok (.aload_n 2, 1) := by decide +kernel
theorem dL_law_1011 : decode cL_law 1011 = .ok (.aload_n 0, 1) := by decide +kernel
theorem dL_law_1012 : decode cL_law 1012 = .ok (.iload 5, 2) := by decide +kernel
theorem dL_law_1014 : decode cL_law 1014 = .ok (.iconst 1, 1) := by decide +kernel
theorem dL_law_1015 : decode cL_law 1015 = .ok (.iadd, 1) := by decide +kernel
theorem dL_law_1016 : decode cL_law 1016 = .ok (.iaload, 1) := by decide +kernel
theorem dL_law_1017 : decode cL_law 1017 = .ok (.invokevirtual 243, 3) := by decide +kernel
theorem dL_law_1020 : decode cL_law 1020 = .ok (.istore 7, 2) := by decide +kernel
theorem dL_law_1022 : decode cL_law 1022 = .ok (.aload_n 2, 1) := by decide +kernel
theorem dL_law_1023 : decode cL_law 1023 = .ok (.invokevirtual 181, 3) := by decide +kernel
theorem dL_law_1026 : decode cL_law 1026 = .ok (.iload 6, 2) := by decide +kernel
theorem dL_law_1028 : decode cL_law 1028 = .ok (.if_icmp .eq 5, 3) := by decide +kernel
theorem dL_law_1031 : decode cL_law 1031 = .ok (.iconst 0, 1) := by decide +kernel
theorem dL_law_1032 : decode cL_law 1032 = .ok (.ireturn, 1) := by decide +kernel
theorem dL_law_1033 : decode cL_law 1033 = .ok (.iload 6, 2) := by decide +kernel
theorem dL_law_1035 : decode cL_law 1035 = .ok (.ifCond .ne 22, 3) := by decide +kernel
theorem dL_law_1038 : decode cL_law 1038 = .ok (.aload_n 3, 1) := by decide +kernel
theorem dL_law_1039 : decode cL_law 1039 = .ok (.iconst 0, 1) := by decide +kernel
theorem dL_law_1040 : decode cL_law 1040 = .ok (.laload, 1) := by decide +kernel
theorem dL_law_1041 : decode cL_law 1041 = .ok (.iload 7, 2) := by decide +kernel
theorem dL_law_1043 : decode cL_law 1043 = .ok (.ifCond .eq 7, 3) := by decide +kernel
theorem dL_law_1046 : decode cL_law 1046 = .ok (.lconst 1, 1) := by decide +kernel
theorem dL_law_1047 : decode cL_law 1047 = .ok (.goto 4, 3) := by decide +kernel
theorem dL_law_1050 : decode cL_law 1050 = .ok (.lconst 0, 1) := by decide +kernel
theorem dL_law_1051 : decode cL_law 1051 = .ok (.lcmp, 1) := by decide +kernel
theorem dL_law_1052 : decode cL_law 1052 = .ok (.ifCond .eq 5, 3) := by decide +kernel
theorem dL_law_1055 : decode cL_law 1055 = .ok (.iconst 0, 1) := by decide +kernel
theorem dL_law_1056 : decode cL_law 1056 = .ok (.ireturn, 1) := by decide +kernel
theorem dL_law_1057 : decode cL_law 1057 = .ok (.goto 2337, 3) := by decide +kernel
theorem dL_law_1060 : decode cL_law 1060 = .ok (.aload_n 1, 1) := by decide +kernel
theorem dL_law_1061 : decode cL_law 1061 = .ok (.aload_n 3, 1) := by decide +kernel
theorem dL_law_1062 : decode cL_law 1062 = .ok (.invokestatic 244, 3) := by decide +kernel
theorem dL_law_1065 : decode cL_law 1065 = .ok (.istore 6, 2) := by decide +kernel
theorem dL_law_1067 : decode cL_law 1067 = .ok (.aload_n 2, 1) := by decide +kernel
theorem dL_law_1068 : decode cL_law 1068 = .ok (.invokevirtual 246, 3) := by decide +kernel
theorem dL_law_1071 : decode cL_law 1071 = .ok (.istore 7, 2) := by decide +kernel
theorem dL_law_1073 : decode cL_law 1073 = .ok (.aload_n 2, 1) := by decide +kernel
theorem dL_law_1074 : decode cL_law 1074 = .ok (.invokevirtual 181, 3) := by decide +kernel
theorem dL_law_1077 : decode cL_law 1077 = .ok (.iload 6, 2) := by decide +kernel
theorem dL_law_1079 : decode cL_law 1079 = .ok (.if_icmp .eq 5, 3) := by decide +kernel
theorem dL_law_1082 : decode cL_law 1082 = .ok (.iconst 0, 1) := by decide +kernel
theorem dL_law_1083 : decode cL_law 1083 = .ok (.ireturn, 1) := by decide +kernel
theorem dL_law_1084 : decode cL_law 1084 = .ok (.iload 6, 2) := by decide +kernel
theorem dL_law_1086 : decode cL_law 1086 = .ok (.ifCond .ne 15, 3) := by decide +kernel
theorem dL_law_1089 : decode cL_law 1089 = .ok (.aload_n 3, 1) := by decide +kernel
theorem dL_law_1090 : decode cL_law 1090 = .ok (.iconst 0, 1) := by decide +kernel
theorem dL_law_1091 : decode cL_law 1091 = .ok (.laload, 1) := by decide +kernel
theorem dL_law_1092 : decode cL_law 1092 = .ok (.iload 7, 2) := by decide +kernel
theorem dL_law_1094 : decode cL_law 1094 = .ok (.i2l, 1) := by decide +kernel
theorem dL_law_1095 : decode cL_law 1095 = .ok (.lcmp, 1) := by decide +kernel
theorem dL_law_1096 : decode cL_law 1096 = .ok (.ifCond .eq 5, 3) := by decide +kernel
theorem dL_law_1099 : decode cL_law 1099 = .ok (.iconst 0, 1) := by decide +kernel
theorem dL_law_1100 : decode cL_law 1100 = .ok (.ireturn, 1) := by decide +kernel
theorem dL_law_1101 : decode cL_law 1101 = .ok (.goto 2293, 3) := by decide +kernel
theorem dL_law_1104 : decode cL_law 1104 = .ok (.aload_n 1, 1) := by decide +kernel
theorem dL_law_1105 : decode cL_law 1105 = .ok (.aload_n 0, 1) := by decide +kernel
theorem dL_law_1106 : decode cL_law 1106 = .ok (.iload 5, 2) := by decide +kernel
theorem dL_law_1108 : decode cL_law 1108 = .ok (.iconst 1, 1) := by decide +kernel
theorem dL_law_1109 : decode cL_law 1109 = .ok (.iadd, 1) := by decide +kernel
theorem dL_law_1110 : decode cL_law 1110 = .ok (.iaload, 1) := by decide +kernel
theorem dL_law_1111 : decode cL_law 1111 = .ok (.aload_n 3, 1) := by decide +kernel
theorem dL_law_1112 : decode cL_law 1112 = .ok (.invokestatic 247, 3) := by decide +kernel
theorem dL_law_1115 : decode cL_law 1115 = .ok (.istore 6, 2) := by decide +kernel
theorem dL_law_1117 : decode cL_law 1117 = .ok (.aload_n 2, 1) := by decide +kernel
theorem dL_law_1118 : decode cL_law 1118 = .ok (.aload_n 0, 1) := by decide +kernel
theorem dL_law_1119 : decode cL_law 1119 = .ok (.iload 5, 2) := by decide +kernel
theorem dL_law_1121 : decode cL_law 1121 = .ok (.iconst 1, 1) := by decide +kernel
theorem dL_law_1122 : decode cL_law 1122 = .ok (.iadd, 1) := by decide +kernel
theorem dL_law_1123 : decode cL_law 1123 = .ok (.iaload, 1) := by decide +kernel
theorem dL_law_1124 : decode cL_law 1124 = .ok (.invokevirtual 249, 3) := by decide +kernel
theorem dL_law_1127 : decode cL_law 1127 = .ok (.istore 7, 2) := by decide +kernel
theorem dL_law_1129 : decode cL_law 1129 = .ok (.aload_n 2, 1) := by decide +kernel
theorem dL_law_1130 : decode cL_law 1130 = .ok (.invokevirtual 181, 3) := by decide +kernel
theorem dL_law_1133 : decode cL_law 1133 = .ok (.iload 6, 2) := by decide +kernel
theorem dL_law_1135 : decode cL_law 1135 = .ok (.if_icmp .eq 5, 3) := by decide +kernel
theorem dL_law_1138 : decode cL_law 1138 = .ok (.iconst 0, 1) := by decide +kernel
theorem dL_law_1139 : decode cL_law 1139 = .ok (.ireturn, 1) := by decide +kernel
theorem dL_law_1140 : decode cL_law 1140 = .ok (.iload 6, 2) := by decide +kernel
theorem dL_law_1142 : decode cL_law 1142 = .ok (.ifCond .ne 15, 3) := by decide +kernel
theorem dL_law_1145 : decode cL_law 1145 = .ok (.aload_n 3, 1) := by decide +kernel
theorem dL_law_1146 : decode cL_law 1146 = .ok (.iconst 0, 1) := by decide +kernel
theorem dL_law_1147 : decode cL_law 1147 = .ok (.laload, 1) := by decide +kernel
theorem dL_law_1148 : decode cL_law 1148 = .ok (.iload 7, 2) := by decide +kernel
theorem dL_law_1150 : decode cL_law 1150 = .ok (.i2l, 1) := by decide +kernel
theorem dL_law_1151 : decode cL_law 1151 = .ok (.lcmp, 1) := by decide +kernel
theorem dL_law_1152 : decode cL_law 1152 = .ok (.ifCond .eq 5, 3) := by decide +kernel
theorem dL_law_1155 : decode cL_law 1155 = .ok (.iconst 0, 1) := by decide +kernel
theorem dL_law_1156 : decode cL_law 1156 = .ok (.ireturn, 1) := by decide +kernel
theorem dL_law_1157 : decode cL_law 1157 = .ok (.goto 2237, 3) := by decide +kernel
theorem dL_law_1160 : decode cL_law 1160 = .ok (.aload_n 1, 1) := by decide +kernel
theorem dL_law_1161 : decode cL_law 1161 = .ok (.aload_n 0, 1) := by decide +kernel
theorem dL_law_1162 : decode cL_law 1162 = .ok (.iload 5, 2) := by decide +kernel
theorem dL_law_1164 : decode cL_law 1164 = .ok (.iconst 1, 1) := by decide +kernel
theorem dL_law_1165 : decode cL_law 1165 = .ok (.iadd, 1) := by decide +kernel
theorem dL_law_1166 : decode cL_law 1166 = .ok (.iaload, 1) := by decide +kernel
theorem dL_law_1167 : decode cL_law 1167 = .ok (.aload_n 3, 1) := by decide +kernel
theorem dL_law_1168 : decode cL_law 1168 = .ok (.invokestatic 250, 3) := by decide +kernel
theorem dL_law_1171 : decode cL_law 1171 = .ok (.istore 6, 2) := by decide +kernel
theorem dL_law_1173 : decode cL_law 1173 = .ok (.aload_n 2, 1) := by decide +kernel
theorem dL_law_1174 : decode cL_law 1174 = .ok (.aload_n 0, 1) := by decide +kernel
theorem dL_law_1175 : decode cL_law 1175 = .ok (.iload 5, 2) := by decide +kernel
theorem dL_law_1177 : decode cL_law 1177 = .ok (.iconst 1, 1) := by decide +kernel
theorem dL_law_1178 : decode cL_law 1178 = .ok (.iadd, 1) := by decide +kernel
theorem dL_law_1179 : decode cL_law 1179 = .ok (.iaload, 1) := by decide +kernel
theorem dL_law_1180 : decode cL_law 1180 = .ok (.invokevirtual 252, 3) := by decide +kernel
theorem dL_law_1183 : decode cL_law 1183 = .ok (.istore 7, 2) := by decide +kernel
theorem dL_law_1185 : decode cL_law 1185 = .ok (.aload_n 2, 1) := by decide +kernel
theorem dL_law_1186 : decode cL_law 1186 = .ok (.invokevirtual 181, 3) := by decide +kernel
theorem dL_law_1189 : decode cL_law 1189 = .ok (.iload 6, 2) := by decide +kernel
theorem dL_law_1191 : decode cL_law 1191 = .ok (.if_icmp .eq 5, 3) := by decide +kernel
theorem dL_law_1194 : decode cL_law 1194 = .ok (.iconst 0, 1) := by decide +kernel
theorem dL_law_1195 : decode cL_law 1195 = .ok (.ireturn, 1) := by decide +kernel
theorem dL_law_1196 : decode cL_law 1196 = .ok (.iload 6, 2) := by decide +kernel
theorem dL_law_1198 : decode cL_law 1198 = .ok (.ifCond .ne 15, 3) := by decide +kernel
theorem dL_law_1201 : decode cL_law 1201 = .ok (.aload_n 3, 1) := by decide +kernel
theorem dL_law_1202 : decode cL_law 1202 = .ok (.iconst 0, 1) := by decide +kernel
theorem dL_law_1203 : decode cL_law 1203 = .ok (.laload, 1) := by decide +kernel
theorem dL_law_1204 : decode cL_law 1204 = .ok (.iload 7, 2) := by decide +kernel
theorem dL_law_1206 : decode cL_law 1206 = .ok (.i2l, 1) := by decide +kernel
theorem dL_law_1207 : decode cL_law 1207 = .ok (.lcmp, 1) := by decide +kernel
theorem dL_law_1208 : decode cL_law 1208 = .ok (.ifCond .eq 5, 3) := by decide +kernel
theorem dL_law_1211 : decode cL_law 1211 = .ok (.iconst 0, 1) := by decide +kernel
theorem dL_law_1212 : decode cL_law 1212 = .ok (.ireturn, 1) := by decide +kernel
theorem dL_law_1213 : decode cL_law 1213 = .ok (.goto 2181, 3) := by decide +kernel
theorem dL_law_1216 : decode cL_law 1216 = .ok (.aload_n 1, 1) := by decide +kernel
theorem dL_law_1217 : decode cL_law 1217 = .ok (.aload_n 0, 1) := by decide +kernel
theorem dL_law_1218 : decode cL_law 1218 = .ok (.iload 5, 2) := by decide +kernel
theorem dL_law_1220 : decode cL_law 1220 = .ok (.iconst 1, 1) := by decide +kernel
theorem dL_law_1221 : decode cL_law 1221 = .ok (.iadd, 1) := by decide +kernel
theorem dL_law_1222 : decode cL_law 1222 = .ok (.iaload, 1) := by decide +kernel
theorem dL_law_1223 : decode cL_law 1223 = .ok (.aload_n 3, 1) := by decide +kernel
theorem dL_law_1224 : decode cL_law 1224 = .ok (.invokestatic 253, 3) := by decide +kernel
theorem dL_law_1227 : decode cL_law 1227 = .ok (.istore 6, 2) := by decide +kernel
theorem dL_law_1229 : decode cL_law 1229 = .ok (.aload_n 2, 1) := by decide +kernel
theorem dL_law_1230 : decode cL_law 1230 = .ok (.aload_n 0, 1) := by decide +kernel
theorem dL_law_1231 : decode cL_law 1231 = .ok (.iload 5, 2) := by decide +kernel
theorem dL_law_1233 : decode cL_law 1233 = .ok (.iconst 1, 1) := by decide +kernel
theorem dL_law_1234 : decode cL_law 1234 = .ok (.iadd, 1) := by decide +kernel
theorem dL_law_1235 : decode cL_law 1235 = .ok (.iaload, 1) := by decide +kernel
theorem dL_law_1236 : decode cL_law 1236 = .ok (.invokevirtual 255, 3) := by decide +kernel
theorem dL_law_1239 : decode cL_law 1239 = .ok (.istore 7, 2) := by decide +kernel
theorem dL_law_1241 : decode cL_law 1241 = .ok (.aload_n 2, 1) := by decide +kernel
theorem dL_law_1242 : decode cL_law 1242 = .ok (.invokevirtual 181, 3) := by decide +kernel
theorem dL_law_1245 : decode cL_law 1245 = .ok (.iload 6, 2) := by decide +kernel
theorem dL_law_1247 : decode cL_law 1247 = .ok (.if_icmp .eq 5, 3) := by decide +kernel
theorem dL_law_1250 : decode cL_law 1250 = .ok (.iconst 0, 1) := by decide +kernel
theorem dL_law_1251 : decode cL_law 1251 = .ok (.ireturn, 1) := by decide +kernel
theorem dL_law_1252 : decode cL_law 1252 = .ok (.iload 6, 2) := by decide +kernel
theorem dL_law_1254 : decode cL_law 1254 = .ok (.ifCond .ne 15, 3) := by decide +kernel
theorem dL_law_1257 : decode cL_law 1257 = .ok (.aload_n 3, 1) := by decide +kernel
theorem dL_law_1258 : decode cL_law 1258 = .ok (.iconst 0, 1) := by decide +kernel
theorem dL_law_1259 : decode cL_law 1259 = .ok (.laload, 1) := by decide +kernel
theorem dL_law_1260 : decode cL_law 1260 = .ok (.iload 7, 2) := by decide +kernel
theorem dL_law_1262 : decode cL_law 1262 = .ok (.i2l, 1) := by decide +kernel
theorem dL_law_1263 : decode cL_law 1263 = .ok (.lcmp, 1) := by decide +kernel
theorem dL_law_1264 : decode cL_law 1264 = .ok (.ifCond .eq 5, 3) := by decide +kernel
theorem dL_law_1267 : decode cL_law 1267 = .ok (.iconst 0, 1) := by decide +kernel
theorem dL_law_1268 : decode cL_law 1268 = .ok (.ireturn, 1) := by decide +kernel
theorem dL_law_1269 : decode cL_law 1269 = .ok (.goto 2125, 3) := by decide +kernel
theorem dL_law_1272 : decode cL_law 1272 = .ok (.aload_n 1, 1) := by decide +kernel
theorem dL_law_1273 : decode cL_law 1273 = .ok (.aload_n 0, 1) := by decide +kernel
theorem dL_law_1274 : decode cL_law 1274 = .ok (.iload 5, 2) := by decide +kernel
theorem dL_law_1276 : decode cL_law 1276 = .ok (.iconst 1, 1) := by decide +kernel
theorem dL_law_1277 : decode cL_law 1277 = .ok (.iadd, 1) := by decide +kernel
theorem dL_law_1278 : decode cL_law 1278 = .ok (.iaload, 1) := by decide +kernel
theorem dL_law_1279 : decode cL_law 1279 = .ok (.aload_n 3, 1) := by decide +kernel
theorem dL_law_1280 : decode cL_law 1280 = .ok (.invokestatic 256, 3) := by decide +kernel
theorem dL_law_1283 : decode cL_law 1283 = .ok (.istore 6, 2) := by decide +kernel
theorem dL_law_1285 : decode cL_law 1285 = .ok (.aload_n 2, 1) := by decide +kernel
theorem dL_law_1286 : decode cL_law 1286 = .ok (.aload_n 0, 1) := by decide +kernel
theorem dL_law_1287 : decode cL_law 1287 = .ok (.iload 5, 2) := by decide +kernel
theorem dL_law_1289 : decode cL_law 1289 = .ok (.iconst 1, 1) := by decide +kernel
theorem dL_law_1290 : decode cL_law 1290 = .ok (.iadd, 1) := by decide +kernel
theorem dL_law_1291 : decode cL_law 1291 = .ok (.iaload, 1) := by decide +kernel
theorem dL_law_1292 : decode cL_law 1292 = .ok (.invokevirtual 258, 3) := by decide +kernel
theorem dL_law_1295 : decode cL_law 1295 = .ok (.istore 7, 2) := by decide +kernel
theorem dL_law_1297 : decode cL_law 1297 = .ok (.aload_n 2, 1) := by decide +kernel
theorem dL_law_1298 : decode cL_law 1298 = .ok (.invokevirtual 181, 3) := by decide +kernel
theorem dL_law_1301 : decode cL_law 1301 = .ok (.iload 6, 2) := by decide +kernel
theorem dL_law_1303 : decode cL_law 1303 = .ok (.if_icmp .eq 5, 3) := by decide +kernel
theorem dL_law_1306 : decode cL_law 1306 = .ok (.iconst 0, 1) := by decide +kernel
theorem dL_law_1307 : decode cL_law 1307 = .ok (.ireturn, 1) := by decide +kernel
theorem dL_law_1308 : decode cL_law 1308 = .ok (.iload 6, 2) := by decide +kernel
theorem dL_law_1310 : decode cL_law 1310 = .ok (.ifCond .ne 15, 3) := by decide +kernel
theorem dL_law_1313 : decode cL_law 1313 = .ok (.aload_n 3, 1) := by decide +kernel
theorem dL_law_1314 : decode cL_law 1314 = .ok (.iconst 0, 1) := by decide +kernel
theorem dL_law_1315 : decode cL_law 1315 = .ok (.laload, 1) := by decide +kernel
theorem dL_law_1316 : decode cL_law 1316 = .ok (.iload 7, 2) := by decide +kernel
theorem dL_law_1318 : decode cL_law 1318 = .ok (.i2l, 1) := by decide +kernel
theorem dL_law_1319 : decode cL_law 1319 = .ok (.lcmp, 1) := by decide +kernel
theorem dL_law_1320 : decode cL_law 1320 = .ok (.ifCond .eq 5, 3) := by decide +kernel
theorem dL_law_1323 : decode cL_law 1323 = .ok (.iconst 0, 1) := by decide +kernel
theorem dL_law_1324 : decode cL_law 1324 = .ok (.ireturn, 1) := by decide +kernel
theorem dL_law_1325 : decode cL_law 1325 = .ok (.goto 2069, 3) := by decide +kernel
theorem dL_law_1328 : decode cL_law 1328 = .ok (.aload_n 1, 1) := by decide +kernel
theorem dL_law_1329 : decode cL_law 1329 = .ok (.aload_n 0, 1) := by decide +kernel
theorem dL_law_1330 : decode cL_law 1330 = .ok (.iload 5, 2) := by decide +kernel
theorem dL_law_1332 : decode cL_law 1332 = .ok (.iconst 1, 1) := by decide +kernel
theorem dL_law_1333 : decode cL_law 1333 = .ok (.iadd, 1) := by decide +kernel
theorem dL_law_1334 : decode cL_law 1334 = .ok (.iaload, 1) := by decide +kernel
theorem dL_law_1335 : decode cL_law 1335 = .ok (.aload_n 3, 1) := by decide +kernel
theorem dL_law_1336 : decode cL_law 1336 = .ok (.invokestatic 259, 3) := by decide +kernel
theorem dL_law_1339 : decode cL_law 1339 = .ok (.istore 6, 2) := by decide +kernel
theorem dL_law_1341 : decode cL_law 1341 = .ok (.aload_n 2, 1) := by decide +kernel
theorem dL_law_1342 : decode cL_law 1342 = .ok (.aload_n 0, 1) := by decide +kernel
theorem dL_law_1343 : decode cL_law 1343 = .ok (.iload 5, 2) := by decide +kernel
theorem dL_law_1345 : decode cL_law 1345 = .ok (.iconst 1, 1) := by decide +kernel
theorem dL_law_1346 : decode cL_law 1346 = .ok (.iadd, 1) := by decide +kernel
theorem dL_law_1347 : decode cL_law 1347 = .ok (.iaload, 1) := by decide +kernel
theorem dL_law_1348 : decode cL_law 1348 = .ok (.invokevirtual 261, 3) := by decide +kernel
theorem dL_law_1351 : decode cL_law 1351 = .ok (.istore 7, 2) := by decide +kernel
theorem dL_law_1353 : decode cL_law 1353 = .ok (.aload_n 2, 1) := by decide +kernel
theorem dL_law_1354 : decode cL_law 1354 = .ok (.invokevirtual 181, 3) := by decide +kernel
theorem dL_law_1357 : decode cL_law 1357 = .ok (.iload 6, 2) := by decide +kernel
theorem dL_law_1359 : decode cL_law 1359 = .ok (.if_icmp .eq 5, 3) := by decide +kernel
theorem dL_law_1362 : decode cL_law 1362 = .ok (.iconst 0, 1) := by decide +kernel
theorem dL_law_1363 : decode cL_law 1363 = .ok (.ireturn, 1) := by decide +kernel
theorem dL_law_1364 : decode cL_law 1364 = .ok (.iload 6, 2) := by decide +kernel
theorem dL_law_1366 : decode cL_law 1366 = .ok (.ifCond .ne 15, 3) := by decide +kernel
theorem dL_law_1369 : decode cL_law 1369 = .ok (.aload_n 3, 1) := by decide +kernel
theorem dL_law_1370 : decode cL_law 1370 = .ok (.iconst 0, 1) := by decide +kernel
theorem dL_law_1371 : decode cL_law 1371 = .ok (.laload, 1) := by decide +kernel
theorem dL_law_1372 : decode cL_law 1372 = .ok (.iload 7, 2) := by decide +kernel
theorem dL_law_1374 : decode cL_law 1374 = .ok (.i2l, 1) := by decide +kernel
theorem dL_law_1375 : decode cL_law 1375 = .ok (.lcmp, 1) := by decide +kernel
theorem dL_law_1376 : decode cL_law 1376 = .ok (.ifCond .eq 5, 3) := by decide +kernel
theorem dL_law_1379 : decode cL_law 1379 = .ok (.iconst 0, 1) := by decide +kernel
theorem dL_law_1380 : decode cL_law 1380 = .ok (.ireturn, 1) := by decide +kernel
theorem dL_law_1381 : decode cL_law 1381 = .ok (.goto 2013, 3) := by decide +kernel
theorem dL_law_1384 : decode cL_law 1384 = .ok (.aload_n 1, 1) := by decide +kernel
theorem dL_law_1385 : decode cL_law 1385 = .ok (.aload_n 3, 1) := by decide +kernel
theorem dL_law_1386 : decode cL_law 1386 = .ok (.invokestatic 262, 3) := by decide +kernel
theorem dL_law_1389 : decode cL_law 1389 = .ok (.istore 6, 2) := by decide +kernel
theorem dL_law_1391 : decode cL_law 1391 = .ok (.aload_n 2, 1) := by decide +kernel
theorem dL_law_1392 : decode cL_law 1392 = .ok (.invokevirtual 264, 3) := by decide +kernel
theorem dL_law_1395 : decode cL_law 1395 = .ok (.istore 7, 2) := by decide +kernel
theorem dL_law_1397 : decode cL_law 1397 = .ok (.aload_n 2, 1) := by decide +kernel
theorem dL_law_1398 : decode cL_law 1398 = .ok (.invokevirtual 181, 3) := by decide +kernel
theorem dL_law_1401 : decode cL_law 1401 = .ok (.iload 6, 2) := by decide +kernel
theorem dL_law_1403 : decode cL_law 1403 = .ok (.if_icmp .eq 5, 3) := by decide +kernel
theorem dL_law_1406 : decode cL_law 1406 = .ok (.iconst 0, 1) := by decide +kernel
theorem dL_law_1407 : decode cL_law 1407 = .ok (.ireturn, 1) := by decide +kernel
theorem dL_law_1408 : decode cL_law 1408 = .ok (.iload 6, 2) := by decide +kernel
theorem dL_law_1410 : decode cL_law 1410 = .ok (.ifCond .ne 15, 3) := by decide +kernel
theorem dL_law_1413 : decode cL_law 1413 = .ok (.aload_n 3, 1) := by decide +kernel
theorem dL_law_1414 : decode cL_law 1414 = .ok (.iconst 0, 1) := by decide +kernel
theorem dL_law_1415 : decode cL_law 1415 = .ok (.laload, 1) := by decide +kernel
theorem dL_law_1416 : decode cL_law 1416 = .ok (.iload 7, 2) := by decide +kernel
theorem dL_law_1418 : decode cL_law 1418 = .ok (.i2l, 1) := by decide +kernel
theorem dL_law_1419 : decode cL_law 1419 = .ok (.lcmp, 1) := by decide +kernel
theorem dL_law_1420 : decode cL_law 1420 = .ok (.ifCond .eq 5, 3) := by decide +kernel
theorem dL_law_1423 : decode cL_law 1423 = .ok (.iconst 0, 1) := by decide +kernel
theorem dL_law_1424 : decode cL_law 1424 = .ok (.ireturn, 1) := by decide +kernel
theorem dL_law_1425 : decode cL_law 1425 = .ok (.goto 1969, 3) := by decide +kernel
theorem dL_law_1428 : decode cL_law 1428 = .ok (.aload_n 1, 1) := by decide +kernel
theorem dL_law_1429 : decode cL_law 1429 = .ok (.invokevirtual 265, 3) := by decide +kernel
theorem dL_law_1432 : decode cL_law 1432 = .ok (.aload_n 2, 1) := by decide +kernel
theorem dL_law_1433 : decode cL_law 1433 = .ok (.invokevirtual 268, 3) := by decide +kernel
theorem dL_law_1436 : decode cL_law 1436 = .ok (.if_icmp .eq 1958, 3) := by decide +kernel
theorem dL_law_1439 : decode cL_law 1439 = .ok (.iconst 0, 1) := by decide +kernel
theorem dL_law_1440 : decode cL_law 1440 = .ok (.ireturn, 1) := by decide +kernel
theorem dL_law_1441 : decode cL_law 1441 = .ok (.aload_n 1, 1) := by decide +kernel
theorem dL_law_1442 : decode cL_law 1442 = .ok (.aload_n 3, 1) := by decide +kernel
theorem dL_law_1443 : decode cL_law 1443 = .ok (.invokestatic 269, 3) := by decide +kernel
theorem dL_law_1446 : decode cL_law 1446 = .ok (.istore 6, 2) := by decide +kernel
theorem dL_law_1448 : decode cL_law 1448 = .ok (.aload_n 2, 1) := by decide +kernel
theorem dL_law_1449 : decode cL_law 1449 = .ok (.invokevirtual 271, 3) := by decide +kernel
theorem dL_law_1452 : decode cL_law 1452 = .ok (.istore 7, 2) := by decide +kernel
theorem dL_law_1454 : decode cL_law 1454 = .ok (.aload_n 2, 1) := by decide +kernel
theorem dL_law_1455 : decode cL_law 1455 = .ok (.invokevirtual 181, 3) := by decide +kernel
theorem dL_law_1458 : decode cL_law 1458 = .ok (.iload 6, 2) := by decide +kernel
theorem dL_law_1460 : decode cL_law 1460 = .ok (.if_icmp .eq 5, 3) := by decide +kernel
theorem dL_law_1463 : decode cL_law 1463 = .ok (.iconst 0, 1) := by decide +kernel
theorem dL_law_1464 : decode cL_law 1464 = .ok (.ireturn, 1) := by decide +kernel
theorem dL_law_1465 : decode cL_law 1465 = .ok (.iload 6, 2) := by decide +kernel
theorem dL_law_1467 : decode cL_law 1467 = .ok (.ifCond .ne 15, 3) := by decide +kernel
theorem dL_law_1470 : decode cL_law 1470 = .ok (.aload_n 3, 1) := by decide +kernel
theorem dL_law_1471 : decode cL_law 1471 = .ok (.iconst 0, 1) := by decide +kernel
theorem dL_law_1472 : decode cL_law 1472 = .ok (.laload, 1) := by decide +kernel
theorem dL_law_1473 : decode cL_law 1473 = .ok (.iload 7, 2) := by decide +kernel
theorem dL_law_1475 : decode cL_law 1475 = .ok (.i2l, 1) := by decide +kernel
theorem dL_law_1476 : decode cL_law 1476 = .ok (.lcmp, 1) := by decide +kernel
theorem dL_law_1477 : decode cL_law 1477 = .ok (.ifCond .eq 5, 3) := by decide +kernel
theorem dL_law_1480 : decode cL_law 1480 = .ok (.iconst 0, 1) := by decide +kernel
theorem dL_law_1481 : decode cL_law 1481 = .ok (.ireturn, 1) := by decide +kernel
theorem dL_law_1482 : decode cL_law 1482 = .ok (.goto 1912, 3) := by decide +kernel
theorem dL_law_1485 : decode cL_law 1485 = .ok (.aload_n 1, 1) := by decide +kernel
theorem dL_law_1486 : decode cL_law 1486 = .ok (.invokevirtual 272, 3) := by decide +kernel
theorem dL_law_1489 : decode cL_law 1489 = .ok (.aload_n 2, 1) := by decide +kernel
theorem dL_law_1490 : decode cL_law 1490 = .ok (.invokevirtual 275, 3) := by decide +kernel
theorem dL_law_1493 : decode cL_law 1493 = .ok (.if_icmp .eq 1901, 3) := by decide +kernel
theorem dL_law_1496 : decode cL_law 1496 = .ok (.iconst 0, 1) := by decide +kernel
theorem dL_law_1497 : decode cL_law 1497 = .ok (.ireturn, 1) := by decide +kernel
theorem dL_law_1498 : decode cL_law 1498 = .ok (.aload_n 1, 1) := by decide +kernel
theorem dL_law_1499 : decode cL_law 1499 = .ok (.aload_n 0, 1) := by decide +kernel
theorem dL_law_1500 : decode cL_law 1500 = .ok (.iload 5, 2) := by decide +kernel
theorem dL_law_1502 : decode cL_law 1502 = .ok (.iconst 1, 1) := by decide +kernel
theorem dL_law_1503 : decode cL_law 1503 = .ok (.iadd, 1) := by decide +kernel
theorem dL_law_1504 : decode cL_law 1504 = .ok (.iaload, 1) := by decide +kernel
theorem dL_law_1505 : decode cL_law 1505 = .ok (.aload_n 0, 1) := by decide +kernel
theorem dL_law_1506 : decode cL_law 1506 = .ok (.iload 5, 2) := by decide +kernel
theorem dL_law_1508 : decode cL_law 1508 = .ok (.iconst 2, 1) := by decide +kernel
theorem dL_law_1509 : decode cL_law 1509 = .ok (.iadd, 1) := by decide +kernel
theorem dL_law_1510 : decode cL_law 1510 = .ok (.iaload, 1) := by decide +kernel
theorem dL_law_1511 : decode cL_law 1511 = .ok (.ifCond .eq 7, 3) := by decide +kernel
theorem dL_law_1514 : decode cL_law 1514 = .ok (.iconst 1, 1) := by decide +kernel
theorem dL_law_1515 : decode cL_law 1515 = .ok (.goto 4, 3) := by decide +kernel
theorem dL_law_1518 : decode cL_law 1518 = .ok (.iconst 0, 1) := by decide +kernel
theorem dL_law_1519 : decode cL_law 1519 = .ok (.aload_n 3, 1) := by decide +kernel
theorem dL_law_1520 : decode cL_law 1520 = .ok (.invokestatic 276, 3) := by decide +kernel
theorem dL_law_1523 : decode cL_law 1523 = .ok (.istore 6, 2) := by decide +kernel
theorem dL_law_1525 : decode cL_law 1525 = .ok (.aload_n 2, 1) := by decide +kernel
theorem dL_law_1526 : decode cL_law 1526 = .ok (.aload_n 0, 1) := by decide +kernel
theorem dL_law_1527 : decode cL_law 1527 = .ok (.iload 5, 2) := by decide +kernel
theorem dL_law_1529 : decode cL_law 1529 = .ok (.iconst 1, 1) := by decide +kernel
theorem dL_law_1530 : decode cL_law 1530 = .ok (.iadd, 1) := by decide +kernel
theorem dL_law_1531 : decode cL_law 1531 = .ok (.iaload, 1) := by decide +kernel
theorem dL_law_1532 : decode cL_law 1532 = .ok (.aload_n 0, 1) := by decide +kernel
theorem dL_law_1533 : decode cL_law 1533 = .ok (.iload 5, 2) := by decide +kernel
theorem dL_law_1535 : decode cL_law 1535 = .ok (.iconst 2, 1) := by decide +kernel
theorem dL_law_1536 : decode cL_law 1536 = .ok (.iadd, 1) := by decide +kernel
theorem dL_law_1537 : decode cL_law 1537 = .ok (.iaload, 1) := by decide +kernel
theorem dL_law_1538 : decode cL_law 1538 = .ok (.ifCond .eq 7, 3) := by decide +kernel
theorem dL_law_1541 : decode cL_law 1541 = .ok (.iconst 1, 1) := by decide +kernel
theorem dL_law_1542 : decode cL_law 1542 = .ok (.goto 4, 3) := by decide +kernel
theorem dL_law_1545 : decode cL_law 1545 = .ok (.iconst 0, 1) := by decide +kernel
theorem dL_law_1546 : decode cL_law 1546 = .ok (.invokevirtual 278, 3) := by decide +kernel
theorem dL_law_1549 : decode cL_law 1549 = .ok (.istore 7, 2) := by decide +kernel
theorem dL_law_1551 : decode cL_law 1551 = .ok (.aload_n 2, 1) := by decide +kernel
theorem dL_law_1552 : decode cL_law 1552 = .ok (.invokevirtual 181, 3) := by decide +kernel
theorem dL_law_1555 : decode cL_law 1555 = .ok (.iload 6, 2) := by decide +kernel
theorem dL_law_1557 : decode cL_law 1557 = .ok (.if_icmp .eq 5, 3) := by decide +kernel
theorem dL_law_1560 : decode cL_law 1560 = .ok (.iconst 0, 1) := by decide +kernel
theorem dL_law_1561 : decode cL_law 1561 = .ok (.ireturn, 1) := by decide +kernel
theorem dL_law_1562 : decode cL_law 1562 = .ok (.iload 6, 2) := by decide +kernel
theorem dL_law_1564 : decode cL_law 1564 = .ok (.ifCond .ne 15, 3) := by decide +kernel
theorem dL_law_1567 : decode cL_law 1567 = .ok (.aload_n 3, 1) := by decide +kernel
theorem dL_law_1568 : decode cL_law 1568 = .ok (.iconst 0, 1) := by decide +kernel
theorem dL_law_1569 : decode cL_law 1569 = .ok (.laload, 1) := by decide +kernel
theorem dL_law_1570 : decode cL_law 1570 = .ok (.iload 7, 2) := by decide +kernel
theorem dL_law_1572 : decode cL_law 1572 = .ok (.i2l, 1) := by decide +kernel
theorem dL_law_1573 : decode cL_law 1573 = .ok (.lcmp, 1) := by decide +kernel
theorem dL_law_1574 : decode cL_law 1574 = .ok (.ifCond .eq 5, 3) := by decide +kernel
theorem dL_law_1577 : decode cL_law 1577 = .ok (.iconst 0, 1) := by decide +kernel
theorem dL_law_1578 : decode cL_law 1578 = .ok (.ireturn, 1) := by decide +kernel
theorem dL_law_1579 : decode cL_law 1579 = .ok (.goto 1815, 3) := by decide +kernel
theorem dL_law_1582 : decode cL_law 1582 = .ok (.aload_n 1, 1) := by decide +kernel
theorem dL_law_1583 : decode cL_law 1583 = .ok (.aload_n 0, 1) := by decide +kernel
theorem dL_law_1584 : decode cL_law 1584 = .ok (.iload 5, 2) := by decide +kernel
theorem dL_law_1586 : decode cL_law 1586 = .ok (.iconst 1, 1) := by decide +kernel
theorem dL_law_1587 : decode cL_law 1587 = .ok (.iadd, 1) := by decide +kernel
theorem dL_law_1588 : decode cL_law 1588 = .ok (.iaload, 1) := by decide +kernel
theorem dL_law_1589 : decode cL_law 1589 = .ok (.i2l, 1) := by decide +kernel
theorem dL_law_1590 : decode cL_law 1590 = .ok (.bipush 32, 2) := by decide +kernel
theorem dL_law_1592 : decode cL_law 1592 = .ok (.lshl, 1) := by decide +kernel
theorem dL_law_1593 : decode cL_law 1593 = .ok (.aload_n 0, 1) := by decide +kernel
theorem dL_law_1594 : decode cL_law 1594 = .ok (.iload 5, 2) := by decide +kernel
theorem dL_law_1596 : decode cL_law 1596 = .ok (.iconst 2, 1) := by decide +kernel
theorem dL_law_1597 : decode cL_law 1597 = .ok (.iadd, 1) := by decide +kernel
theorem dL_law_1598 : decode cL_law 1598 = .ok (.iaload, 1) := by decide +kernel
theorem dL_law_1599 : decode cL_law 1599 = .ok (.i2l, 1) := by decide +kernel
theorem dL_law_1600 : decode cL_law 1600 = .ok (.ldc2_w 279, 3) := by decide +kernel
theorem dL_law_1603 : decode cL_law 1603 = .ok (.land, 1) := by decide +kernel
theorem dL_law_1604 : decode cL_law 1604 = .ok (.lor, 1) := by decide +kernel
theorem dL_law_1605 : decode cL_law 1605 = .ok (.aload_n 3, 1) := by decide +kernel
theorem dL_law_1606 : decode cL_law 1606 = .ok (.invokestatic 281, 3) := by decide +kernel
theorem dL_law_1609 : decode cL_law 1609 = .ok (.istore 6, 2) := by decide +kernel
theorem dL_law_1611 : decode cL_law 1611 = .ok (.aload_n 2, 1) := by decide +kernel
theorem dL_law_1612 : decode cL_law 1612 = .ok (.aload_n 0, 1) := by decide +kernel
theorem dL_law_1613 : decode cL_law 1613 = .ok (.iload 5, 2) := by decide +kernel
theorem dL_law_1615 : decode cL_law 1615 = .ok (.iconst 1, 1) := by decide +kernel
theorem dL_law_1616 : decode cL_law 1616 = .ok (.iadd, 1) := by decide +kernel
theorem dL_law_1617 : decode cL_law 1617 = .ok (.iaload, 1) := by decide +kernel
theorem dL_law_1618 : decode cL_law 1618 = .ok (.i2l, 1) := by decide +kernel
theorem dL_law_1619 : decode cL_law 1619 = .ok (.bipush 32, 2) := by decide +kernel
theorem dL_law_1621 : decode cL_law 1621 = .ok (.lshl, 1) := by decide +kernel
theorem dL_law_1622 : decode cL_law 1622 = .ok (.aload_n 0, 1) := by decide +kernel
theorem dL_law_1623 : decode cL_law 1623 = .ok (.iload 5, 2) := by decide +kernel
theorem dL_law_1625 : decode cL_law 1625 = .ok (.iconst 2, 1) := by decide +kernel
theorem dL_law_1626 : decode cL_law 1626 = .ok (.iadd, 1) := by decide +kernel
theorem dL_law_1627 : decode cL_law 1627 = .ok (.iaload, 1) := by decide +kernel
theorem dL_law_1628 : decode cL_law 1628 = .ok (.i2l, 1) := by decide +kernel
theorem dL_law_1629 : decode cL_law 1629 = .ok (.ldc2_w 279, 3) := by decide +kernel
theorem dL_law_1632 : decode cL_law 1632 = .ok (.land, 1) := by decide +kernel
theorem dL_law_1633 : decode cL_law 1633 = .ok (.lor, 1) := by decide +kernel
theorem dL_law_1634 : decode cL_law 1634 = .ok (.invokevirtual 284, 3) := by decide +kernel
theorem dL_law_1637 : decode cL_law 1637 = .ok (.istore 7, 2) := by decide +kernel
theorem dL_law_1639 : decode cL_law 1639 = .ok (.aload_n 2, 1) := by decide +kernel
theorem dL_law_1640 : decode cL_law 1640 = .ok (.invokevirtual 181, 3) := by decide +kernel
theorem dL_law_1643 : decode cL_law 1643 = .ok (.iload 6, 2) := by decide +kernel
theorem dL_law_1645 : decode cL_law 1645 = .ok (.if_icmp .eq 5, 3) := by decide +kernel
theorem dL_law_1648 : decode cL_law 1648 = .ok (.iconst 0, 1) := by decide +kernel
theorem dL_law_1649 : decode cL_law 1649 = .ok (.ireturn, 1) := by decide +kernel
theorem dL_law_1650 : decode cL_law 1650 = .ok (.iload 6, 2) := by decide +kernel
theorem dL_law_1652 : decode cL_law 1652 = .ok (.ifCond .ne 15, 3) := by decide +kernel
theorem dL_law_1655 : decode cL_law 1655 = .ok (.aload_n 3, 1) := by decide +kernel
theorem dL_law_1656 : decode cL_law 1656 = .ok (.iconst 0, 1) := by decide +kernel
theorem dL_law_1657 : decode cL_law 1657 = .ok (.laload, 1) := by decide +kernel
theorem dL_law_1658 : decode cL_law 1658 = .ok (.iload 7, 2) := by decide +kernel
theorem dL_law_1660 : decode cL_law 1660 = .ok (.i2l, 1) := by decide +kernel
theorem dL_law_1661 : decode cL_law 1661 = .ok (.lcmp, 1) := by decide +kernel
theorem dL_law_1662 : decode cL_law 1662 = .ok (.ifCond .eq 5, 3) := by decide +kernel
theorem dL_law_1665 : decode cL_law 1665 = .ok (.iconst 0, 1) := by decide +kernel
theorem dL_law_1666 : decode cL_law 1666 = .ok (.ireturn, 1) := by decide +kernel
theorem dL_law_1667 : decode cL_law 1667 = .ok (.goto 1727, 3) := by decide +kernel
theorem dL_law_1670 : decode cL_law 1670 = .ok (.aload_n 1, 1) := by decide +kernel
theorem dL_law_1671 : decode cL_law 1671 = .ok (.invokevirtual 285, 3) := by decide +kernel
theorem dL_law_1674 : decode cL_law 1674 = .ok (.aload_n 2, 1) := by decide +kernel
theorem dL_law_1675 : decode cL_law 1675 = .ok (.invokevirtual 288, 3) := by decide +kernel
theorem dL_law_1678 : decode cL_law 1678 = .ok (.if_icmp .eq 1716, 3) := by decide +kernel
theorem dL_law_1681 : decode cL_law 1681 = .ok (.iconst 0, 1) := by decide +kernel
theorem dL_law_1682 : decode cL_law 1682 = .ok (.ireturn, 1) := by decide +kernel
theorem dL_law_1683 : decode cL_law 1683 = .ok (.aload_n 1, 1) := by decide +kernel
theorem dL_law_1684 : decode cL_law 1684 = .ok (.aload_n 3, 1) := by decide +kernel
theorem dL_law_1685 : decode cL_law 1685 = .ok (.invokestatic 289, 3) := by decide +kernel
theorem dL_law_1688 : decode cL_law 1688 = .ok (.istore 6, 2) := by decide +kernel
theorem dL_law_1690 : decode cL_law 1690 = .ok (.aload_n 2, 1) := by decide +kernel
theorem dL_law_1691 : decode cL_law 1691 = .ok (.invokevirtual 291, 3) := by decide +kernel
theorem dL_law_1694 : decode cL_law 1694 = .ok (.istore 7, 2) := by decide +kernel
theorem dL_law_1696 : decode cL_law 1696 = .ok (.aload_n 2, 1) := by decide +kernel
theorem dL_law_1697 : decode cL_law 1697 = .ok (.invokevirtual 181, 3) := by decide +kernel
theorem dL_law_1700 : decode cL_law 1700 = .ok (.iload 6, 2) := by decide +kernel
theorem dL_law_1702 : decode cL_law 1702 = .ok (.if_icmp .eq 5, 3) := by decide +kernel
theorem dL_law_1705 : decode cL_law 1705 = .ok (.iconst 0, 1) := by decide +kernel
theorem dL_law_1706 : decode cL_law 1706 = .ok (.ireturn, 1) := by decide +kernel
theorem dL_law_1707 : decode cL_law 1707 = .ok (.iload 6, 2) := by decide +kernel
theorem dL_law_1709 : decode cL_law 1709 = .ok (.ifCond .ne 15, 3) := by decide +kernel
theorem dL_law_1712 : decode cL_law 1712 = .ok (.aload_n 3, 1) := by decide +kernel
theorem dL_law_1713 : decode cL_law 1713 = .ok (.iconst 0, 1) := by decide +kernel
theorem dL_law_1714 : decode cL_law 1714 = .ok (.laload, 1) := by decide +kernel
theorem dL_law_1715 : decode cL_law 1715 = .ok (.iload 7, 2) := by decide +kernel
theorem dL_law_1717 : decode cL_law 1717 = .ok (.i2l, 1) := by decide +kernel
theorem dL_law_1718 : decode cL_law 1718 = .ok (.lcmp, 1) := by decide +kernel
theorem dL_law_1719 : decode cL_law 1719 = .ok (.ifCond .eq 5, 3) := by decide +kernel
theorem dL_law_1722 : decode cL_law 1722 = .ok (.iconst 0, 1) := by decide +kernel
theorem dL_law_1723 : decode cL_law 1723 = .ok (.ireturn, 1) := by decide +kernel
theorem dL_law_1724 : decode cL_law 1724 = .ok (.goto 1670, 3) := by decide +kernel
theorem dL_law_1727 : decode cL_law 1727 = .ok (.aload_n 1, 1) := by decide +kernel
theorem dL_law_1728 : decode cL_law 1728 = .ok (.aload_n 3, 1) := by decide +kernel
theorem dL_law_1729 : decode cL_law 1729 = .ok (.invokestatic 292, 3) := by decide +kernel
theorem dL_law_1732 : decode cL_law 1732 = .ok (.istore 6, 2) := by decide +kernel
theorem dL_law_1734 : decode cL_law 1734 = .ok (.aload_n 2, 1) := by decide +kernel
theorem dL_law_1735 : decode cL_law 1735 = .ok (.invokevirtual 294, 3) := by decide +kernel
theorem dL_law_1738 : decode cL_law 1738 = .ok (.istore 7, 2) := by decide +kernel
theorem dL_law_1740 : decode cL_law 1740 = .ok (.aload_n 2, 1) := by decide +kernel
theorem dL_law_1741 : decode cL_law 1741 = .ok (.invokevirtual 181, 3) := by decide +kernel
theorem dL_law_1744 : decode cL_law 1744 = .ok (.iload 6, 2) := by decide +kernel
theorem dL_law_1746 : decode cL_law 1746 = .ok (.if_icmp .eq 5, 3) := by decide +kernel
theorem dL_law_1749 : decode cL_law 1749 = .ok (.iconst 0, 1) := by decide +kernel
theorem dL_law_1750 : decode cL_law 1750 = .ok (.ireturn, 1) := by decide +kernel
theorem dL_law_1751 : decode cL_law 1751 = .ok (.iload 6, 2) := by decide +kernel
theorem dL_law_1753 : decode cL_law 1753 = .ok (.ifCond .ne 15, 3) := by decide +kernel
theorem dL_law_1756 : decode cL_law 1756 = .ok (.aload_n 3, 1) := by decide +kernel
theorem dL_law_1757 : decode cL_law 1757 = .ok (.iconst 0, 1) := by decide +kernel
theorem dL_law_1758 : decode cL_law 1758 = .ok (.laload, 1) := by decide +kernel
theorem dL_law_1759 : decode cL_law 1759 = .ok (.iload 7, 2) := by decide +kernel
theorem dL_law_1761 : decode cL_law 1761 = .ok (.i2l, 1) := by decide +kernel
theorem dL_law_1762 : decode cL_law 1762 = .ok (.lcmp, 1) := by decide +kernel
theorem dL_law_1763 : decode cL_law 1763 = .ok (.ifCond .eq 5, 3) := by decide +kernel
theorem dL_law_1766 : decode cL_law 1766 = .ok (.iconst 0, 1) := by decide +kernel
theorem dL_law_1767 : decode cL_law 1767 = .ok (.ireturn, 1) := by decide +kernel
theorem dL_law_1768 : decode cL_law 1768 = .ok (.goto 1626, 3) := by decide +kernel
theorem dL_law_1771 : decode cL_law 1771 = .ok (.aload_n 1, 1) := by decide +kernel
theorem dL_law_1772 : decode cL_law 1772 = .ok (.invokevirtual 295, 3) := by decide +kernel
theorem dL_law_1775 : decode cL_law 1775 = .ok (.aload_n 2, 1) := by decide +kernel
theorem dL_law_1776 : decode cL_law 1776 = .ok (.invokevirtual 298, 3) := by decide +kernel
theorem dL_law_1779 : decode cL_law 1779 = .ok (.if_icmp .eq 1615, 3) := by decide +kernel
theorem dL_law_1782 : decode cL_law 1782 = .ok (.iconst 0, 1) := by decide +kernel
theorem dL_law_1783 : decode cL_law 1783 = .ok (.ireturn, 1) := by decide +kernel
theorem dL_law_1784 : decode cL_law 1784 = .ok (.aload_n 1, 1) := by decide +kernel
theorem dL_law_1785 : decode cL_law 1785 = .ok (.aload_n 0, 1) := by decide +kernel
theorem dL_law_1786 : decode cL_law 1786 = .ok (.iload 5, 2) := by decide +kernel
theorem dL_law_1788 : decode cL_law 1788 = .ok (.iconst 1, 1) := by decide +kernel
theorem dL_law_1789 : decode cL_law 1789 = .ok (.iadd, 1) := by decide +kernel
theorem dL_law_1790 : decode cL_law 1790 = .ok (.iaload, 1) := by decide +kernel
theorem dL_law_1791 : decode cL_law 1791 = .ok (.aload_n 0, 1) := by decide +kernel
theorem dL_law_1792 : decode cL_law 1792 = .ok (.iload 5, 2) := by decide +kernel
theorem dL_law_1794 : decode cL_law 1794 = .ok (.iconst 2, 1) := by decide +kernel
theorem dL_law_1795 : decode cL_law 1795 = .ok (.iadd, 1) := by decide +kernel
theorem dL_law_1796 : decode cL_law 1796 = .ok (.iaload, 1) := by decide +kernel
theorem dL_law_1797 : decode cL_law 1797 = .ok (.aload_n 0, 1) := by decide +kernel
theorem dL_law_1798 : decode cL_law 1798 = .ok (.iload 5, 2) := by decide +kernel
theorem dL_law_1800 : decode cL_law 1800 = .ok (.iconst 3, 1) := by decide +kernel
theorem dL_law_1801 : decode cL_law 1801 = .ok (.iadd, 1) := by decide +kernel
theorem dL_law_1802 : decode cL_law 1802 = .ok (.iaload, 1) := by decide +kernel
theorem dL_law_1803 : decode cL_law 1803 = .ok (.aload_n 0, 1) := by decide +kernel
theorem dL_law_1804 : decode cL_law 1804 = .ok (.iload 5, 2) := by decide +kernel
theorem dL_law_1806 : decode cL_law 1806 = .ok (.iconst 4, 1) := by decide +kernel
theorem dL_law_1807 : decode cL_law 1807 = .ok (.iadd, 1) := by decide +kernel
theorem dL_law_1808 : decode cL_law 1808 = .ok (.iaload, 1) := by decide +kernel
theorem dL_law_1809 : decode cL_law 1809 = .ok (.aload_n 3, 1) := by decide +kernel
theorem dL_law_1810 : decode cL_law 1810 = .ok (.invokestatic 299, 3) := by decide +kernel
theorem dL_law_1813 : decode cL_law 1813 = .ok (.istore 6, 2) := by decide +kernel
theorem dL_law_1815 : decode cL_law 1815 = .ok (.aload_n 2, 1) := by decide +kernel
theorem dL_law_1816 : decode cL_law 1816 = .ok (.aload_n 0, 1) := by decide +kernel
theorem dL_law_1817 : decode cL_law 1817 = .ok (.iload 5, 2) := by decide +kernel
theorem dL_law_1819 : decode cL_law 1819 = .ok (.iconst 1, 1) := by decide +kernel
theorem dL_law_1820 : decode cL_law 1820 = .ok (.iadd, 1) := by decide +kernel
theorem dL_law_1821 : decode cL_law 1821 = .ok (.iaload, 1) := by decide +kernel
theorem dL_law_1822 : decode cL_law 1822 = .ok (.aload_n 0, 1) := by decide +kernel
theorem dL_law_1823 : decode cL_law 1823 = .ok (.iload 5, 2) := by decide +kernel
theorem dL_law_1825 : decode cL_law 1825 = .ok (.iconst 2, 1) := by decide +kernel
theorem dL_law_1826 : decode cL_law 1826 = .ok (.iadd, 1) := by decide +kernel
theorem dL_law_1827 : decode cL_law 1827 = .ok (.iaload, 1) := by decide +kernel
theorem dL_law_1828 : decode cL_law 1828 = .ok (.aload_n 0, 1) := by decide +kernel
theorem dL_law_1829 : decode cL_law 1829 = .ok (.iload 5, 2) := by decide +kernel
theorem dL_law_1831 : decode cL_law 1831 = .ok (.iconst 3, 1) := by decide +kernel
theorem dL_law_1832 : decode cL_law 1832 = .ok (.iadd, 1) := by decide +kernel
theorem dL_law_1833 : decode cL_law 1833 = .ok (.iaload, 1) := by decide +kernel
theorem dL_law_1834 : decode cL_law 1834 = .ok (.aload_n 0, 1) := by decide +kernel
theorem dL_law_1835 : decode cL_law 1835 = .ok (.iload 5, 2) := by decide +kernel
theorem dL_law_1837 : decode cL_law 1837 = .ok (.iconst 4, 1) := by decide +kernel
theorem dL_law_1838 : decode cL_law 1838 = .ok (.iadd, 1) := by decide +kernel
theorem dL_law_1839 : decode cL_law 1839 = .ok (.iaload, 1) := by decide +kernel
theorem dL_law_1840 : decode cL_law 1840 = .ok (.invokevirtual 302, 3) := by decide +kernel
theorem dL_law_1843 : decode cL_law 1843 = .ok (.istore 7, 2) := by decide +kernel
theorem dL_law_1845 : decode cL_law 1845 = .ok (.aload_n 2, 1) := by decide +kernel
theorem dL_law_1846 : decode cL_law 1846 = .ok (.invokevirtual 181, 3) := by decide +kernel
theorem dL_law_1849 : decode cL_law 1849 = .ok (.iload 6, 2) := by decide +kernel
theorem dL_law_1851 : decode cL_law 1851 = .ok (.if_icmp .eq 5, 3) := by decide +kernel
theorem dL_law_1854 : decode cL_law 1854 = .ok (.iconst 0, 1) := by decide +kernel
theorem dL_law_1855 : decode cL_law 1855 = .ok (.ireturn, 1) := by decide +kernel
theorem dL_law_1856 : decode cL_law 1856 = .ok (.iload 6, 2) := by decide +kernel
theorem dL_law_1858 : decode cL_law 1858 = .ok (.ifCond .ne 15, 3) := by decide +kernel
theorem dL_law_1861 : decode cL_law 1861 = .ok (.aload_n 3, 1) := by decide +kernel
theorem dL_law_1862 : decode cL_law 1862 = .ok (.iconst 0, 1) := by decide +kernel
theorem dL_law_1863 : decode cL_law 1863 = .ok (.laload, 1) := by decide +kernel
theorem dL_law_1864 : decode cL_law 1864 = .ok (.iload 7, 2) := by decide +kernel
theorem dL_law_1866 : decode cL_law 1866 = .ok (.i2l, 1) := by decide +kernel
theorem dL_law_1867 : decode cL_law 1867 = .ok (.lcmp, 1) := by decide +kernel
theorem dL_law_1868 : decode cL_law 1868 = .ok (.ifCond .eq 5, 3) := by decide +kernel
theorem dL_law_1871 : decode cL_law 1871 = .ok (.iconst 0, 1) := by decide +kernel
theorem dL_law_1872 : decode cL_law 1872 = .ok (.ireturn, 1) := by decide +kernel
theorem dL_law_1873 : decode cL_law 1873 = .ok (.goto 1521, 3) := by decide +kernel
theorem dL_law_1876 : decode cL_law 1876 = .ok (.aload_n 1, 1) := by decide +kernel
theorem dL_law_1877 : decode cL_law 1877 = .ok (.aload_n 0, 1) := by decide +kernel
theorem dL_law_1878 : decode cL_law 1878 = .ok (.iload 5, 2) := by decide +kernel
theorem dL_law_1880 : decode cL_law 1880 = .ok (.iconst 1, 1) := by decide +kernel
theorem dL_law_1881 : decode cL_law 1881 = .ok (.iadd, 1) := by decide +kernel
theorem dL_law_1882 : decode cL_law 1882 = .ok (.iaload, 1) := by decide +kernel
theorem dL_law_1883 : decode cL_law 1883 = .ok (.aload_n 3, 1) := by decide +kernel
theorem dL_law_1884 : decode cL_law 1884 = .ok (.invokestatic 303, 3) := by decide +kernel
theorem dL_law_1887 : decode cL_law 1887 = .ok (.istore 6, 2) := by decide +kernel
theorem dL_law_1889 : decode cL_law 1889 = .ok (.aload_n 2, 1) := by decide +kernel
theorem dL_law_1890 : decode cL_law 1890 = .ok (.aload_n 0, 1) := by decide +kernel
theorem dL_law_1891 : decode cL_law 1891 = .ok (.iload 5, 2) := by decide +kernel
theorem dL_law_1893 : decode cL_law 1893 = .ok (.iconst 1, 1) := by decide +kernel
theorem dL_law_1894 : decode cL_law 1894 = .ok (.iadd, 1) := by decide +kernel
theorem dL_law_1895 : decode cL_law 1895 = .ok (.iaload, 1) := by decide +kernel
theorem dL_law_1896 : decode cL_law 1896 = .ok (.invokevirtual 305, 3) := by decide +kernel
theorem dL_law_1899 : decode cL_law 1899 = .ok (.istore 7, 2) := by decide +kernel
theorem dL_law_1901 : decode cL_law 1901 = .ok (.aload_n 2, 1) := by decide +kernel
theorem dL_law_1902 : decode cL_law 1902 = .ok (.invokevirtual 181, 3) := by decide +kernel
theorem dL_law_1905 : decode cL_law 1905 = .ok (.iload 6, 2) := by decide +kernel
theorem dL_law_1907 : decode cL_law 1907 = .ok (.if_icmp .eq 5, 3) := by decide +kernel
theorem dL_law_1910 : decode cL_law 1910 = .ok (.iconst 0, 1) := by decide +kernel
theorem dL_law_1911 : decode cL_law 1911 = .ok (.ireturn, 1) := by decide +kernel
theorem dL_law_1912 : decode cL_law 1912 = .ok (.iload 6, 2) := by decide +kernel
theorem dL_law_1914 : decode cL_law 1914 = .ok (.ifCond .ne 15, 3) := by decide +kernel
theorem dL_law_1917 : decode cL_law 1917 = .ok (.aload_n 3, 1) := by decide +kernel
theorem dL_law_1918 : decode cL_law 1918 = .ok (.iconst 0, 1) := by decide +kernel
theorem dL_law_1919 : decode cL_law 1919 = .ok (.laload, 1) := by decide +kernel
theorem dL_law_1920 : decode cL_law 1920 = .ok (.iload 7, 2) := by decide +kernel
theorem dL_law_1922 : decode cL_law 1922 = .ok (.i2l, 1) := by decide +kernel
theorem dL_law_1923 : decode cL_law 1923 = .ok (.lcmp, 1) := by decide +kernel
theorem dL_law_1924 : decode cL_law 1924 = .ok (.ifCond .eq 5, 3) := by decide +kernel
theorem dL_law_1927 : decode cL_law 1927 = .ok (.iconst 0, 1) := by decide +kernel
theorem dL_law_1928 : decode cL_law 1928 = .ok (.ireturn, 1) := by decide +kernel
theorem dL_law_1929 : decode cL_law 1929 = .ok (.goto 1465, 3) := by decide +kernel
theorem dL_law_1932 : decode cL_law 1932 = .ok (.aload_n 1, 1) := by decide +kernel
theorem dL_law_1933 : decode cL_law 1933 = .ok (.aload_n 0, 1) := by decide +kernel
theorem dL_law_1934 : decode cL_law 1934 = .ok (.iload 5, 2) := by decide +kernel
theorem dL_law_1936 : decode cL_law 1936 = .ok (.iconst 1, 1) := by decide +kernel
theorem dL_law_1937 : decode cL_law 1937 = .ok (.iadd, 1) := by decide +kernel
theorem dL_law_1938 : decode cL_law 1938 = .ok (.iaload, 1) := by decide +kernel
theorem dL_law_1939 : decode cL_law 1939 = .ok (.aload_n 0, 1) := by decide +kernel
theorem dL_law_1940 : decode cL_law 1940 = .ok (.iload 5, 2) := by decide +kernel
theorem dL_law_1942 : decode cL_law 1942 = .ok (.iconst 2, 1) := by decide +kernel
theorem dL_law_1943 : decode cL_law 1943 = .ok (.iadd, 1) := by decide +kernel
theorem dL_law_1944 : decode cL_law 1944 = .ok (.iaload, 1) := by decide +kernel
theorem dL_law_1945 : decode cL_law 1945 = .ok (.aload_n 3, 1) := by decide +kernel
theorem dL_law_1946 : decode cL_law 1946 = .ok (.invokestatic 306, 3) := by decide +kernel
theorem dL_law_1949 : decode cL_law 1949 = .ok (.istore 6, 2) := by decide +kernel
theorem dL_law_1951 : decode cL_law 1951 = .ok (.aload_n 2, 1) := by decide +kernel
theorem dL_law_1952 : decode cL_law 1952 = .ok (.aload_n 0, 1) := by decide +kernel
theorem dL_law_1953 : decode cL_law 1953 = .ok (.iload 5, 2) := by decide +kernel
theorem dL_law_1955 : decode cL_law 1955 = .ok (.iconst 1, 1) := by decide +kernel
theorem dL_law_1956 : decode cL_law 1956 = .ok (.iadd, 1) := by decide +kernel
theorem dL_law_1957 : decode cL_law 1957 = .ok (.iaload, 1) := by decide +kernel
theorem dL_law_1958 : decode cL_law 1958 = .ok (.aload_n 0, 1) := by decide +kernel
theorem dL_law_1959 : decode cL_law 1959 = .ok (.iload 5, 2) := by decide +kernel
theorem dL_law_1961 : decode cL_law 1961 = .ok (.iconst 2, 1) := by decide +kernel
theorem dL_law_1962 : decode cL_law 1962 = .ok (.iadd, 1) := by decide +kernel
theorem dL_law_1963 : decode cL_law 1963 = .ok (.iaload, 1) := by decide +kernel
theorem dL_law_1964 : decode cL_law 1964 = .ok (.invokevirtual 308, 3) := by decide +kernel
theorem dL_law_1967 : decode cL_law 1967 = .ok (.istore 7, 2) := by decide +kernel
theorem dL_law_1969 : decode cL_law 1969 = .ok (.aload_n 2, 1) := by decide +kernel
theorem dL_law_1970 : decode cL_law 1970 = .ok (.invokevirtual 181, 3) := by decide +kernel
theorem dL_law_1973 : decode cL_law 1973 = .ok (.iload 6, 2) := by decide +kernel
theorem dL_law_1975 : decode cL_law 1975 = .ok (.if_icmp .eq 5, 3) := by decide +kernel
theorem dL_law_1978 : decode cL_law 1978 = .ok (.iconst 0, 1) := by decide +kernel
theorem dL_law_1979 : decode cL_law 1979 = .ok (.ireturn, 1) := by decide +kernel
theorem dL_law_1980 : decode cL_law 1980 = .ok (.iload 6, 2) := by decide +kernel
theorem dL_law_1982 : decode cL_law 1982 = .ok (.ifCond .ne 15, 3) := by decide +kernel
theorem dL_law_1985 : decode cL_law 1985 = .ok (.aload_n 3, 1) := by decide +kernel
theorem dL_law_1986 : decode cL_law 1986 = .ok (.iconst 0, 1) := by decide +kernel
theorem dL_law_1987 : decode cL_law 1987 = .ok (.laload, 1) := by decide +kernel
theorem dL_law_1988 : decode cL_law 1988 = .ok (.iload 7, 2) := by decide +kernel
theorem dL_law_1990 : decode cL_law 1990 = .ok (.i2l, 1) := by decide +kernel
theorem dL_law_1991 : decode cL_law 1991 = .ok (.lcmp, 1) := by decide +kernel
theorem dL_law_1992 : decode cL_law 1992 = .ok (.ifCond .eq 5, 3) := by decide +kernel
theorem dL_law_1995 : decode cL_law 1995 = .ok (.iconst 0, 1) := by decide +kernel
theorem dL_law_1996 : decode cL_law 1996 = .ok (.ireturn, 1) := by decide +kernel
theorem dL_law_1997 : decode cL_law 1997 = .ok (.goto 1397, 3) := by decide +kernel
theorem dL_law_2000 : decode cL_law 2000 = .ok (.aload_n 1, 1) := by decide +kernel
theorem dL_law_2001 : decode cL_law 2001 = .ok (.aload_n 0, 1) := by decide +kernel
theorem dL_law_2002 : decode cL_law 2002 = .ok (.iload 5, 2) := by decide +kernel
theorem dL_law_2004 : decode cL_law 2004 = .ok (.iconst 1, 1) := by decide +kernel
theorem dL_law_2005 : decode cL_law 2005 = .ok (.iadd, 1) := by decide +kernel
theorem dL_law_2006 : decode cL_law 2006 = .ok (.iaload, 1) := by decide +kernel
theorem dL_law_2007 : decode cL_law 2007 = .ok (.aload_n 3, 1) := by decide +kernel
theorem dL_law_2008 : decode cL_law 2008 = .ok (.invokestatic 309, 3) := by decide +kernel
theorem dL_law_2011 : decode cL_law 2011 = .ok (.istore 6, 2) := by decide +kernel
theorem dL_law_2013 : decode cL_law 2013 = .ok (.aload_n 2, 1) := by decide +kernel
theorem dL_law_2014 : decode cL_law 2014 = .ok (.aload_n 0, 1) := by decide +kernel
theorem dL_law_2015 : decode cL_law 2015 = .ok (.iload 5, 2) := by decide +kernel
theorem dL_law_2017 : decode cL_law 2017 = .ok (.iconst 1, 1) := by decide +kernel
theorem dL_law_2018 : decode cL_law 2018 = .ok (.iadd, 1) := by decide +kernel
theorem dL_law_2019 : decode cL_law 2019 = .ok (.iaload, 1) := by decide +kernel
theorem dL_law_2020 : decode cL_law 2020 = .ok (.invokevirtual 311, 3) := by decide +kernel
theorem dL_law_2023 : decode cL_law 2023 = .ok (.istore 7, 2) := by decide +kernel
theorem dL_law_2025 : decode cL_law 2025 = .ok (.aload_n 2, 1) := by decide +kernel
theorem dL_law_2026 : decode cL_law 2026 = .ok (.invokevirtual 181, 3) := by decide +kernel
theorem dL_law_2029 : decode cL_law 2029 = .ok (.iload 6, 2) := by decide +kernel
theorem dL_law_2031 : decode cL_law 2031 = .ok (.if_icmp .eq 5, 3) := by decide +kernel
theorem dL_law_2034 : decode cL_law 2034 = .ok (.iconst 0, 1) := by decide +kernel
theorem dL_law_2035 : decode cL_law 2035 = .ok (.ireturn, 1) := by decide +kernel
theorem dL_law_2036 : decode cL_law 2036 = .ok (.iload 6, 2) := by decide +kernel
theorem dL_law_2038 : decode cL_law 2038 = .ok (.ifCond .ne 15, 3) := by decide +kernel
theorem dL_law_2041 : decode cL_law 2041 = .ok (.aload_n 3, 1) := by decide +kernel
theorem dL_law_2042 : decode cL_law 2042 = .ok (.iconst 0, 1) := by decide +kernel
theorem dL_law_2043 : decode cL_law 2043 = .ok (.laload, 1) := by decide +kernel
theorem dL_law_2044 : decode cL_law 2044 = .ok (.iload 7, 2) := by decide +kernel
theorem dL_law_2046 : decode cL_law 2046 = .ok (.i2l, 1) := by decide +kernel
theorem dL_law_2047 : decode cL_law 2047 = .ok (.lcmp, 1) := by decide +kernel
theorem dL_law_2048 : decode cL_law 2048 = .ok (.ifCond .eq 5, 3) := by decide +kernel
theorem dL_law_2051 : decode cL_law 2051 = .ok (.iconst 0, 1) := by decide +kernel
theorem dL_law_2052 : decode cL_law 2052 = .ok (.ireturn, 1) := by decide +kernel
theorem dL_law_2053 : decode cL_law 2053 = .ok (.goto 1341, 3) := by decide +kernel
theorem dL_law_2056 : decode cL_law 2056 = .ok (.aload_n 1, 1) := by decide +kernel
theorem dL_law_2057 : decode cL_law 2057 = .ok (.aload_n 0, 1) := by decide +kernel
theorem dL_law_2058 : decode cL_law 2058 = .ok (.iload 5, 2) := by decide +kernel
theorem dL_law_2060 : decode cL_law 2060 = .ok (.iconst 1, 1) := by decide +kernel
theorem dL_law_2061 : decode cL_law 2061 = .ok (.iadd, 1) := by decide +kernel
theorem dL_law_2062 : decode cL_law 2062 = .ok (.iaload, 1) := by decide +kernel
theorem dL_law_2063 : decode cL_law 2063 = .ok (.aload_n 3, 1) := by decide +kernel
theorem dL_law_2064 : decode cL_law 2064 = .ok (.invokestatic 312, 3) := by decide +kernel
theorem dL_law_2067 : decode cL_law 2067 = .ok (.istore 6, 2) := by decide +kernel
theorem dL_law_2069 : decode cL_law 2069 = .ok (.aload_n 2, 1) := by decide +kernel
theorem dL_law_2070 : decode cL_law 2070 = .ok (.aload_n 0, 1) := by decide +kernel
theorem dL_law_2071 : decode cL_law 2071 = .ok (.iload 5, 2) := by decide +kernel
theorem dL_law_2073 : decode cL_law 2073 = .ok (.iconst 1, 1) := by decide +kernel
theorem dL_law_2074 : decode cL_law 2074 = .ok (.iadd, 1) := by decide +kernel
theorem dL_law_2075 : decode cL_law 2075 = .ok (.iaload, 1) := by decide +kernel
theorem dL_law_2076 : decode cL_law 2076 = .ok (.invokevirtual 314, 3) := by decide +kernel
theorem dL_law_2079 : decode cL_law 2079 = .ok (.istore 7, 2) := by decide +kernel
theorem dL_law_2081 : decode cL_law 2081 = .ok (.aload_n 2, 1) := by decide +kernel
theorem dL_law_2082 : decode cL_law 2082 = .ok (.invokevirtual 181, 3) := by decide +kernel
theorem dL_law_2085 : decode cL_law 2085 = .ok (.iload 6, 2) := by decide +kernel
theorem dL_law_2087 : decode cL_law 2087 = .ok (.if_icmp .eq 5, 3) := by decide +kernel
theorem dL_law_2090 : decode cL_law 2090 = .ok (.iconst 0, 1) := by decide +kernel
theorem dL_law_2091 : decode cL_law 2091 = .ok (.ireturn, 1) := by decide +kernel
theorem dL_law_2092 : decode cL_law 2092 = .ok (.iload 6, 2) := by decide +kernel
theorem dL_law_2094 : decode cL_law 2094 = .ok (.ifCond .ne 15, 3) := by decide +kernel
theorem dL_law_2097 : decode cL_law 2097 = .ok (.aload_n 3, 1) := by decide +kernel
theorem dL_law_2098 : decode cL_law 2098 = .ok (.iconst 0, 1) := by decide +kernel
theorem dL_law_2099 : decode cL_law 2099 = .ok (.laload, 1) := by decide +kernel
theorem dL_law_2100 : decode cL_law 2100 = .ok (.iload 7, 2) := by decide +kernel
theorem dL_law_2102 : decode cL_law 2102 = .ok (.i2l, 1) := by decide +kernel
theorem dL_law_2103 : decode cL_law 2103 = .ok (.lcmp, 1) := by decide +kernel
theorem dL_law_2104 : decode cL_law 2104 = .ok (.ifCond .eq 5, 3) := by decide +kernel
theorem dL_law_2107 : decode cL_law 2107 = .ok (.iconst 0, 1) := by decide +kernel
theorem dL_law_2108 : decode cL_law 2108 = .ok (.ireturn, 1) := by decide +kernel
theorem dL_law_2109 : decode cL_law 2109 = .ok (.goto 1285, 3) := by decide +kernel
theorem dL_law_2112 : decode cL_law 2112 = .ok (.aload_n 1, 1) := by decide +kernel
theorem dL_law_2113 : decode cL_law 2113 = .ok (.aload_n 0, 1) := by decide +kernel
theorem dL_law_2114 : decode cL_law 2114 = .ok (.iload 5, 2) := by decide +kernel
theorem dL_law_2116 : decode cL_law 2116 = .ok (.iconst 1, 1) := by decide +kernel
theorem dL_law_2117 : decode cL_law 2117 = .ok (.iadd, 1) := by decide +kernel
theorem dL_law_2118 : decode cL_law 2118 = .ok (.iaload, 1) := by decide +kernel
theorem dL_law_2119 : decode cL_law 2119 = .ok (.aload_n 0, 1) := by decide +kernel
theorem dL_law_2120 : decode cL_law 2120 = .ok (.iload 5, 2) := by decide +kernel
theorem dL_law_2122 : decode cL_law 2122 = .ok (.iconst 2, 1) := by decide +kernel
theorem dL_law_2123 : decode cL_law 2123 = .ok (.iadd, 1) := by decide +kernel
theorem dL_law_2124 : decode cL_law 2124 = .ok (.iaload, 1) := by decide +kernel
theorem dL_law_2125 : decode cL_law 2125 = .ok (.aload_n 3, 1) := by decide +kernel
theorem dL_law_2126 : decode cL_law 2126 = .ok (.invokestatic 315, 3) := by decide +kernel
theorem dL_law_2129 : decode cL_law 2129 = .ok (.istore 6, 2) := by decide +kernel
theorem dL_law_2131 : decode cL_law 2131 = .ok (.aload_n 2, 1) := by decide +kernel
theorem dL_law_2132 : decode cL_law 2132 = .ok (.aload_n 0, 1) := by decide +kernel
theorem dL_law_2133 : decode cL_law 2133 = .ok (.iload 5, 2) := by decide +kernel
theorem dL_law_2135 : decode cL_law 2135 = .ok (.iconst 1, 1) := by decide +kernel
theorem dL_law_2136 : decode cL_law 2136 = .ok (.iadd, 1) := by decide +kernel
theorem dL_law_2137 : decode cL_law 2137 = .ok (.iaload, 1) := by decide +kernel
theorem dL_law_2138 : decode cL_law 2138 = .ok (.aload_n 0, 1) := by decide +kernel
theorem dL_law_2139 : decode cL_law 2139 = .ok (.iload 5, 2) := by decide +kernel
theorem dL_law_2141 : decode cL_law 2141 = .ok (.iconst 2, 1) := by decide +kernel
theorem dL_law_2142 : decode cL_law 2142 = .ok (.iadd, 1) := by decide +kernel
theorem dL_law_2143 : decode cL_law 2143 = .ok (.iaload, 1) := by decide +kernel
theorem dL_law_2144 : decode cL_law 2144 = .ok (.invokevirtual 317, 3) := by decide +kernel
theorem dL_law_2147 : decode cL_law 2147 = .ok (.istore 7, 2) := by decide +kernel
theorem dL_law_2149 : decode cL_law 2149 = .ok (.aload_n 2, 1) := by decide +kernel
theorem dL_law_2150 : decode cL_law 2150 = .ok (.invokevirtual 181, 3) := by decide +kernel
theorem dL_law_2153 : decode cL_law 2153 = .ok (.iload 6, 2) := by decide +kernel
theorem dL_law_2155 : decode cL_law 2155 = .ok (.if_icmp .eq 5, 3) := by decide +kernel
theorem dL_law_2158 : decode cL_law 2158 = .ok (.iconst 0, 1) := by decide +kernel
theorem dL_law_2159 : decode cL_law 2159 = .ok (.ireturn, 1) := by decide +kernel
theorem dL_law_2160 : decode cL_law 2160 = .ok (.iload 6, 2) := by decide +kernel
theorem dL_law_2162 : decode cL_law 2162 = .ok (.ifCond .ne 15, 3) := by decide +kernel
theorem dL_law_2165 : decode cL_law 2165 = .ok (.aload_n 3, 1) := by decide +kernel
theorem dL_law_2166 : decode cL_law 2166 = .ok (.iconst 0, 1) := by decide +kernel
theorem dL_law_2167 : decode cL_law 2167 = .ok (.laload, 1) := by decide +kernel
theorem dL_law_2168 : decode cL_law 2168 = .ok (.iload 7, 2) := by decide +kernel
theorem dL_law_2170 : decode cL_law 2170 = .ok (.i2l, 1) := by decide +kernel
theorem dL_law_2171 : decode cL_law 2171 = .ok (.lcmp, 1) := by decide +kernel
theorem dL_law_2172 : decode cL_law 2172 = .ok (.ifCond .eq 5, 3) := by decide +kernel
theorem dL_law_2175 : decode cL_law 2175 = .ok (.iconst 0, 1) := by decide +kernel
theorem dL_law_2176 : decode cL_law 2176 = .ok (.ireturn, 1) := by decide +kernel
theorem dL_law_2177 : decode cL_law 2177 = .ok (.goto 1217, 3) := by decide +kernel
theorem dL_law_2180 : decode cL_law 2180 = .ok (.aload_n 1, 1) := by decide +kernel
theorem dL_law_2181 : decode cL_law 2181 = .ok (.aload_n 0, 1) := by decide +kernel
theorem dL_law_2182 : decode cL_law 2182 = .ok (.iload 5, 2) := by decide +kernel
theorem dL_law_2184 : decode cL_law 2184 = .ok (.iconst 1, 1) := by decide +kernel
theorem dL_law_2185 : decode cL_law 2185 = .ok (.iadd, 1) := by decide +kernel
theorem dL_law_2186 : decode cL_law 2186 = .ok (.iaload, 1) := by decide +kernel
theorem dL_law_2187 : decode cL_law 2187 = .ok (.aload_n 0, 1) := by decide +kernel
theorem dL_law_2188 : decode cL_law 2188 = .ok (.iload 5, 2) := by decide +kernel
theorem dL_law_2190 : decode cL_law 2190 = .ok (.iconst 2, 1) := by decide +kernel
theorem dL_law_2191 : decode cL_law 2191 = .ok (.iadd, 1) := by decide +kernel
theorem dL_law_2192 : decode cL_law 2192 = .ok (.iaload, 1) := by decide +kernel
theorem dL_law_2193 : decode cL_law 2193 = .ok (.aload_n 0, 1) := by decide +kernel
theorem dL_law_2194 : decode cL_law 2194 = .ok (.iload 5, 2) := by decide +kernel
theorem dL_law_2196 : decode cL_law 2196 = .ok (.iconst 3, 1) := by decide +kernel
theorem dL_law_2197 : decode cL_law 2197 = .ok (.iadd, 1) := by decide +kernel
theorem dL_law_2198 : decode cL_law 2198 = .ok (.iaload, 1) := by decide +kernel
theorem dL_law_2199 : decode cL_law 2199 = .ok (.aload_n 3, 1) := by decide +kernel
theorem dL_law_2200 : decode cL_law 2200 = .ok (.invokestatic 318, 3) := by decide +kernel
theorem dL_law_2203 : decode cL_law 2203 = .ok (.istore 6, 2) := by decide +kernel
theorem dL_law_2205 : decode cL_law 2205 = .ok (.aload_n 2, 1) := by decide +kernel
theorem dL_law_2206 : decode cL_law 2206 = .ok (.aload_n 0, 1) := by decide +kernel
theorem dL_law_2207 : decode cL_law 2207 = .ok (.iload 5, 2) := by decide +kernel
theorem dL_law_2209 : decode cL_law 2209 = .ok (.iconst 1, 1) := by decide +kernel
theorem dL_law_2210 : decode cL_law 2210 = .ok (.iadd, 1) := by decide +kernel
theorem dL_law_2211 : decode cL_law 2211 = .ok (.iaload, 1) := by decide +kernel
theorem dL_law_2212 : decode cL_law 2212 = .ok (.aload_n 0, 1) := by decide +kernel
theorem dL_law_2213 : decode cL_law 2213 = .ok (.iload 5, 2) := by decide +kernel
theorem dL_law_2215 : decode cL_law 2215 = .ok (.iconst 2, 1) := by decide +kernel
theorem dL_law_2216 : decode cL_law 2216 = .ok (.iadd, 1) := by decide +kernel
theorem dL_law_2217 : decode cL_law 2217 = .ok (.iaload, 1) := by decide +kernel
theorem dL_law_2218 : decode cL_law 2218 = .ok (.aload_n 0, 1) := by decide +kernel
theorem dL_law_2219 : decode cL_law 2219 = .ok (.iload 5, 2) := by decide +kernel
theorem dL_law_2221 : decode cL_law 2221 = .ok (.iconst 3, 1) := by decide +kernel
theorem dL_law_2222 : decode cL_law 2222 = .ok (.iadd, 1) := by decide +kernel
theorem dL_law_2223 : decode cL_law 2223 = .ok (.iaload, 1) := by decide +kernel
theorem dL_law_2224 : decode cL_law 2224 = .ok (.invokevirtual 321, 3) := by decide +kernel
theorem dL_law_2227 : decode cL_law 2227 = .ok (.istore 7, 2) := by decide +kernel
theorem dL_law_2229 : decode cL_law 2229 = .ok (.aload_n 2, 1) := by decide +kernel
theorem dL_law_2230 : decode cL_law 2230 = .ok (.invokevirtual 181, 3) := by decide +kernel
theorem dL_law_2233 : decode cL_law 2233 = .ok (.iload 6, 2) := by decide +kernel
theorem dL_law_2235 : decode cL_law 2235 = .ok (.if_icmp .eq 5, 3) := by decide +kernel
theorem dL_law_2238 : decode cL_law 2238 = .ok (.iconst 0, 1) := by decide +kernel
theorem dL_law_2239 : decode cL_law 2239 = .ok (.ireturn, 1) := by decide +kernel
theorem dL_law_2240 : decode cL_law 2240 = .ok (.iload 6, 2) := by decide +kernel
theorem dL_law_2242 : decode cL_law 2242 = .ok (.ifCond .ne 15, 3) := by decide +kernel
theorem dL_law_2245 : decode cL_law 2245 = .ok (.aload_n 3, 1) := by decide +kernel
theorem dL_law_2246 : decode cL_law 2246 = .ok (.iconst 0, 1) := by decide +kernel
theorem dL_law_2247 : decode cL_law 2247 = .ok (.laload, 1) := by decide +kernel
theorem dL_law_2248 : decode cL_law 2248 = .ok (.iload 7, 2) := by decide +kernel
theorem dL_law_2250 : decode cL_law 2250 = .ok (.i2l, 1) := by decide +kernel
theorem dL_law_2251 : decode cL_law 2251 = .ok (.lcmp, 1) := by decide +kernel
theorem dL_law_2252 : decode cL_law 2252 = .ok (.ifCond .eq 5, 3) := by decide +kernel
theorem dL_law_2255 : decode cL_law 2255 = .ok (.iconst 0, 1) := by decide +kernel
theorem dL_law_2256 : decode cL_law 2256 = .ok (.ireturn, 1) := by decide +kernel
theorem dL_law_2257 : decode cL_law 2257 = .ok (.goto 1137, 3) := by decide +kernel
theorem dL_law_2260 : decode cL_law 2260 = .ok (.aload_n 1, 1) := by decide +kernel
theorem dL_law_2261 : decode cL_law 2261 = .ok (.aload_n 0, 1) := by decide +kernel
theorem dL_law_2262 : decode cL_law 2262 = .ok (.iload 5, 2) := by decide +kernel
theorem dL_law_2264 : decode cL_law 2264 = .ok (.iconst 1, 1) := by decide +kernel
theorem dL_law_2265 : decode cL_law 2265 = .ok (.iadd, 1) := by decide +kernel
theorem dL_law_2266 : decode cL_law 2266 = .ok (.iaload, 1) := by decide +kernel
theorem dL_law_2267 : decode cL_law 2267 = .ok (.aload_n 0, 1) := by decide +kernel
theorem dL_law_2268 : decode cL_law 2268 = .ok (.iload 5, 2) := by decide +kernel
theorem dL_law_2270 : decode cL_law 2270 = .ok (.iconst 2, 1) := by decide +kernel
theorem dL_law_2271 : decode cL_law 2271 = .ok (.iadd, 1) := by decide +kernel
theorem dL_law_2272 : decode cL_law 2272 = .ok (.iaload, 1) := by decide +kernel
theorem dL_law_2273 : decode cL_law 2273 = .ok (.ifCond .eq 7, 3) := by decide +kernel
theorem dL_law_2276 : decode cL_law 2276 = .ok (.iconst 1, 1) := by decide +kernel
theorem dL_law_2277 : decode cL_law 2277 = .ok (.goto 4, 3) := by decide +kernel
theorem dL_law_2280 : decode cL_law 2280 = .ok (.iconst 0, 1) := by decide +kernel
theorem dL_law_2281 : decode cL_law 2281 = .ok (.aload_n 3, 1) := by decide +kernel
theorem dL_law_2282 : decode cL_law 2282 = .ok (.invokestatic 322, 3) := by decide +kernel
theorem dL_law_2285 : decode cL_law 2285 = .ok (.istore 6, 2) := by decide +kernel
theorem dL_law_2287 : decode cL_law 2287 = .ok (.aload_n 2, 1) := by decide +kernel
theorem dL_law_2288 : decode cL_law 2288 = .ok (.aload_n 0, 1) := by decide +kernel
theorem dL_law_2289 : decode cL_law 2289 = .ok (.iload 5, 2) := by decide +kernel
theorem dL_law_2291 : decode cL_law 2291 = .ok (.iconst 1, 1) := by decide +kernel
theorem dL_law_2292 : decode cL_law 2292 = .ok (.iadd, 1) := by decide +kernel
theorem dL_law_2293 : decode cL_law 2293 = .ok (.iaload, 1) := by decide +kernel
theorem dL_law_2294 : decode cL_law 2294 = .ok (.aload_n 0, 1) := by decide +kernel
theorem dL_law_2295 : decode cL_law 2295 = .ok (.iload 5, 2) := by decide +kernel
theorem dL_law_2297 : decode cL_law 2297 = .ok (.iconst 2, 1) := by decide +kernel
theorem dL_law_2298 : decode cL_law 2298 = .ok (.iadd, 1) := by decide +kernel
theorem dL_law_2299 : decode cL_law 2299 = .ok (.iaload, 1) := by decide +kernel
theorem dL_law_2300 : decode cL_law 2300 = .ok (.ifCond .eq 7, 3) := by decide +kernel
theorem dL_law_2303 : decode cL_law 2303 = .ok (.iconst 1, 1) := by decide +kernel
theorem dL_law_2304 : decode cL_law 2304 = .ok (.goto 4, 3) := by decide +kernel
theorem dL_law_2307 : decode cL_law 2307 = .ok (.iconst 0, 1) := by decide +kernel
theorem dL_law_2308 : decode cL_law 2308 = .ok (.invokevirtual 324, 3) := by decide +kernel
theorem dL_law_2311 : decode cL_law 2311 = .ok (.istore 7, 2) := by decide +kernel
theorem dL_law_2313 : decode cL_law 2313 = .ok (.aload_n 2, 1) := by decide +kernel
theorem dL_law_2314 : decode cL_law 2314 = .ok (.invokevirtual 181, 3) := by decide +kernel
theorem dL_law_2317 : decode cL_law 2317 = .ok (.iload 6, 2) := by decide +kernel
theorem dL_law_2319 : decode cL_law 2319 = .ok (.if_icmp .eq 5, 3) := by decide +kernel
theorem dL_law_2322 : decode cL_law 2322 = .ok (.iconst 0, 1) := by decide +kernel
theorem dL_law_2323 : decode cL_law 2323 = .ok (.ireturn, 1) := by decide +kernel
theorem dL_law_2324 : decode cL_law 2324 = .ok (.iload 6, 2) := by decide +kernel
theorem dL_law_2326 : decode cL_law 2326 = .ok (.ifCond .ne 15, 3) := by decide +kernel
theorem dL_law_2329 : decode cL_law 2329 = .ok (.aload_n 3, 1) := by decide +kernel
theorem dL_law_2330 : decode cL_law 2330 = .ok (.iconst 0, 1) := by decide +kernel
theorem dL_law_2331 : decode cL_law 2331 = .ok (.laload, 1) := by decide +kernel
theorem dL_law_2332 : decode cL_law 2332 = .ok (.iload 7, 2) := by decide +kernel
theorem dL_law_2334 : decode cL_law 2334 = .ok (.i2l, 1) := by decide +kernel
theorem dL_law_2335 : decode cL_law 2335 = .ok (.lcmp, 1) := by decide +kernel
theorem dL_law_2336 : decode cL_law 2336 = .ok (.ifCond .eq 5, 3) := by decide +kernel
theorem dL_law_2339 : decode cL_law 2339 = .ok (.iconst 0, 1) := by decide +kernel
theorem dL_law_2340 : decode cL_law 2340 = .ok (.ireturn, 1) := by decide +kernel
theorem dL_law_2341 : decode cL_law 2341 = .ok (.goto 1053, 3) := by decide +kernel
theorem dL_law_2344 : decode cL_law 2344 = .ok (.aload_n 1, 1) := by decide +kernel
theorem dL_law_2345 : decode cL_law 2345 = .ok (.aload_n 0, 1) := by decide +kernel
theorem dL_law_2346 : decode cL_law 2346 = .ok (.iload 5, 2) := by decide +kernel
theorem dL_law_2348 : decode cL_law 2348 = .ok (.iconst 1, 1) := by decide +kernel
theorem dL_law_2349 : decode cL_law 2349 = .ok (.iadd, 1) := by decide +kernel
theorem dL_law_2350 : decode cL_law 2350 = .ok (.iaload, 1) := by decide +kernel
theorem dL_law_2351 : decode cL_law 2351 = .ok (.aload_n 3, 1) := by decide +kernel
theorem dL_law_2352 : decode cL_law 2352 = .ok (.invokestatic 325, 3) := by decide +kernel
theorem dL_law_2355 : decode cL_law 2355 = .ok (.istore 6, 2) := by decide +kernel
theorem dL_law_2357 : decode cL_law 2357 = .ok (.aload_n 2, 1) := by decide +kernel
theorem dL_law_2358 : decode cL_law 2358 = .ok (.aload_n 0, 1) := by decide +kernel
theorem dL_law_2359 : decode cL_law 2359 = .ok (.iload 5, 2) := by decide +kernel
theorem dL_law_2361 : decode cL_law 2361 = .ok (.iconst 1, 1) := by decide +kernel
theorem dL_law_2362 : decode cL_law 2362 = .ok (.iadd, 1) := by decide +kernel
theorem dL_law_2363 : decode cL_law 2363 = .ok (.iaload, 1) := by decide +kernel
theorem dL_law_2364 : decode cL_law 2364 = .ok (.invokevirtual 327, 3) := by decide +kernel
theorem dL_law_2367 : decode cL_law 2367 = .ok (.istore 7, 2) := by decide +kernel
theorem dL_law_2369 : decode cL_law 2369 = .ok (.aload_n 2, 1) := by decide +kernel
theorem dL_law_2370 : decode cL_law 2370 = .ok (.invokevirtual 181, 3) := by decide +kernel
theorem dL_law_2373 : decode cL_law 2373 = .ok (.iload 6, 2) := by decide +kernel
theorem dL_law_2375 : decode cL_law 2375 = .ok (.if_icmp .eq 5, 3) := by decide +kernel
theorem dL_law_2378 : decode cL_law 2378 = .ok (.iconst 0, 1) := by decide +kernel
theorem dL_law_2379 : decode cL_law 2379 = .ok (.ireturn, 1) := by decide +kernel
theorem dL_law_2380 : decode cL_law 2380 = .ok (.iload 6, 2) := by decide +kernel
theorem dL_law_2382 : decode cL_law 2382 = .ok (.ifCond .ne 15, 3) := by decide +kernel
theorem dL_law_2385 : decode cL_law 2385 = .ok (.aload_n 3, 1) := by decide +kernel
theorem dL_law_2386 : decode cL_law 2386 = .ok (.iconst 0, 1) := by decide +kernel
theorem dL_law_2387 : decode cL_law 2387 = .ok (.laload, 1) := by decide +kernel
theorem dL_law_2388 : decode cL_law 2388 = .ok (.iload 7, 2) := by decide +kernel
theorem dL_law_2390 : decode cL_law 2390 = .ok (.i2l, 1) := by decide +kernel
theorem dL_law_2391 : decode cL_law 2391 = .ok (.lcmp, 1) := by decide +kernel
theorem dL_law_2392 : decode cL_law 2392 = .ok (.ifCond .eq 5, 3) := by decide +kernel
theorem dL_law_2395 : decode cL_law 2395 = .ok (.iconst 0, 1) := by decide +kernel
theorem dL_law_2396 : decode cL_law 2396 = .ok (.ireturn, 1) := by decide +kernel
theorem dL_law_2397 : decode cL_law 2397 = .ok (.goto 997, 3) := by decide +kernel
theorem dL_law_2400 : decode cL_law 2400 = .ok (.aload_n 1, 1) := by decide +kernel
theorem dL_law_2401 : decode cL_law 2401 = .ok (.aload_n 0, 1) := by decide +kernel
theorem dL_law_2402 : decode cL_law 2402 = .ok (.iload 5, 2) := by decide +kernel
theorem dL_law_2404 : decode cL_law 2404 = .ok (.iconst 1, 1) := by decide +kernel
theorem dL_law_2405 : decode cL_law 2405 = .ok (.iadd, 1) := by decide +kernel
theorem dL_law_2406 : decode cL_law 2406 = .ok (.iaload, 1) := by decide +kernel
theorem dL_law_2407 : decode cL_law 2407 = .ok (.aload_n 0, 1) := by decide +kernel
theorem dL_law_2408 : decode cL_law 2408 = .ok (.iload 5, 2) := by decide +kernel
theorem dL_law_2410 : decode cL_law 2410 = .ok (.iconst 2, 1) := by decide +kernel
theorem dL_law_2411 : decode cL_law 2411 = .ok (.iadd, 1) := by decide +kernel
theorem dL_law_2412 : decode cL_law 2412 = .ok (.iaload, 1) := by decide +kernel
theorem dL_law_2413 : decode cL_law 2413 = .ok (.aload_n 3, 1) := by decide +kernel
theorem dL_law_2414 : decode cL_law 2414 = .ok (.invokestatic 328, 3) := by decide +kernel
theorem dL_law_2417 : decode cL_law 2417 = .ok (.istore 6, 2) := by decide +kernel
theorem dL_law_2419 : decode cL_law 2419 = .ok (.aload_n 2, 1) := by decide +kernel
theorem dL_law_2420 : decode cL_law 2420 = .ok (.aload_n 0, 1) := by decide +kernel
theorem dL_law_2421 : decode cL_law 2421 = .ok (.iload 5, 2) := by decide +kernel
theorem dL_law_2423 : decode cL_law 2423 = .ok (.iconst 1, 1) := by decide +kernel
theorem dL_law_2424 : decode cL_law 2424 = .ok (.iadd, 1) := by decide +kernel
theorem dL_law_2425 : decode cL_law 2425 = .ok (.iaload, 1) := by decide +kernel
theorem dL_law_2426 : decode cL_law 2426 = .ok (.aload_n 0, 1) := by decide +kernel
theorem dL_law_2427 : decode cL_law 2427 = .ok (.iload 5, 2) := by decide +kernel
theorem dL_law_2429 : decode cL_law 2429 = .ok (.iconst 2, 1) := by decide +kernel
theorem dL_law_2430 : decode cL_law 2430 = .ok (.iadd, 1) := by decide +kernel
theorem dL_law_2431 : decode cL_law 2431 = .ok (.iaload, 1) := by decide +kernel
theorem dL_law_2432 : decode cL_law 2432 = .ok (.invokevirtual 330, 3) := by decide +kernel
theorem dL_law_2435 : decode cL_law 2435 = .ok (.istore 7, 2) := by decide +kernel
theorem dL_law_2437 : decode cL_law 2437 = .ok (.aload_n 2, 1) := by decide +kernel
theorem dL_law_2438 : decode cL_law 2438 = .ok (.invokevirtual 181, 3) := by decide +kernel
theorem dL_law_2441 : decode cL_law 2441 = .ok (.iload 6, 2) := by decide +kernel
theorem dL_law_2443 : decode cL_law 2443 = .ok (.if_icmp .eq 5, 3) := by decide +kernel
theorem dL_law_2446 : decode cL_law 2446 = .ok (.iconst 0, 1) := by decide +kernel
theorem dL_law_2447 : decode cL_law 2447 = .ok (.ireturn, 1) := by decide +kernel
theorem dL_law_2448 : decode cL_law 2448 = .ok (.iload 6, 2) := by decide +kernel
theorem dL_law_2450 : decode cL_law 2450 = .ok (.ifCond .ne 15, 3) := by decide +kernel
theorem dL_law_2453 : decode cL_law 2453 = .ok (.aload_n 3, 1) := by decide +kernel
theorem dL_law_2454 : decode cL_law 2454 = .ok (.iconst 0, 1) := by decide +kernel
theorem dL_law_2455 : decode cL_law 2455 = .ok (.laload, 1) := by decide +kernel
theorem dL_law_2456 : decode cL_law 2456 = .ok (.iload 7, 2) := by decide +kernel
theorem dL_law_2458 : decode cL_law 2458 = .ok (.i2l, 1) := by decide +kernel
theorem dL_law_2459 : decode cL_law 2459 = .ok (.lcmp, 1) := by decide +kernel
theorem dL_law_2460 : decode cL_law 2460 = .ok (.ifCond .eq 5, 3) := by decide +kernel
theorem dL_law_2463 : decode cL_law 2463 = .ok (.iconst 0, 1) := by decide +kernel
theorem dL_law_2464 : decode cL_law 2464 = .ok (.ireturn, 1) := by decide +kernel
theorem dL_law_2465 : decode cL_law 2465 = .ok (.goto 929, 3) := by decide +kernel
theorem dL_law_2468 : decode cL_law 2468 = .ok (.aload_n 1, 1) := by decide +kernel
theorem dL_law_2469 : decode cL_law 2469 = .ok (.aload_n 0, 1) := by decide +kernel
theorem dL_law_2470 : decode cL_law 2470 = .ok (.iload 5, 2) := by decide +kernel
theorem dL_law_2472 : decode cL_law 2472 = .ok (.iconst 1, 1) := by decide +kernel
theorem dL_law_2473 : decode cL_law 2473 = .ok (.iadd, 1) := by decide +kernel
theorem dL_law_2474 : decode cL_law 2474 = .ok (.iaload, 1) := by decide +kernel
theorem dL_law_2475 : decode cL_law 2475 = .ok (.aload_n 0, 1) := by decide +kernel
theorem dL_law_2476 : decode cL_law 2476 = .ok (.iload 5, 2) := by decide +kernel
theorem dL_law_2478 : decode cL_law 2478 = .ok (.iconst 2, 1) := by decide +kernel
theorem dL_law_2479 : decode cL_law 2479 = .ok (.iadd, 1) := by decide +kernel
theorem dL_law_2480 : decode cL_law 2480 = .ok (.iaload, 1) := by decide +kernel
theorem dL_law_2481 : decode cL_law 2481 = .ok (.aload_n 3, 1) := by decide +kernel
theorem dL_law_2482 : decode cL_law 2482 = .ok (.invokestatic 331, 3) := by decide +kernel
theorem dL_law_2485 : decode cL_law 2485 = .ok (.istore 6, 2) := by decide +kernel
theorem dL_law_2487 : decode cL_law 2487 = .ok (.aload_n 2, 1) := by decide +kernel
theorem dL_law_2488 : decode cL_law 2488 = .ok (.aload_n 0, 1) := by decide +kernel
theorem dL_law_2489 : decode cL_law 2489 = .ok (.iload 5, 2) := by decide +kernel
theorem dL_law_2491 : decode cL_law 2491 = .ok (.iconst 1, 1) := by decide +kernel
theorem dL_law_2492 : decode cL_law 2492 = .ok (.iadd, 1) := by decide +kernel
theorem dL_law_2493 : decode cL_law 2493 = .ok (.iaload, 1) := by decide +kernel
theorem dL_law_2494 : decode cL_law 2494 = .ok (.aload_n 0, 1) := by decide +kernel
theorem dL_law_2495 : decode cL_law 2495 = .ok (.iload 5, 2) := by decide +kernel
theorem dL_law_2497 : decode cL_law 2497 = .ok (.iconst 2, 1) := by decide +kernel
theorem dL_law_2498 : decode cL_law 2498 = .ok (.iadd, 1) := by decide +kernel
theorem dL_law_2499 : decode cL_law 2499 = .ok (.iaload, 1) := by decide +kernel
theorem dL_law_2500 : decode cL_law 2500 = .ok (.invokevirtual 333, 3) := by decide +kernel
theorem dL_law_2503 : decode cL_law 2503 = .ok (.istore 7, 2) := by decide +kernel
theorem dL_law_2505 : decode cL_law 2505 = .ok (.aload_n 2, 1) := by decide +kernel
theorem dL_law_2506 : decode cL_law 2506 = .ok (.invokevirtual 181, 3) := by decide +kernel
theorem dL_law_2509 : decode cL_law 2509 = .ok (.iload 6, 2) := by decide +kernel
theorem dL_law_2511 : decode cL_law 2511 = .ok (.if_icmp .eq 5, 3) := by decide +kernel
theorem dL_law_2514 : decode cL_law 2514 = .ok (.iconst 0, 1) := by decide +kernel
theorem dL_law_2515 : decode cL_law 2515 = .ok (.ireturn, 1) := by decide +kernel
theorem dL_law_2516 : decode cL_law 2516 = .ok (.iload 6, 2) := by decide +kernel
theorem dL_law_2518 : decode cL_law 2518 = .ok (.ifCond .ne 15, 3) := by decide +kernel
theorem dL_law_2521 : decode cL_law 2521 = .ok (.aload_n 3, 1) := by decide +kernel
theorem dL_law_2522 : decode cL_law 2522 = .ok (.iconst 0, 1) := by decide +kernel
theorem dL_law_2523 : decode cL_law 2523 = .ok (.laload, 1) := by decide +kernel
theorem dL_law_2524 : decode cL_law 2524 = .ok (.iload 7, 2) := by decide +kernel
theorem dL_law_2526 : decode cL_law 2526 = .ok (.i2l, 1) := by decide +kernel
theorem dL_law_2527 : decode cL_law 2527 = .ok (.lcmp, 1) := by decide +kernel
theorem dL_law_2528 : decode cL_law 2528 = .ok (.ifCond .eq 5, 3) := by decide +kernel
theorem dL_law_2531 : decode cL_law 2531 = .ok (.iconst 0, 1) := by decide +kernel
theorem dL_law_2532 : decode cL_law 2532 = .ok (.ireturn, 1) := by decide +kernel
theorem dL_law_2533 : decode cL_law 2533 = .ok (.goto 861, 3) := by decide +kernel
theorem dL_law_2536 : decode cL_law 2536 = .ok (.aload_n 1, 1) := by decide +kernel
theorem dL_law_2537 : decode cL_law 2537 = .ok (.aload_n 0, 1) := by decide +kernel
theorem dL_law_2538 : decode cL_law 2538 = .ok (.iload 5, 2) := by decide +kernel
theorem dL_law_2540 : decode cL_law 2540 = .ok (.iconst 1, 1) := by decide +kernel
theorem dL_law_2541 : decode cL_law 2541 = .ok (.iadd, 1) := by decide +kernel
theorem dL_law_2542 : decode cL_law 2542 = .ok (.iaload, 1) := by decide +kernel
theorem dL_law_2543 : decode cL_law 2543 = .ok (.aload_n 0, 1) := by decide +kernel
theorem dL_law_2544 : decode cL_law 2544 = .ok (.iload 5, 2) := by decide +kernel
theorem dL_law_2546 : decode cL_law 2546 = .ok (.iconst 2, 1) := by decide +kernel
theorem dL_law_2547 : decode cL_law 2547 = .ok (.iadd, 1) := by decide +kernel
theorem dL_law_2548 : decode cL_law 2548 = .ok (.iaload, 1) := by decide +kernel
theorem dL_law_2549 : decode cL_law 2549 = .ok (.aload_n 3, 1) := by decide +kernel
theorem dL_law_2550 : decode cL_law 2550 = .ok (.invokestatic 334, 3) := by decide +kernel
theorem dL_law_2553 : decode cL_law 2553 = .ok (.istore 6, 2) := by decide +kernel
theorem dL_law_2555 : decode cL_law 2555 = .ok (.aload_n 2, 1) := by decide +kernel
theorem dL_law_2556 : decode cL_law 2556 = .ok (.aload_n 0, 1) := by decide +kernel
theorem dL_law_2557 : decode cL_law 2557 = .ok (.iload 5, 2) := by decide +kernel
theorem dL_law_2559 : decode cL_law 2559 = .ok (.iconst 1, 1) := by decide +kernel
theorem dL_law_2560 : decode cL_law 2560 = .ok (.iadd, 1) := by decide +kernel
theorem dL_law_2561 : decode cL_law 2561 = .ok (.iaload, 1) := by decide +kernel
theorem dL_law_2562 : decode cL_law 2562 = .ok (.aload_n 0, 1) := by decide +kernel
theorem dL_law_2563 : decode cL_law 2563 = .ok (.iload 5, 2) := by decide +kernel
theorem dL_law_2565 : decode cL_law 2565 = .ok (.iconst 2, 1) := by decide +kernel
theorem dL_law_2566 : decode cL_law 2566 = .ok (.iadd, 1) := by decide +kernel
theorem dL_law_2567 : decode cL_law 2567 = .ok (.iaload, 1) := by decide +kernel
theorem dL_law_2568 : decode cL_law 2568 = .ok (.invokevirtual 336, 3) := by decide +kernel
theorem dL_law_2571 : decode cL_law 2571 = .ok (.istore 7, 2) := by decide +kernel
theorem dL_law_2573 : decode cL_law 2573 = .ok (.aload_n 2, 1) := by decide +kernel
theorem dL_law_2574 : decode cL_law 2574 = .ok (.invokevirtual 181, 3) := by decide +kernel
theorem dL_law_2577 : decode cL_law 2577 = .ok (.iload 6, 2) := by decide +kernel
theorem dL_law_2579 : decode cL_law 2579 = .ok (.if_icmp .eq 5, 3) := by decide +kernel
theorem dL_law_2582 : decode cL_law 2582 = .ok (.iconst 0, 1) := by decide +kernel
theorem dL_law_2583 : decode cL_law 2583 = .ok (.ireturn, 1) := by decide +kernel
theorem dL_law_2584 : decode cL_law 2584 = .ok (.iload 6, 2) := by decide +kernel
theorem dL_law_2586 : decode cL_law 2586 = .ok (.ifCond .ne 15, 3) := by decide +kernel
theorem dL_law_2589 : decode cL_law 2589 = .ok (.aload_n 3, 1) := by decide +kernel
theorem dL_law_2590 : decode cL_law 2590 = .ok (.iconst 0, 1) := by decide +kernel
theorem dL_law_2591 : decode cL_law 2591 = .ok (.laload, 1) := by decide +kernel
theorem dL_law_2592 : decode cL_law 2592 = .ok (.iload 7, 2) := by decide +kernel
theorem dL_law_2594 : decode cL_law 2594 = .ok (.i2l, 1) := by decide +kernel
theorem dL_law_2595 : decode cL_law 2595 = .ok (.lcmp, 1) := by decide +kernel
theorem dL_law_2596 : decode cL_law 2596 = .ok (.ifCond .eq 5, 3) := by decide +kernel
theorem dL_law_2599 : decode cL_law 2599 = .ok (.iconst 0, 1) := by decide +kernel
theorem dL_law_2600 : decode cL_law 2600 = .ok (.ireturn, 1) := by decide +kernel
theorem dL_law_2601 : decode cL_law 2601 = .ok (.goto 793, 3) := by decide +kernel
theorem dL_law_2604 : decode cL_law 2604 = .ok (.aload_n 1, 1) := by decide +kernel
theorem dL_law_2605 : decode cL_law 2605 = .ok (.aload_n 0, 1) := by decide +kernel
theorem dL_law_2606 : decode cL_law 2606 = .ok (.iload 5, 2) := by decide +kernel
theorem dL_law_2608 : decode cL_law 2608 = .ok (.iconst 1, 1) := by decide +kernel
theorem dL_law_2609 : decode cL_law 2609 = .ok (.iadd, 1) := by decide +kernel
theorem dL_law_2610 : decode cL_law 2610 = .ok (.iaload, 1) := by decide +kernel
theorem dL_law_2611 : decode cL_law 2611 = .ok (.aload_n 0, 1) := by decide +kernel
theorem dL_law_2612 : decode cL_law 2612 = .ok (.iload 5, 2) := by decide +kernel
theorem dL_law_2614 : decode cL_law 2614 = .ok (.iconst 2, 1) := by decide +kernel
theorem dL_law_2615 : decode cL_law 2615 = .ok (.iadd, 1) := by decide +kernel
theorem dL_law_2616 : decode cL_law 2616 = .ok (.iaload, 1) := by decide +kernel
theorem dL_law_2617 : decode cL_law 2617 = .ok (.aload_n 3, 1) := by decide +kernel
theorem dL_law_2618 : decode cL_law 2618 = .ok (.invokestatic 337, 3) := by decide +kernel
theorem dL_law_2621 : decode cL_law 2621 = .ok (.istore 6, 2) := by decide +kernel
theorem dL_law_2623 : decode cL_law 2623 = .ok (.aload_n 2, 1) := by decide +kernel
theorem dL_law_2624 : decode cL_law 2624 = .ok (.aload_n 0, 1) := by decide +kernel
theorem dL_law_2625 : decode cL_law 2625 = .ok (.iload 5, 2) := by decide +kernel
theorem dL_law_2627 : decode cL_law 2627 = .ok (.iconst 1, 1) := by decide +kernel
theorem dL_law_2628 : decode cL_law 2628 = .ok (.iadd, 1) := by decide +kernel
theorem dL_law_2629 : decode cL_law 2629 = .ok (.iaload, 1) := by decide +kernel
theorem dL_law_2630 : decode cL_law 2630 = .ok (.aload_n 0, 1) := by decide +kernel
theorem dL_law_2631 : decode cL_law 2631 = .ok (.iload 5, 2) := by decide +kernel
theorem dL_law_2633 : decode cL_law 2633 = .ok (.iconst 2, 1) := by decide +kernel
theorem dL_law_2634 : decode cL_law 2634 = .ok (.iadd, 1) := by decide +kernel
theorem dL_law_2635 : decode cL_law 2635 = .ok (.iaload, 1) := by decide +kernel
theorem dL_law_2636 : decode cL_law 2636 = .ok (.invokevirtual 339, 3) := by decide +kernel
theorem dL_law_2639 : decode cL_law 2639 = .ok (.istore 7, 2) := by decide +kernel
theorem dL_law_2641 : decode cL_law 2641 = .ok (.aload_n 2, 1) := by decide +kernel
theorem dL_law_2642 : decode cL_law 2642 = .ok (.invokevirtual 181, 3) := by decide +kernel
theorem dL_law_2645 : decode cL_law 2645 = .ok (.iload 6, 2) := by decide +kernel
theorem dL_law_2647 : decode cL_law 2647 = .ok (.if_icmp .eq 5, 3) := by decide +kernel
theorem dL_law_2650 : decode cL_law 2650 = .ok (.iconst 0, 1) := by decide +kernel
theorem dL_law_2651 : decode cL_law 2651 = .ok (.ireturn, 1) := by decide +kernel
theorem dL_law_2652 : decode cL_law 2652 = .ok (.iload 6, 2) := by decide +kernel
theorem dL_law_2654 : decode cL_law 2654 = .ok (.ifCond .ne 15, 3) := by decide +kernel
theorem dL_law_2657 : decode cL_law 2657 = .ok (.aload_n 3, 1) := by decide +kernel
theorem dL_law_2658 : decode cL_law 2658 = .ok (.iconst 0, 1) := by decide +kernel
theorem dL_law_2659 : decode cL_law 2659 = .ok (.laload, 1) := by decide +kernel
theorem dL_law_2660 : decode cL_law 2660 = .ok (.iload 7, 2) := by decide +kernel
theorem dL_law_2662 : decode cL_law 2662 = .ok (.i2l, 1) := by decide +kernel
theorem dL_law_2663 : decode cL_law 2663 = .ok (.lcmp, 1) := by decide +kernel
theorem dL_law_2664 : decode cL_law 2664 = .ok (.ifCond .eq 5, 3) := by decide +kernel
theorem dL_law_2667 : decode cL_law 2667 = .ok (.iconst 0, 1) := by decide +kernel
theorem dL_law_2668 : decode cL_law 2668 = .ok (.ireturn, 1) := by decide +kernel
theorem dL_law_2669 : decode cL_law 2669 = .ok (.goto 725, 3) := by decide +kernel
theorem dL_law_2672 : decode cL_law 2672 = .ok (.aload_n 1, 1) := by decide +kernel
theorem dL_law_2673 : decode cL_law 2673 = .ok (.invokevirtual 340, 3) := by decide +kernel
theorem dL_law_2676 : decode cL_law 2676 = .ok (.aload_n 2, 1) := by decide +kernel
theorem dL_law_2677 : decode cL_law 2677 = .ok (.invokevirtual 343, 3) := by decide +kernel
theorem dL_law_2680 : decode cL_law 2680 = .ok (.if_icmp .eq 714, 3) := by decide +kernel
theorem dL_law_2683 : decode cL_law 2683 = .ok (.iconst 0, 1) := by decide +kernel
theorem dL_law_2684 : decode cL_law 2684 = .ok (.ireturn, 1) := by decide +kernel
theorem dL_law_2685 : decode cL_law 2685 = .ok (.aload_n 1, 1) := by decide +kernel
theorem dL_law_2686 : decode cL_law 2686 = .ok (.aload_n 0, 1) := by decide +kernel
theorem dL_law_2687 : decode cL_law 2687 = .ok (.iload 5, 2) := by decide +kernel
theorem dL_law_2689 : decode cL_law 2689 = .ok (.iconst 1, 1) := by decide +kernel
theorem dL_law_2690 : decode cL_law 2690 = .ok (.iadd, 1) := by decide +kernel
theorem dL_law_2691 : decode cL_law 2691 = .ok (.iaload, 1) := by decide +kernel
theorem dL_law_2692 : decode cL_law 2692 = .ok (.aload_n 0, 1) := by decide +kernel
theorem dL_law_2693 : decode cL_law 2693 = .ok (.iload 5, 2) := by decide +kernel
theorem dL_law_2695 : decode cL_law 2695 = .ok (.iconst 2, 1) := by decide +kernel
theorem dL_law_2696 : decode cL_law 2696 = .ok (.iadd, 1) := by decide +kernel
theorem dL_law_2697 : decode cL_law 2697 = .ok (.iaload, 1) := by decide +kernel
theorem dL_law_2698 : decode cL_law 2698 = .ok (.aload_n 3, 1) := by decide +kernel
theorem dL_law_2699 : decode cL_law 2699 = .ok (.invokestatic 344, 3) := by decide +kernel
theorem dL_law_2702 : decode cL_law 2702 = .ok (.istore 6, 2) := by decide +kernel
theorem dL_law_2704 : decode cL_law 2704 = .ok (.aload_n 2, 1) := by decide +kernel
theorem dL_law_2705 : decode cL_law 2705 = .ok (.aload_n 0, 1) := by decide +kernel
theorem dL_law_2706 : decode cL_law 2706 = .ok (.iload 5, 2) := by decide +kernel
theorem dL_law_2708 : decode cL_law 2708 = .ok (.iconst 1, 1) := by decide +kernel
theorem dL_law_2709 : decode cL_law 2709 = .ok (.iadd, 1) := by decide +kernel
theorem dL_law_2710 : decode cL_law 2710 = .ok (.iaload, 1) := by decide +kernel
theorem dL_law_2711 : decode cL_law 2711 = .ok (.aload_n 0, 1) := by decide +kernel
theorem dL_law_2712 : decode cL_law 2712 = .ok (.iload 5, 2) := by decide +kernel
theorem dL_law_2714 : decode cL_law 2714 = .ok (.iconst 2, 1) := by decide +kernel
theorem dL_law_2715 : decode cL_law 2715 = .ok (.iadd, 1) := by decide +kernel
theorem dL_law_2716 : decode cL_law 2716 = .ok (.iaload, 1) := by decide +kernel
theorem dL_law_2717 : decode cL_law 2717 = .ok (.invokevirtual 346, 3) := by decide +kernel
theorem dL_law_2720 : decode cL_law 2720 = .ok (.istore 7, 2) := by decide +kernel
theorem dL_law_2722 : decode cL_law 2722 = .ok (.aload_n 2, 1) := by decide +kernel
theorem dL_law_2723 : decode cL_law 2723 = .ok (.invokevirtual 181, 3) := by decide +kernel
theorem dL_law_2726 : decode cL_law 2726 = .ok (.iload 6, 2) := by decide +kernel
theorem dL_law_2728 : decode cL_law 2728 = .ok (.if_icmp .eq 5, 3) := by decide +kernel
theorem dL_law_2731 : decode cL_law 2731 = .ok (.iconst 0, 1) := by decide +kernel
theorem dL_law_2732 : decode cL_law 2732 = .ok (.ireturn, 1) := by decide +kernel
theorem dL_law_2733 : decode cL_law 2733 = .ok (.iload 6, 2) := by decide +kernel
theorem dL_law_2735 : decode cL_law 2735 = .ok (.ifCond .ne 15, 3) := by decide +kernel
theorem dL_law_2738 : decode cL_law 2738 = .ok (.aload_n 3, 1) := by decide +kernel
theorem dL_law_2739 : decode cL_law 2739 = .ok (.iconst 0, 1) := by decide +kernel
theorem dL_law_2740 : decode cL_law 2740 = .ok (.laload, 1) := by decide +kernel
theorem dL_law_2741 : decode cL_law 2741 = .ok (.iload 7, 2) := by decide +kernel
theorem dL_law_2743 : decode cL_law 2743 = .ok (.i2l, 1) := by decide +kernel
theorem dL_law_2744 : decode cL_law 2744 = .ok (.lcmp, 1) := by decide +kernel
theorem dL_law_2745 : decode cL_law 2745 = .ok (.ifCond .eq 5, 3) := by decide +kernel
theorem dL_law_2748 : decode cL_law 2748 = .ok (.iconst 0, 1) := by decide +kernel
theorem dL_law_2749 : decode cL_law 2749 = .ok (.ireturn, 1) := by decide +kernel
theorem dL_law_2750 : decode cL_law 2750 = .ok (.goto 644, 3) := by decide +kernel
theorem dL_law_2753 : decode cL_law 2753 = .ok (.aload_n 1, 1) := by decide +kernel
theorem dL_law_2754 : decode cL_law 2754 = .ok (.invokevirtual 347, 3) := by decide +kernel
theorem dL_law_2757 : decode cL_law 2757 = .ok (.aload_n 2, 1) := by decide +kernel
theorem dL_law_2758 : decode cL_law 2758 = .ok (.invokevirtual 350, 3) := by decide +kernel
theorem dL_law_2761 : decode cL_law 2761 = .ok (.if_icmp .eq 633, 3) := by decide +kernel
theorem dL_law_2764 : decode cL_law 2764 = .ok (.iconst 0, 1) := by decide +kernel
theorem dL_law_2765 : decode cL_law 2765 = .ok (.ireturn, 1) := by decide +kernel
theorem dL_law_2766 : decode cL_law 2766 = .ok (.aload_n 1, 1) := by decide +kernel
theorem dL_law_2767 : decode cL_law 2767 = .ok (.aload_n 0, 1) := by decide +kernel
theorem dL_law_2768 : decode cL_law 2768 = .ok (.iload 5, 2) := by decide +kernel
theorem dL_law_2770 : decode cL_law 2770 = .ok (.iconst 1, 1) := by decide +kernel
theorem dL_law_2771 : decode cL_law 2771 = .ok (.iadd, 1) := by decide +kernel
theorem dL_law_2772 : decode cL_law 2772 = .ok (.iaload, 1) := by decide +kernel
theorem dL_law_2773 : decode cL_law 2773 = .ok (.aload_n 3, 1) := by decide +kernel
theorem dL_law_2774 : decode cL_law 2774 = .ok (.invokestatic 351, 3) := by decide +kernel
theorem dL_law_2777 : decode cL_law 2777 = .ok (.istore 6, 2) := by decide +kernel
theorem dL_law_2779 : decode cL_law 2779 = .ok (.aload_n 2, 1) := by decide +kernel
theorem dL_law_2780 : decode cL_law 2780 = .ok (.aload_n 0, 1) := by decide +kernel
theorem dL_law_2781 : decode cL_law 2781 = .ok (.iload 5, 2) := by decide +kernel
theorem dL_law_2783 : decode cL_law 2783 = .ok (.iconst 1, 1) := by decide +kernel
theorem dL_law_2784 : decode cL_law 2784 = .ok (.iadd, 1) := by decide +kernel
theorem dL_law_2785 : decode cL_law 2785 = .ok (.iaload, 1) := by decide +kernel
theorem dL_law_2786 : decode cL_law 2786 = .ok (.invokevirtual 353, 3) := by decide +kernel
theorem dL_law_2789 : decode cL_law 2789 = .ok (.istore 7, 2) := by decide +kernel
theorem dL_law_2791 : decode cL_law 2791 = .ok (.aload_n 2, 1) := by decide +kernel
theorem dL_law_2792 : decode cL_law 2792 = .ok (.invokevirtual 181, 3) := by decide +kernel
theorem dL_law_2795 : decode cL_law 2795 = .ok (.iload 6, 2) := by decide +kernel
theorem dL_law_2797 : decode cL_law 2797 = .ok (.if_icmp .eq 5, 3) := by decide +kernel
theorem dL_law_2800 : decode cL_law 2800 = .ok (.iconst 0, 1) := by decide +kernel
theorem dL_law_2801 : decode cL_law 2801 = .ok (.ireturn, 1) := by decide +kernel
theorem dL_law_2802 : decode cL_law 2802 = .ok (.iload 6, 2) := by decide +kernel
theorem dL_law_2804 : decode cL_law 2804 = .ok (.ifCond .ne 15, 3) := by decide +kernel
theorem dL_law_2807 : decode cL_law 2807 = .ok (.aload_n 3, 1) := by decide +kernel
theorem dL_law_2808 : decode cL_law 2808 = .ok (.iconst 0, 1) := by decide +kernel
theorem dL_law_2809 : decode cL_law 2809 = .ok (.laload, 1) := by decide +kernel
theorem dL_law_2810 : decode cL_law 2810 = .ok (.iload 7, 2) := by decide +kernel
theorem dL_law_2812 : decode cL_law 2812 = .ok (.i2l, 1) := by decide +kernel
theorem dL_law_2813 : decode cL_law 2813 = .ok (.lcmp, 1) := by decide +kernel
theorem dL_law_2814 : decode cL_law 2814 = .ok (.ifCond .eq 5, 3) := by decide +kernel
theorem dL_law_2817 : decode cL_law 2817 = .ok (.iconst 0, 1) := by decide +kernel
theorem dL_law_2818 : decode cL_law 2818 = .ok (.ireturn, 1) := by decide +kernel
theorem dL_law_2819 : decode cL_law 2819 = .ok (.goto 575, 3) := by decide +kernel
theorem dL_law_2822 : decode cL_law 2822 = .ok (.aload_n 1, 1) := by decide +kernel
theorem dL_law_2823 : decode cL_law 2823 = .ok (.aload_n 3, 1) := by decide +kernel
theorem dL_law_2824 : decode cL_law 2824 = .ok (.invokestatic 354, 3) := by decide +kernel
theorem dL_law_2827 : decode cL_law 2827 = .ok (.istore 6, 2) := by decide +kernel
theorem dL_law_2829 : decode cL_law 2829 = .ok (.aload_n 2, 1) := by decide +kernel
theorem dL_law_2830 : decode cL_law 2830 = .ok (.invokevirtual 356, 3) := by decide +kernel
theorem dL_law_2833 : decode cL_law 2833 = .ok (.istore 7, 2) := by decide +kernel
theorem dL_law_2835 : decode cL_law 2835 = .ok (.aload_n 2, 1) := by decide +kernel
theorem dL_law_2836 : decode cL_law 2836 = .ok (.invokevirtual 181, 3) := by decide +kernel
theorem dL_law_2839 : decode cL_law 2839 = .ok (.iload 6, 2) := by decide +kernel
theorem dL_law_2841 : decode cL_law 2841 = .ok (.if_icmp .eq 5, 3) := by decide +kernel
theorem dL_law_2844 : decode cL_law 2844 = .ok (.iconst 0, 1) := by decide +kernel
theorem dL_law_2845 : decode cL_law 2845 = .ok (.ireturn, 1) := by decide +kernel
theorem dL_law_2846 : decode cL_law 2846 = .ok (.iload 6, 2) := by decide +kernel
theorem dL_law_2848 : decode cL_law 2848 = .ok (.ifCond .ne 15, 3) := by decide +kernel
theorem dL_law_2851 : decode cL_law 2851 = .ok (.aload_n 3, 1) := by decide +kernel
theorem dL_law_2852 : decode cL_law 2852 = .ok (.iconst 0, 1) := by decide +kernel
theorem dL_law_2853 : decode cL_law 2853 = .ok (.laload, 1) := by decide +kernel
theorem dL_law_2854 : decode cL_law 2854 = .ok (.iload 7, 2) := by decide +kernel
theorem dL_law_2856 : decode cL_law 2856 = .ok (.i2l, 1) := by decide +kernel
theorem dL_law_2857 : decode cL_law 2857 = .ok (.lcmp, 1) := by decide +kernel
theorem dL_law_2858 : decode cL_law 2858 = .ok (.ifCond .eq 5, 3) := by decide +kernel
theorem dL_law_2861 : decode cL_law 2861 = .ok (.iconst 0, 1) := by decide +kernel
theorem dL_law_2862 : decode cL_law 2862 = .ok (.ireturn, 1) := by decide +kernel
theorem dL_law_2863 : decode cL_law 2863 = .ok (.goto 531, 3) := by decide +kernel
theorem dL_law_2866 : decode cL_law 2866 = .ok (.aload_n 1, 1) := by decide +kernel
theorem dL_law_2867 : decode cL_law 2867 = .ok (.aload_n 3, 1) := by decide +kernel
theorem dL_law_2868 : decode cL_law 2868 = .ok (.invokestatic 357, 3) := by decide +kernel
theorem dL_law_2871 : decode cL_law 2871 = .ok (.istore 6, 2) := by decide +kernel
theorem dL_law_2873 : decode cL_law 2873 = .ok (.aload_n 2, 1) := by decide +kernel
theorem dL_law_2874 : decode cL_law 2874 = .ok (.invokevirtual 359, 3) := by decide +kernel
theorem dL_law_2877 : decode cL_law 2877 = .ok (.istore 7, 2) := by decide +kernel
theorem dL_law_2879 : decode cL_law 2879 = .ok (.aload_n 2, 1) := by decide +kernel
theorem dL_law_2880 : decode cL_law 2880 = .ok (.invokevirtual 181, 3) := by decide +kernel
theorem dL_law_2883 : decode cL_law 2883 = .ok (.iload 6, 2) := by decide +kernel
theorem dL_law_2885 : decode cL_law 2885 = .ok (.if_icmp .eq 5, 3) := by decide +kernel
theorem dL_law_2888 : decode cL_law 2888 = .ok (.iconst 0, 1) := by decide +kernel
theorem dL_law_2889 : decode cL_law 2889 = .ok (.ireturn, 1) := by decide +kernel
theorem dL_law_2890 : decode cL_law 2890 = .ok (.iload 6, 2) := by decide +kernel
theorem dL_law_2892 : decode cL_law 2892 = .ok (.ifCond .ne 15, 3) := by decide +kernel
theorem dL_law_2895 : decode cL_law 2895 = .ok (.aload_n 3, 1) := by decide +kernel
theorem dL_law_2896 : decode cL_law 2896 = .ok (.iconst 0, 1) := by decide +kernel
theorem dL_law_2897 : decode cL_law 2897 = .ok (.laload, 1) := by decide +kernel
theorem dL_law_2898 : decode cL_law 2898 = .ok (.iload 7, 2) := by decide +kernel
theorem dL_law_2900 : decode cL_law 2900 = .ok (.i2l, 1) := by decide +kernel
theorem dL_law_2901 : decode cL_law 2901 = .ok (.lcmp, 1) := by decide +kernel
theorem dL_law_2902 : decode cL_law 2902 = .ok (.ifCond .eq 5, 3) := by decide +kernel
theorem dL_law_2905 : decode cL_law 2905 = .ok (.iconst 0, 1) := by decide +kernel
theorem dL_law_2906 : decode cL_law 2906 = .ok (.ireturn, 1) := by decide +kernel
theorem dL_law_2907 : decode cL_law 2907 = .ok (.goto 487, 3) := by decide +kernel
theorem dL_law_2910 : decode cL_law 2910 = .ok (.aload_n 1, 1) := by decide +kernel
theorem dL_law_2911 : decode cL_law 2911 = .ok (.aload_n 3, 1) := by decide +kernel
theorem dL_law_2912 : decode cL_law 2912 = .ok (.invokestatic 360, 3) := by decide +kernel
theorem dL_law_2915 : decode cL_law 2915 = .ok (.istore 6, 2) := by decide +kernel
theorem dL_law_2917 : decode cL_law 2917 = .ok (.aload_n 2, 1) := by decide +kernel
theorem dL_law_2918 : decode cL_law 2918 = .ok (.invokevirtual 362, 3) := by decide +kernel
theorem dL_law_2921 : decode cL_law 2921 = .ok (.istore 7, 2) := by decide +kernel
theorem dL_law_2923 : decode cL_law 2923 = .ok (.aload_n 2, 1) := by decide +kernel
theorem dL_law_2924 : decode cL_law 2924 = .ok (.invokevirtual 181, 3) := by decide +kernel
theorem dL_law_2927 : decode cL_law 2927 = .ok (.iload 6, 2) := by decide +kernel
theorem dL_law_2929 : decode cL_law 2929 = .ok (.if_icmp .eq 5, 3) := by decide +kernel
theorem dL_law_2932 : decode cL_law 2932 = .ok (.iconst 0, 1) := by decide +kernel
theorem dL_law_2933 : decode cL_law 2933 = .ok (.ireturn, 1) := by decide +kernel
theorem dL_law_2934 : decode cL_law 2934 = .ok (.iload 6, 2) := by decide +kernel
theorem dL_law_2936 : decode cL_law 2936 = .ok (.ifCond .ne 15, 3) := by decide +kernel
theorem dL_law_2939 : decode cL_law 2939 = .ok (.aload_n 3, 1) := by decide +kernel
theorem dL_law_2940 : decode cL_law 2940 = .ok (.iconst 0, 1) := by decide +kernel
theorem dL_law_2941 : decode cL_law 2941 = .ok (.laload, 1) := by decide +kernel
theorem dL_law_2942 : decode cL_law 2942 = .ok (.iload 7, 2) := by decide +kernel
theorem dL_law_2944 : decode cL_law 2944 = .ok (.i2l, 1) := by decide +kernel
theorem dL_law_2945 : decode cL_law 2945 = .ok (.lcmp, 1) := by decide +kernel
theorem dL_law_2946 : decode cL_law 2946 = .ok (.ifCond .eq 5, 3) := by decide +kernel
theorem dL_law_2949 : decode cL_law 2949 = .ok (.iconst 0, 1) := by decide +kernel
theorem dL_law_2950 : decode cL_law 2950 = .ok (.ireturn, 1) := by decide +kernel
theorem dL_law_2951 : decode cL_law 2951 = .ok (.goto 443, 3) := by decide +kernel
theorem dL_law_2954 : decode cL_law 2954 = .ok (.aload_n 1, 1) := by decide +kernel
theorem dL_law_2955 : decode cL_law 2955 = .ok (.aload_n 0, 1) := by decide +kernel
theorem dL_law_2956 : decode cL_law 2956 = .ok (.iload 5, 2) := by decide +kernel
theorem dL_law_2958 : decode cL_law 2958 = .ok (.iconst 1, 1) := by decide +kernel
theorem dL_law_2959 : decode cL_law 2959 = .ok (.iadd, 1) := by decide +kernel
theorem dL_law_2960 : decode cL_law 2960 = .ok (.iaload, 1) := by decide +kernel
theorem dL_law_2961 : decode cL_law 2961 = .ok (.aload_n 3, 1) := by decide +kernel
theorem dL_law_2962 : decode cL_law 2962 = .ok (.invokestatic 363, 3) := by decide +kernel
theorem dL_law_2965 : decode cL_law 2965 = .ok (.istore 6, 2) := by decide +kernel
theorem dL_law_2967 : decode cL_law 2967 = .ok (.aload_n 2, 1) := by decide +kernel
theorem dL_law_2968 : decode cL_law 2968 = .ok (.aload_n 0, 1) := by decide +kernel
theorem dL_law_2969 : decode cL_law 2969 = .ok (.iload 5, 2) := by decide +kernel
theorem dL_law_2971 : decode cL_law 2971 = .ok (.iconst 1, 1) := by decide +kernel
theorem dL_law_2972 : decode cL_law 2972 = .ok (.iadd, 1) := by decide +kernel
theorem dL_law_2973 : decode cL_law 2973 = .ok (.iaload, 1) := by decide +kernel
theorem dL_law_2974 : decode cL_law 2974 = .ok (.invokevirtual 365, 3) := by decide +kernel
theorem dL_law_2977 : decode cL_law 2977 = .ok (.istore 7, 2) := by decide +kernel
theorem dL_law_2979 : decode cL_law 2979 = .ok (.aload_n 2, 1) := by decide +kernel
theorem dL_law_2980 : decode cL_law 2980 = .ok (.invokevirtual 181, 3) := by decide +kernel
theorem dL_law_2983 : decode cL_law 2983 = .ok (.iload 6, 2) := by decide +kernel
theorem dL_law_2985 : decode cL_law 2985 = .ok (.if_icmp .eq 5, 3) := by decide +kernel
theorem dL_law_2988 : decode cL_law 2988 = .ok (.iconst 0, 1) := by decide +kernel
theorem dL_law_2989 : decode cL_law 2989 = .ok (.ireturn, 1) := by decide +kernel
theorem dL_law_2990 : decode cL_law 2990 = .ok (.iload 6, 2) := by decide +kernel
theorem dL_law_2992 : decode cL_law 2992 = .ok (.ifCond .ne 15, 3) := by decide +kernel
theorem dL_law_2995 : decode cL_law 2995 = .ok (.aload_n 3, 1) := by decide +kernel
theorem dL_law_2996 : decode cL_law 2996 = .ok (.iconst 0, 1) := by decide +kernel
theorem dL_law_2997 : decode cL_law 2997 = .ok (.laload, 1) := by decide +kernel
theorem dL_law_2998 : decode cL_law 2998 = .ok (.iload 7, 2) := by decide +kernel
theorem dL_law_3000 : decode cL_law 3000 = .ok (.i2l, 1) := by decide +kernel
theorem dL_law_3001 : decode cL_law 3001 = .ok (.lcmp, 1) := by decide +kernel
theorem dL_law_3002 : decode cL_law 3002 = .ok (.ifCond .eq 5, 3) := by decide +kernel
theorem dL_law_3005 : decode cL_law 3005 = .ok (.iconst 0, 1) := by decide +kernel
theorem dL_law_3006 : decode cL_law 3006 = .ok (.ireturn, 1) := by decide +kernel
theorem dL_law_3007 : decode cL_law 3007 = .ok (.goto 387, 3) := by decide +kernel
theorem dL_law_3010 : decode cL_law 3010 = .ok (.aload_n 1, 1) := by decide +kernel
theorem dL_law_3011 : decode cL_law 3011 = .ok (.aload_n 3, 1) := by decide +kernel
theorem dL_law_3012 : decode cL_law 3012 = .ok (.invokestatic 366, 3) := by decide +kernel
theorem dL_law_3015 : decode cL_law 3015 = .ok (.istore 6, 2) := by decide +kernel
theorem dL_law_3017 : decode cL_law 3017 = .ok (.aload_n 2, 1) := by decide +kernel
theorem dL_law_3018 : decode cL_law 3018 = .ok (.invokevirtual 368, 3) := by decide +kernel
theorem dL_law_3021 : decode cL_law 3021 = .ok (.istore 7, 2) := by decide +kernel
theorem dL_law_3023 : decode cL_law 3023 = .ok (.aload_n 2, 1) := by decide +kernel
theorem dL_law_3024 : decode cL_law 3024 = .ok (.invokevirtual 181, 3) := by decide +kernel
theorem dL_law_3027 : decode cL_law 3027 = .ok (.iload 6, 2) := by decide +kernel
theorem dL_law_3029 : decode cL_law 3029 = .ok (.if_icmp .eq 5, 3) := by decide +kernel
theorem dL_law_3032 : decode cL_law 3032 = .ok (.iconst 0, 1) := by decide +kernel
theorem dL_law_3033 : decode cL_law 3033 = .ok (.ireturn, 1) := by decide +kernel
theorem dL_law_3034 : decode cL_law 3034 = .ok (.iload 6, 2) := by decide +kernel
theorem dL_law_3036 : decode cL_law 3036 = .ok (.ifCond .ne 15, 3) := by decide +kernel
theorem dL_law_3039 : decode cL_law 3039 = .ok (.aload_n 3, 1) := by decide +kernel
theorem dL_law_3040 : decode cL_law 3040 = .ok (.iconst 0, 1) := by decide +kernel
theorem dL_law_3041 : decode cL_law 3041 = .ok (.laload, 1) := by decide +kernel
theorem dL_law_3042 : decode cL_law 3042 = .ok (.iload 7, 2) := by decide +kernel
theorem dL_law_3044 : decode cL_law 3044 = .ok (.i2l, 1) := by decide +kernel
theorem dL_law_3045 : decode cL_law 3045 = .ok (.lcmp, 1) := by decide +kernel
theorem dL_law_3046 : decode cL_law 3046 = .ok (.ifCond .eq 5, 3) := by decide +kernel
theorem dL_law_3049 : decode cL_law 3049 = .ok (.iconst 0, 1) := by decide +kernel
theorem dL_law_3050 : decode cL_law 3050 = .ok (.ireturn, 1) := by decide +kernel
theorem dL_law_3051 : decode cL_law 3051 = .ok (.goto 343, 3) := by decide +kernel
theorem dL_law_3054 : decode cL_law 3054 = .ok (.aload_n 1, 1) := by decide +kernel
theorem dL_law_3055 : decode cL_law 3055 = .ok (.aload_n 0, 1) := by decide +kernel
theorem dL_law_3056 : decode cL_law 3056 = .ok (.iload 5, 2) := by decide +kernel
theorem dL_law_3058 : decode cL_law 3058 = .ok (.iconst 1, 1) := by decide +kernel
theorem dL_law_3059 : decode cL_law 3059 = .ok (.iadd, 1) := by decide +kernel
theorem dL_law_3060 : decode cL_law 3060 = .ok (.iaload, 1) := by decide +kernel
theorem dL_law_3061 : decode cL_law 3061 = .ok (.aload_n 3, 1) := by decide +kernel
theorem dL_law_3062 : decode cL_law 3062 = .ok (.invokestatic 369, 3) := by decide +kernel
theorem dL_law_3065 : decode cL_law 3065 = .ok (.istore 6, 2) := by decide +kernel
theorem dL_law_3067 : decode cL_law 3067 = .ok (.aload_n 2, 1) := by decide +kernel
theorem dL_law_3068 : decode cL_law 3068 = .ok (.aload_n 0, 1) := by decide +kernel
theorem dL_law_3069 : decode cL_law 3069 = .ok (.iload 5, 2) := by decide +kernel
theorem dL_law_3071 : decode cL_law 3071 = .ok (.iconst 1, 1) := by decide +kernel
theorem dL_law_3072 : decode cL_law 3072 = .ok (.iadd, 1) := by decide +kernel
theorem dL_law_3073 : decode cL_law 3073 = .ok (.iaload, 1) := by decide +kernel
theorem dL_law_3074 : decode cL_law 3074 = .ok (.invokevirtual 371, 3) := by decide +kernel
theorem dL_law_3077 : decode cL_law 3077 = .ok (.istore 7, 2) := by decide +kernel
theorem dL_law_3079 : decode cL_law 3079 = .ok (.aload_n 2, 1) := by decide +kernel
theorem dL_law_3080 : decode cL_law 3080 = .ok (.invokevirtual 181, 3) := by decide +kernel
theorem dL_law_3083 : decode cL_law 3083 = .ok (.iload 6, 2) := by decide +kernel
theorem dL_law_3085 : decode cL_law 3085 = .ok (.if_icmp .eq 5, 3) := by decide +kernel
theorem dL_law_3088 : decode cL_law 3088 = .ok (.iconst 0, 1) := by decide +kernel
theorem dL_law_3089 : decode cL_law 3089 = .ok (.ireturn, 1) := by decide +kernel
theorem dL_law_3090 : decode cL_law 3090 = .ok (.iload 6, 2) := by decide +kernel
theorem dL_law_3092 : decode cL_law 3092 = .ok (.ifCond .ne 15, 3) := by decide +kernel
theorem dL_law_3095 : decode cL_law 3095 = .ok (.aload_n 3, 1) := by decide +kernel
theorem dL_law_3096 : decode cL_law 3096 = .ok (.iconst 0, 1) := by decide +kernel
theorem dL_law_3097 : decode cL_law 3097 = .ok (.laload, 1) := by decide +kernel
theorem dL_law_3098 : decode cL_law 3098 = .ok (.iload 7, 2) := by decide +kernel
theorem dL_law_3100 : decode cL_law 3100 = .ok (.i2l, 1) := by decide +kernel
theorem dL_law_3101 : decode cL_law 3101 = .ok (.lcmp, 1) := by decide +kernel
theorem dL_law_3102 : decode cL_law 3102 = .ok (.ifCond .eq 5, 3) := by decide +kernel
theorem dL_law_3105 : decode cL_law 3105 = .ok (.iconst 0, 1) := by decide +kernel
theorem dL_law_3106 : decode cL_law 3106 = .ok (.ireturn, 1) := by decide +kernel
theorem dL_law_3107 : decode cL_law 3107 = .ok (.goto 287, 3) := by decide +kernel
theorem dL_law_3110 : decode cL_law 3110 = .ok (.aload_n 1, 1) := by decide +kernel
theorem dL_law_3111 : decode cL_law 3111 = .ok (.aload_n 3, 1) := by decide +kernel
theorem dL_law_3112 : decode cL_law 3112 = .ok (.invokestatic 372, 3) := by decide +kernel
theorem dL_law_3115 : decode cL_law 3115 = .ok (.istore 6, 2) := by decide +kernel
theorem dL_law_3117 : decode cL_law 3117 = .ok (.aload_n 2, 1) := by decide +kernel
theorem dL_law_3118 : decode cL_law 3118 = .ok (.invokevirtual 374, 3) := by decide +kernel
theorem dL_law_3121 : decode cL_law 3121 = .ok (.istore 7, 2) := by decide +kernel
theorem dL_law_3123 : decode cL_law 3123 = .ok (.aload_n 2, 1) := by decide +kernel
theorem dL_law_3124 : decode cL_law 3124 = .ok (.invokevirtual 181, 3) := by decide +kernel
theorem dL_law_3127 : decode cL_law 3127 = .ok (.iload 6, 2) := by decide +kernel
theorem dL_law_3129 : decode cL_law 3129 = .ok (.if_icmp .eq 5, 3) := by decide +kernel
theorem dL_law_3132 : decode cL_law 3132 = .ok (.iconst 0, 1) := by decide +kernel
theorem dL_law_3133 : decode cL_law 3133 = .ok (.ireturn, 1) := by decide +kernel
theorem dL_law_3134 : decode cL_law 3134 = .ok (.iload 6, 2) := by decide +kernel
theorem dL_law_3136 : decode cL_law 3136 = .ok (.ifCond .ne 15, 3) := by decide +kernel
theorem dL_law_3139 : decode cL_law 3139 = .ok (.aload_n 3, 1) := by decide +kernel
theorem dL_law_3140 : decode cL_law 3140 = .ok (.iconst 0, 1) := by decide +kernel
theorem dL_law_3141 : decode cL_law 3141 = .ok (.laload, 1) := by decide +kernel
theorem dL_law_3142 : decode cL_law 3142 = .ok (.iload 7, 2) := by decide +kernel
theorem dL_law_3144 : decode cL_law 3144 = .ok (.i2l, 1) := by decide +kernel
theorem dL_law_3145 : decode cL_law 3145 = .ok (.lcmp, 1) := by decide +kernel
theorem dL_law_3146 : decode cL_law 3146 = .ok (.ifCond .eq 5, 3) := by decide +kernel
theorem dL_law_3149 : decode cL_law 3149 = .ok (.iconst 0, 1) := by decide +kernel
theorem dL_law_3150 : decode cL_law 3150 = .ok (.ireturn, 1) := by decide +kernel
theorem dL_law_3151 : decode cL_law 3151 = .ok (.goto 243, 3) := by decide +kernel
theorem dL_law_3154 : decode cL_law 3154 = .ok (.aload_n 1, 1) := by decide +kernel
theorem dL_law_3155 : decode cL_law 3155 = .ok (.aload_n 0, 1) := by decide +kernel
theorem dL_law_3156 : decode cL_law 3156 = .ok (.iload 5, 2) := by decide +kernel
theorem dL_law_3158 : decode cL_law 3158 = .ok (.iconst 1, 1) := by decide +kernel
theorem dL_law_3159 : decode cL_law 3159 = .ok (.iadd, 1) := by decide +kernel
theorem dL_law_3160 : decode cL_law 3160 = .ok (.iaload, 1) := by decide +kernel
theorem dL_law_3161 : decode cL_law 3161 = .ok (.ifCond .eq 7, 3) := by decide +kernel
theorem dL_law_3164 : decode cL_law 3164 = .ok (.iconst 1, 1) := by decide +kernel
theorem dL_law_3165 : decode cL_law 3165 = .ok (.goto 4, 3) := by decide +kernel
theorem dL_law_3168 : decode cL_law 3168 = .ok (.iconst 0, 1) := by decide +kernel
theorem dL_law_3169 : decode cL_law 3169 = .ok (.aload_n 3, 1) := by decide +kernel
theorem dL_law_3170 : decode cL_law 3170 = .ok (.invokestatic 375, 3) := by decide +kernel
theorem dL_law_3173 : decode cL_law 3173 = .ok (.istore 6, 2) := by decide +kernel
theorem dL_law_3175 : decode cL_law 3175 = .ok (.aload_n 2, 1) := by decide +kernel
theorem dL_law_3176 : decode cL_law 3176 = .ok (.aload_n 0, 1) := by decide +kernel
theorem dL_law_3177 : decode cL_law 3177 = .ok (.iload 5, 2) := by decide +kernel
theorem dL_law_3179 : decode cL_law 3179 = .ok (.iconst 1, 1) := by decide +kernel
theorem dL_law_3180 : decode cL_law 3180 = .ok (.iadd, 1) := by decide +kernel
theorem dL_law_3181 : decode cL_law 3181 = .ok (.iaload, 1) := by decide +kernel
theorem dL_law_3182 : decode cL_law 3182 = .ok (.ifCond .eq 7, 3) := by decide +kernel
theorem dL_law_3185 : decode cL_law 3185 = .ok (.iconst 1, 1) := by decide +kernel
theorem dL_law_3186 : decode cL_law 3186 = .ok (.goto 4, 3) := by decide +kernel
theorem dL_law_3189 : decode cL_law 3189 = .ok (.iconst 0, 1) := by decide +kernel
theorem dL_law_3190 : decode cL_law 3190 = .ok (.invokevirtual 378, 3) := by decide +kernel
theorem dL_law_3193 : decode cL_law 3193 = .ok (.istore 7, 2) := by decide +kernel
theorem dL_law_3195 : decode cL_law 3195 = .ok (.aload_n 2, 1) := by decide +kernel
theorem dL_law_3196 : decode cL_law 3196 = .ok (.invokevirtual 181, 3) := by decide +kernel
theorem dL_law_3199 : decode cL_law 3199 = .ok (.iload 6, 2) := by decide +kernel
theorem dL_law_3201 : decode cL_law 3201 = .ok (.if_icmp .eq 5, 3) := by decide +kernel
theorem dL_law_3204 : decode cL_law 3204 = .ok (.iconst 0, 1) := by decide +kernel
theorem dL_law_3205 : decode cL_law 3205 = .ok (.ireturn, 1) := by decide +kernel
theorem dL_law_3206 : decode cL_law 3206 = .ok (.iload 6, 2) := by decide +kernel
theorem dL_law_3208 : decode cL_law 3208 = .ok (.ifCond .ne 15, 3) := by decide +kernel
theorem dL_law_3211 : decode cL_law 3211 = .ok (.aload_n 3, 1) := by decide +kernel
theorem dL_law_3212 : decode cL_law 3212 = .ok (.iconst 0, 1) := by decide +kernel
theorem dL_law_3213 : decode cL_law 3213 = .ok (.laload, 1) := by decide +kernel
theorem dL_law_3214 : decode cL_law 3214 = .ok (.iload 7, 2) := by decide +kernel
theorem dL_law_3216 : decode cL_law 3216 = .ok (.i2l, 1) := by decide +kernel
theorem dL_law_3217 : decode cL_law 3217 = .ok (.lcmp, 1) := by decide +kernel
theorem dL_law_3218 : decode cL_law 3218 = .ok (.ifCond .eq 5, 3) := by decide +kernel
theorem dL_law_3221 : decode cL_law 3221 = .ok (.iconst 0, 1) := by decide +kernel
theorem dL_law_3222 : decode cL_law 3222 = .ok (.ireturn, 1) := by decide +kernel
theorem dL_law_3223 : decode cL_law 3223 = .ok (.goto 171, 3) := by decide +kernel
theorem dL_law_3226 : decode cL_law 3226 = .ok (.aload_n 1, 1) := by decide +kernel
theorem dL_law_3227 : decode cL_law 3227 = .ok (.aload_n 0, 1) := by decide +kernel
theorem dL_law_3228 : decode cL_law 3228 = .ok (.iload 5, 2) := by decide +kernel
theorem dL_law_3230 : decode cL_law 3230 = .ok (.iconst 1, 1) := by decide +kernel
theorem dL_law_3231 : decode cL_law 3231 = .ok (.iadd, 1) := by decide +kernel
theorem dL_law_3232 : decode cL_law 3232 = .ok (.iaload, 1) := by decide +kernel
theorem dL_law_3233 : decode cL_law 3233 = .ok (.aload 4, 2) := by decide +kernel
theorem dL_law_3235 : decode cL_law 3235 = .ok (.invokestatic 379, 3) := by decide +kernel
theorem dL_law_3238 : decode cL_law 3238 = .ok (.istore 6, 2) := by decide +kernel
theorem dL_law_3240 : decode cL_law 3240 = .ok (.aload_n 2, 1) := by decide +kernel
theorem dL_law_3241 : decode cL_law 3241 = .ok (.aload_n 0, 1) := by decide +kernel
theorem dL_law_3242 : decode cL_law 3242 = .ok (.iload 5, 2) := by decide +kernel
theorem dL_law_3244 : decode cL_law 3244 = .ok (.iconst 1, 1) := by decide +kernel
theorem dL_law_3245 : decode cL_law 3245 = .ok (.iadd, 1) := by decide +kernel
theorem dL_law_3246 : decode cL_law 3246 = .ok (.iaload, 1) := by decide +kernel
theorem dL_law_3247 : decode cL_law 3247 = .ok (.invokevirtual 382, 3) := by decide +kernel
theorem dL_law_3250 : decode cL_law 3250 = .ok (.dstore 7, 2) := by decide +kernel
theorem dL_law_3252 : decode cL_law 3252 = .ok (.aload_n 2, 1) := by decide +kernel
theorem dL_law_3253 : decode cL_law 3253 = .ok (.invokevirtual 181, 3) := by decide +kernel
theorem dL_law_3256 : decode cL_law 3256 = .ok (.iload 6, 2) := by decide +kernel
theorem dL_law_3258 : decode cL_law 3258 = .ok (.if_icmp .eq 5, 3) := by decide +kernel
theorem dL_law_3261 : decode cL_law 3261 = .ok (.iconst 0, 1) := by decide +kernel
theorem dL_law_3262 : decode cL_law 3262 = .ok (.ireturn, 1) := by decide +kernel
theorem dL_law_3263 : decode cL_law 3263 = .ok (.iload 6, 2) := by decide +kernel
theorem dL_law_3265 : decode cL_law 3265 = .ok (.ifCond .ne 35, 3) := by decide +kernel
theorem dL_law_3268 : decode cL_law 3268 = .ok (.aload 4, 2) := by decide +kernel
theorem dL_law_3270 : decode cL_law 3270 = .ok (.iconst 0, 1) := by decide +kernel
theorem dL_law_3271 : decode cL_law 3271 = .ok (.daload, 1) := by decide +kernel
theorem dL_law_3272 : decode cL_law 3272 = .ok (.dload 7, 2) := by decide +kernel
theorem dL_law_3274 : decode cL_law 3274 = .ok (.dcmp .l, 1) := by decide +kernel
theorem dL_law_3275 : decode cL_law 3275 = .ok (.ifCond .eq 25, 3) := by decide +kernel
theorem dL_law_3278 : decode cL_law 3278 = .ok (.aload 4, 2) := by decide +kernel
theorem dL_law_3280 : decode cL_law 3280 = .ok (.iconst 0, 1) := by decide +kernel
theorem dL_law_3281 : decode cL_law 3281 = .ok (.daload, 1) := by decide +kernel
theorem dL_law_3282 : decode cL_law 3282 = .ok (.aload 4, 2) := by decide +kernel
theorem dL_law_3284 : decode cL_law 3284 = .ok (.iconst 0, 1) := by decide +kernel
theorem dL_law_3285 : decode cL_law 3285 = .ok (.daload, 1) := by decide +kernel
theorem dL_law_3286 : decode cL_law 3286 = .ok (.dcmp .l, 1) := by decide +kernel
theorem dL_law_3287 : decode cL_law 3287 = .ok (.ifCond .eq 11, 3) := by decide +kernel
theorem dL_law_3290 : decode cL_law 3290 = .ok (.dload 7, 2) := by decide +kernel
theorem dL_law_3292 : decode cL_law 3292 = .ok (.dload 7, 2) := by decide +kernel
theorem dL_law_3294 : decode cL_law 3294 = .ok (.dcmp .l, 1) := by decide +kernel
theorem dL_law_3295 : decode cL_law 3295 = .ok (.ifCond .ne 5, 3) := by decide +kernel
theorem dL_law_3298 : decode cL_law 3298 = .ok (.iconst 0, 1) := by decide +kernel
theorem dL_law_3299 : decode cL_law 3299 = .ok (.ireturn, 1) := by decide +kernel
theorem dL_law_3300 : decode cL_law 3300 = .ok (.goto 94, 3) := by decide +kernel
theorem dL_law_3303 : decode cL_law 3303 = .ok (.aload_n 1, 1) := by decide +kernel
theorem dL_law_3304 : decode cL_law 3304 = .ok (.aload_n 0, 1) := by decide +kernel
theorem dL_law_3305 : decode cL_law 3305 = .ok (.iload 5, 2) := by decide +kernel
theorem dL_law_3307 : decode cL_law 3307 = .ok (.iconst 1, 1) := by decide +kernel
theorem dL_law_3308 : decode cL_law 3308 = .ok (.iadd, 1) := by decide +kernel
theorem dL_law_3309 : decode cL_law 3309 = .ok (.iaload, 1) := by decide +kernel
theorem dL_law_3310 : decode cL_law 3310 = .ok (.aload 4, 2) := by decide +kernel
theorem dL_law_3312 : decode cL_law 3312 = .ok (.invokestatic 383, 3) := by decide +kernel
theorem dL_law_3315 : decode cL_law 3315 = .ok (.istore 6, 2) := by decide +kernel
theorem dL_law_3317 : decode cL_law 3317 = .ok (.aload_n 2, 1) := by decide +kernel
theorem dL_law_3318 : decode cL_law 3318 = .ok (.aload_n 0, 1) := by decide +kernel
theorem dL_law_3319 : decode cL_law 3319 = .ok (.iload 5, 2) := by decide +kernel
theorem dL_law_3321 : decode cL_law 3321 = .ok (.iconst 1, 1) := by decide +kernel
theorem dL_law_3322 : decode cL_law 3322 = .ok (.iadd, 1) := by decide +kernel
theorem dL_law_3323 : decode cL_law 3323 = .ok (.iaload, 1) := by decide +kernel
theorem dL_law_3324 : decode cL_law 3324 = .ok (.invokevirtual 385, 3) := by decide +kernel
theorem dL_law_3327 : decode cL_law 3327 = .ok (.fstore 7, 2) := by decide +kernel
theorem dL_law_3329 : decode cL_law 3329 = .ok (.aload_n 2, 1) := by decide +kernel
theorem dL_law_3330 : decode cL_law 3330 = .ok (.invokevirtual 181, 3) := by decide +kernel
theorem dL_law_3333 : decode cL_law 3333 = .ok (.iload 6, 2) := by decide +kernel
theorem dL_law_3335 : decode cL_law 3335 = .ok (.if_icmp .eq 5, 3) := by decide +kernel
theorem dL_law_3338 : decode cL_law 3338 = .ok (.iconst 0, 1) := by decide +kernel
theorem dL_law_3339 : decode cL_law 3339 = .ok (.ireturn, 1) := by decide +kernel
theorem dL_law_3340 : decode cL_law 3340 = .ok (.iload 6, 2) := by decide +kernel
theorem dL_law_3342 : decode cL_law 3342 = .ok (.ifCond .ne 36, 3) := by decide +kernel
theorem dL_law_3345 : decode cL_law 3345 = .ok (.aload 4, 2) := by decide +kernel
theorem dL_law_3347 : decode cL_law 3347 = .ok (.iconst 0, 1) := by decide +kernel
theorem dL_law_3348 : decode cL_law 3348 = .ok (.daload, 1) := by decide +kernel
theorem dL_law_3349 : decode cL_law 3349 = .ok (.fload 7, 2) := by decide +kernel
theorem dL_law_3351 : decode cL_law 3351 = .ok (.f2d, 1) := by decide +kernel
theorem dL_law_3352 : decode cL_law 3352 = .ok (.dcmp .l, 1) := by decide +kernel
theorem dL_law_3353 : decode cL_law 3353 = .ok (.ifCond .eq 25, 3) := by decide +kernel
theorem dL_law_3356 : decode cL_law 3356 = .ok (.aload 4, 2) := by decide +kernel
theorem dL_law_3358 : decode cL_law 3358 = .ok (.iconst 0, 1) := by decide +kernel
theorem dL_law_3359 : decode cL_law 3359 = .ok (.daload, 1) := by decide +kernel
theorem dL_law_3360 : decode cL_law 3360 = .ok (.aload 4, 2) := by decide +kernel
theorem dL_law_3362 : decode cL_law 3362 = .ok (.iconst 0, 1) := by decide +kernel
theorem dL_law_3363 : decode cL_law 3363 = .ok (.daload, 1) := by decide +kernel
theorem dL_law_3364 : decode cL_law 3364 = .ok (.dcmp .l, 1) := by decide +kernel
theorem dL_law_3365 : decode cL_law 3365 = .ok (.ifCond .eq 11, 3) := by decide +kernel
theorem dL_law_3368 : decode cL_law 3368 = .ok (.fload 7, 2) := by decide +kernel
theorem dL_law_3370 : decode cL_law 3370 = .ok (.fload 7, 2) := by decide +kernel
theorem dL_law_3372 : decode cL_law 3372 = .ok (.fcmp .l, 1) := by decide +kernel
theorem dL_law_3373 : decode cL_law 3373 = .ok (.ifCond .ne 5, 3) := by decide +kernel
theorem dL_law_3376 : decode cL_law 3376 = .ok (.iconst 0, 1) := by decide +kernel
theorem dL_law_3377 : decode cL_law 3377 = .ok (.ireturn, 1) := by decide +kernel
theorem dL_law_3378 : decode cL_law 3378 = .ok (.goto 16, 3) := by decide +kernel
theorem dL_law_3381 : decode cL_law 3381 = .ok (.aload_n 1, 1) := by decide +kernel
theorem dL_law_3382 : decode cL_law 3382 = .ok (.invokevirtual 386, 3) := by decide +kernel
theorem dL_law_3385 : decode cL_law 3385 = .ok (.aload_n 2, 1) := by decide +kernel
theorem dL_law_3386 : decode cL_law 3386 = .ok (.invokevirtual 389, 3) := by decide +kernel
theorem dL_law_3389 : decode cL_law 3389 = .ok (.if_icmp .eq 5, 3) := by decide +kernel
theorem dL_law_3392 : decode cL_law 3392 = .ok (.iconst 0, 1) := by decide +kernel
theorem dL_law_3393 : decode cL_law 3393 = .ok (.ireturn, 1) := by decide +kernel
theorem dL_law_3394 : decode cL_law 3394 = .ok (.iinc 5 5, 3) := by decide +kernel
theorem dL_law_3397 : decode cL_law 3397 = .ok (.goto (-3369), 3) := by decide +kernel
theorem dL_law_3400 : decode cL_law 3400 = .ok (.iconst 1, 1) := by decide +kernel
theorem dL_law_3401 : decode cL_law 3401 = .ok (.ireturn, 1) := by decide +kernel
abbrev r_L_law (rC rS : Nat) : Room := { frames := 2048, cells := rC, slots := rS, locals := 84000 }
def wp_L_law_3394 (D : wD) (post : Int32 → wS → Prop) (k_28 : Nat → Nat → wS → Nat → Nat → Nat → Nat → Nat → Int32 → Prop) (bc bs : Nat) (S : wS) (a0 : Nat) (a1 : Nat) (a2 : Nat) (a3 : Nat) (a4 : Nat) (x5 : Int32) : Prop :=
∀ x_1 : Int32, x_1 = x5 + 5 →
k_28 bc bs S a0 a1 a2 a3 a4 x_1
def wp_L_law_3378 (D : wD) (post : Int32 → wS → Prop) (k_28 : Nat → Nat → wS → Nat → Nat → Nat → Nat → Nat → Int32 → Prop) (bc bs : Nat) (S : wS) (a0 : Nat) (a1 : Nat) (a2 : Nat) (a3 : Nat) (a4 : Nat) (x5 : Int32) : Prop :=
wp_L_law_3394 D post k_28 bc bs S a0 a1 a2 a3 a4 x5
def wp_L_law_3376 (D : wD) (post : Int32 → wS → Prop)  (bc bs : Nat) (S : wS) : Prop :=
post (0 : Int32) S
def wp_L_law_3300 (D : wD) (post : Int32 → wS → Prop) (k_28 : Nat → Nat → wS → Nat → Nat → Nat → Nat → Nat → Int32 → Prop) (bc bs : Nat) (S : wS) (a0 : Nat) (a1 : Nat) (a2 : Nat) (a3 : Nat) (a4 : Nat) (x5 : Int32) : Prop :=
wp_L_law_3394 D post k_28 bc bs S a0 a1 a2 a3 a4 x5
def wp_L_law_3298 (D : wD) (post : Int32 → wS → Prop)  (bc bs : Nat) (S : wS) : Prop :=
post (0 : Int32) S
def wp_L_law_3223 (D : wD) (post : Int32 → wS → Prop) (k_28 : Nat → Nat → wS → Nat → Nat → Nat → Nat → Nat → Int32 → Prop) (bc bs : Nat) (S : wS) (a0 : Nat) (a1 : Nat) (a2 : Nat) (a3 : Nat) (a4 : Nat) (x5 : Int32) : Prop :=
wp_L_law_3394 D post k_28 bc bs S a0 a1 a2 a3 a4 x5
def wp_L_law_3190 (D : wD) (post : Int32 → wS → Prop) (k_28 : Nat → Nat → wS → Nat → Nat → Nat → Nat → Nat → Int32 → Prop) (bc bs : Nat) (S : wS) (a0 : Nat) (a1 : Nat) (a2 : Nat) (a3 : Nat) (a4 : Nat) (x5 : Int32) (x6 : Int32) (b0 : Nat) (t1 : Int32) : Prop :=
wp_X12_answer D (fun r_1 S_2 => 
wp_X12_thrown D (fun r_3 S_4 => 
((r_3 = x6 → ((¬ x6 = 0 → wp_L_law_3223 D post k_28 bc bs S_4 a0 a1 a2 a3 a4 x5) ∧
 (x6 = 0 → vp_in (0 : Int32) (sN S_4 a3) ∧
(((lg_cmp (sJ S_4 a3 ((0 : Int32)).toNatClampNeg) (Int32.toInt64 r_1)) = 0 → wp_L_law_3223 D post k_28 bc bs S_4 a0 a1 a2 a3 a4 x5) ∧
 (¬ (lg_cmp (sJ S_4 a3 ((0 : Int32)).toNatClampNeg) (Int32.toInt64 r_1)) = 0 → post (0 : Int32) S_4))))) ∧
 (¬ r_3 = x6 → post (0 : Int32) S_4))) S_2 a2) S b0 t1
def wp_L_law_3169 (D : wD) (post : Int32 → wS → Prop) (k_28 : Nat → Nat → wS → Nat → Nat → Nat → Nat → Nat → Int32 → Prop) (bc bs : Nat) (S : wS) (a0 : Nat) (a1 : Nat) (a2 : Nat) (a3 : Nat) (a4 : Nat) (x5 : Int32) (b0 : Nat) (t1 : Int32) : Prop :=
1 ≤ bc ∧ 6 ≤ bs ∧
wp_L_answer D (fun r_1 S_2 => 
vp_in (x5 + (1 : Int32)) (sN S_2 a0) ∧
(((sI S_2 a0 ((x5 + (1 : Int32))).toNatClampNeg) = 0 → wp_L_law_3190 D post k_28 (bc - 1) (bs - 6) S_2 a0 a1 a2 a3 a4 x5 r_1 a2 (0 : Int32)) ∧
 (¬ (sI S_2 a0 ((x5 + (1 : Int32))).toNatClampNeg) = 0 → wp_L_law_3190 D post k_28 (bc - 1) (bs - 6) S_2 a0 a1 a2 a3 a4 x5 r_1 a2 (1 : Int32)))) S b0 t1 a3
def wp_L_law_3151 (D : wD) (post : Int32 → wS → Prop) (k_28 : Nat → Nat → wS → Nat → Nat → Nat → Nat → Nat → Int32 → Prop) (bc bs : Nat) (S : wS) (a0 : Nat) (a1 : Nat) (a2 : Nat) (a3 : Nat) (a4 : Nat) (x5 : Int32) : Prop :=
wp_L_law_3394 D post k_28 bc bs S a0 a1 a2 a3 a4 x5
def wp_L_law_3107 (D : wD) (post : Int32 → wS → Prop) (k_28 : Nat → Nat → wS → Nat → Nat → Nat → Nat → Nat → Int32 → Prop) (bc bs : Nat) (S : wS) (a0 : Nat) (a1 : Nat) (a2 : Nat) (a3 : Nat) (a4 : Nat) (x5 : Int32) : Prop :=
wp_L_law_3394 D post k_28 bc bs S a0 a1 a2 a3 a4 x5
def wp_L_law_3051 (D : wD) (post : Int32 → wS → Prop) (k_28 : Nat → Nat → wS → Nat → Nat → Nat → Nat → Nat → Int32 → Prop) (bc bs : Nat) (S : wS) (a0 : Nat) (a1 : Nat) (a2 : Nat) (a3 : Nat) (a4 : Nat) (x5 : Int32) : Prop :=
wp_L_law_3394 D post k_28 bc bs S a0 a1 a2 a3 a4 x5
def wp_L_law_3007 (D : wD) (post : Int32 → wS → Prop) (k_28 : Nat → Nat → wS → Nat → Nat → Nat → Nat → Nat → Int32 → Prop) (bc bs : Nat) (S : wS) (a0 : Nat) (a1 : Nat) (a2 : Nat) (a3 : Nat) (a4 : Nat) (x5 : Int32) : Prop :=
wp_L_law_3394 D post k_28 bc bs S a0 a1 a2 a3 a4 x5
def wp_L_law_2951 (D : wD) (post : Int32 → wS → Prop) (k_28 : Nat → Nat → wS → Nat → Nat → Nat → Nat → Nat → Int32 → Prop) (bc bs : Nat) (S : wS) (a0 : Nat) (a1 : Nat) (a2 : Nat) (a3 : Nat) (a4 : Nat) (x5 : Int32) : Prop :=
wp_L_law_3394 D post k_28 bc bs S a0 a1 a2 a3 a4 x5
def wp_L_law_2907 (D : wD) (post : Int32 → wS → Prop) (k_28 : Nat → Nat → wS → Nat → Nat → Nat → Nat → Nat → Int32 → Prop) (bc bs : Nat) (S : wS) (a0 : Nat) (a1 : Nat) (a2 : Nat) (a3 : Nat) (a4 : Nat) (x5 : Int32) : Prop :=
wp_L_law_3394 D post k_28 bc bs S a0 a1 a2 a3 a4 x5
def wp_L_law_2863 (D : wD) (post : Int32 → wS → Prop) (k_28 : Nat → Nat → wS → Nat → Nat → Nat → Nat → Nat → Int32 → Prop) (bc bs : Nat) (S : wS) (a0 : Nat) (a1 : Nat) (a2 : Nat) (a3 : Nat) (a4 : Nat) (x5 : Int32) : Prop :=
wp_L_law_3394 D post k_28 bc bs S a0 a1 a2 a3 a4 x5
def wp_L_law_2819 (D : wD) (post : Int32 → wS → Prop) (k_28 : Nat → Nat → wS → Nat → Nat → Nat → Nat → Nat → Int32 → Prop) (bc bs : Nat) (S : wS) (a0 : Nat) (a1 : Nat) (a2 : Nat) (a3 : Nat) (a4 : Nat) (x5 : Int32) : Prop :=
wp_L_law_3394 D post k_28 bc bs S a0 a1 a2 a3 a4 x5
def wp_L_law_2750 (D : wD) (post : Int32 → wS → Prop) (k_28 : Nat → Nat → wS → Nat → Nat → Nat → Nat → Nat → Int32 → Prop) (bc bs : Nat) (S : wS) (a0 : Nat) (a1 : Nat) (a2 : Nat) (a3 : Nat) (a4 : Nat) (x5 : Int32) : Prop :=
wp_L_law_3394 D post k_28 bc bs S a0 a1 a2 a3 a4 x5
def wp_L_law_2669 (D : wD) (post : Int32 → wS → Prop) (k_28 : Nat → Nat → wS → Nat → Nat → Nat → Nat → Nat → Int32 → Prop) (bc bs : Nat) (S : wS) (a0 : Nat) (a1 : Nat) (a2 : Nat) (a3 : Nat) (a4 : Nat) (x5 : Int32) : Prop :=
wp_L_law_3394 D post k_28 bc bs S a0 a1 a2 a3 a4 x5
def wp_L_law_2601 (D : wD) (post : Int32 → wS → Prop) (k_28 : Nat → Nat → wS → Nat → Nat → Nat → Nat → Nat → Int32 → Prop) (bc bs : Nat) (S : wS) (a0 : Nat) (a1 : Nat) (a2 : Nat) (a3 : Nat) (a4 : Nat) (x5 : Int32) : Prop :=
wp_L_law_3394 D post k_28 bc bs S a0 a1 a2 a3 a4 x5
def wp_L_law_2533 (D : wD) (post : Int32 → wS → Prop) (k_28 : Nat → Nat → wS → Nat → Nat → Nat → Nat → Nat → Int32 → Prop) (bc bs : Nat) (S : wS) (a0 : Nat) (a1 : Nat) (a2 : Nat) (a3 : Nat) (a4 : Nat) (x5 : Int32) : Prop :=
wp_L_law_3394 D post k_28 bc bs S a0 a1 a2 a3 a4 x5
def wp_L_law_2465 (D : wD) (post : Int32 → wS → Prop) (k_28 : Nat → Nat → wS → Nat → Nat → Nat → Nat → Nat → Int32 → Prop) (bc bs : Nat) (S : wS) (a0 : Nat) (a1 : Nat) (a2 : Nat) (a3 : Nat) (a4 : Nat) (x5 : Int32) : Prop :=
wp_L_law_3394 D post k_28 bc bs S a0 a1 a2 a3 a4 x5
def wp_L_law_2397 (D : wD) (post : Int32 → wS → Prop) (k_28 : Nat → Nat → wS → Nat → Nat → Nat → Nat → Nat → Int32 → Prop) (bc bs : Nat) (S : wS) (a0 : Nat) (a1 : Nat) (a2 : Nat) (a3 : Nat) (a4 : Nat) (x5 : Int32) : Prop :=
wp_L_law_3394 D post k_28 bc bs S a0 a1 a2 a3 a4 x5
def wp_L_law_2341 (D : wD) (post : Int32 → wS → Prop) (k_28 : Nat → Nat → wS → Nat → Nat → Nat → Nat → Nat → Int32 → Prop) (bc bs : Nat) (S : wS) (a0 : Nat) (a1 : Nat) (a2 : Nat) (a3 : Nat) (a4 : Nat) (x5 : Int32) : Prop :=
wp_L_law_3394 D post k_28 bc bs S a0 a1 a2 a3 a4 x5
def wp_L_law_2308 (D : wD) (post : Int32 → wS → Prop) (k_28 : Nat → Nat → wS → Nat → Nat → Nat → Nat → Nat → Int32 → Prop) (bc bs : Nat) (S : wS) (a0 : Nat) (a1 : Nat) (a2 : Nat) (a3 : Nat) (a4 : Nat) (x5 : Int32) (x6 : Int32) (b0 : Nat) (t1 : Int32) (t2 : Int32) : Prop :=
wp_X12_meanStrength D (fun r_1 S_2 => 
wp_X12_thrown D (fun r_3 S_4 => 
((r_3 = x6 → ((¬ x6 = 0 → wp_L_law_2341 D post k_28 bc bs S_4 a0 a1 a2 a3 a4 x5) ∧
 (x6 = 0 → vp_in (0 : Int32) (sN S_4 a3) ∧
(((lg_cmp (sJ S_4 a3 ((0 : Int32)).toNatClampNeg) (Int32.toInt64 r_1)) = 0 → wp_L_law_2341 D post k_28 bc bs S_4 a0 a1 a2 a3 a4 x5) ∧
 (¬ (lg_cmp (sJ S_4 a3 ((0 : Int32)).toNatClampNeg) (Int32.toInt64 r_1)) = 0 → post (0 : Int32) S_4))))) ∧
 (¬ r_3 = x6 → post (0 : Int32) S_4))) S_2 a2) S b0 t1 t2
def wp_L_law_2281 (D : wD) (post : Int32 → wS → Prop) (k_28 : Nat → Nat → wS → Nat → Nat → Nat → Nat → Nat → Int32 → Prop) (bc bs : Nat) (S : wS) (a0 : Nat) (a1 : Nat) (a2 : Nat) (a3 : Nat) (a4 : Nat) (x5 : Int32) (b0 : Nat) (t1 : Int32) (t2 : Int32) : Prop :=
2 ≤ bc ∧ 12 ≤ bs ∧
wp_L_meanStrength D (fun r_1 S_2 => 
vp_in (x5 + (1 : Int32)) (sN S_2 a0) ∧
vp_in (x5 + (2 : Int32)) (sN S_2 a0) ∧
(((sI S_2 a0 ((x5 + (2 : Int32))).toNatClampNeg) = 0 → wp_L_law_2308 D post k_28 (bc - 2) (bs - 12) S_2 a0 a1 a2 a3 a4 x5 r_1 a2 (sI S_2 a0 ((x5 + (1 : Int32))).toNatClampNeg) (0 : Int32)) ∧
 (¬ (sI S_2 a0 ((x5 + (2 : Int32))).toNatClampNeg) = 0 → wp_L_law_2308 D post k_28 (bc - 2) (bs - 12) S_2 a0 a1 a2 a3 a4 x5 r_1 a2 (sI S_2 a0 ((x5 + (1 : Int32))).toNatClampNeg) (1 : Int32)))) S b0 t1 t2 a3
def wp_L_law_2257 (D : wD) (post : Int32 → wS → Prop) (k_28 : Nat → Nat → wS → Nat → Nat → Nat → Nat → Nat → Int32 → Prop) (bc bs : Nat) (S : wS) (a0 : Nat) (a1 : Nat) (a2 : Nat) (a3 : Nat) (a4 : Nat) (x5 : Int32) : Prop :=
wp_L_law_3394 D post k_28 bc bs S a0 a1 a2 a3 a4 x5
def wp_L_law_2177 (D : wD) (post : Int32 → wS → Prop) (k_28 : Nat → Nat → wS → Nat → Nat → Nat → Nat → Nat → Int32 → Prop) (bc bs : Nat) (S : wS) (a0 : Nat) (a1 : Nat) (a2 : Nat) (a3 : Nat) (a4 : Nat) (x5 : Int32) : Prop :=
wp_L_law_3394 D post k_28 bc bs S a0 a1 a2 a3 a4 x5
def wp_L_law_2109 (D : wD) (post : Int32 → wS → Prop) (k_28 : Nat → Nat → wS → Nat → Nat → Nat → Nat → Nat → Int32 → Prop) (bc bs : Nat) (S : wS) (a0 : Nat) (a1 : Nat) (a2 : Nat) (a3 : Nat) (a4 : Nat) (x5 : Int32) : Prop :=
wp_L_law_3394 D post k_28 bc bs S a0 a1 a2 a3 a4 x5
def wp_L_law_2053 (D : wD) (post : Int32 → wS → Prop) (k_28 : Nat → Nat → wS → Nat → Nat → Nat → Nat → Nat → Int32 → Prop) (bc bs : Nat) (S : wS) (a0 : Nat) (a1 : Nat) (a2 : Nat) (a3 : Nat) (a4 : Nat) (x5 : Int32) : Prop :=
wp_L_law_3394 D post k_28 bc bs S a0 a1 a2 a3 a4 x5
def wp_L_law_1997 (D : wD) (post : Int32 → wS → Prop) (k_28 : Nat → Nat → wS → Nat → Nat → Nat → Nat → Nat → Int32 → Prop) (bc bs : Nat) (S : wS) (a0 : Nat) (a1 : Nat) (a2 : Nat) (a3 : Nat) (a4 : Nat) (x5 : Int32) : Prop :=
wp_L_law_3394 D post k_28 bc bs S a0 a1 a2 a3 a4 x5
def wp_L_law_1929 (D : wD) (post : Int32 → wS → Prop) (k_28 : Nat → Nat → wS → Nat → Nat → Nat → Nat → Nat → Int32 → Prop) (bc bs : Nat) (S : wS) (a0 : Nat) (a1 : Nat) (a2 : Nat) (a3 : Nat) (a4 : Nat) (x5 : Int32) : Prop :=
wp_L_law_3394 D post k_28 bc bs S a0 a1 a2 a3 a4 x5
def wp_L_law_1873 (D : wD) (post : Int32 → wS → Prop) (k_28 : Nat → Nat → wS → Nat → Nat → Nat → Nat → Nat → Int32 → Prop) (bc bs : Nat) (S : wS) (a0 : Nat) (a1 : Nat) (a2 : Nat) (a3 : Nat) (a4 : Nat) (x5 : Int32) : Prop :=
wp_L_law_3394 D post k_28 bc bs S a0 a1 a2 a3 a4 x5
def wp_L_law_1768 (D : wD) (post : Int32 → wS → Prop) (k_28 : Nat → Nat → wS → Nat → Nat → Nat → Nat → Nat → Int32 → Prop) (bc bs : Nat) (S : wS) (a0 : Nat) (a1 : Nat) (a2 : Nat) (a3 : Nat) (a4 : Nat) (x5 : Int32) : Prop :=
wp_L_law_3394 D post k_28 bc bs S a0 a1 a2 a3 a4 x5
def wp_L_law_1724 (D : wD) (post : Int32 → wS → Prop) (k_28 : Nat → Nat → wS → Nat → Nat → Nat → Nat → Nat → Int32 → Prop) (bc bs : Nat) (S : wS) (a0 : Nat) (a1 : Nat) (a2 : Nat) (a3 : Nat) (a4 : Nat) (x5 : Int32) : Prop :=
wp_L_law_3394 D post k_28 bc bs S a0 a1 a2 a3 a4 x5
def wp_L_law_1667 (D : wD) (post : Int32 → wS → Prop) (k_28 : Nat → Nat → wS → Nat → Nat → Nat → Nat → Nat → Int32 → Prop) (bc bs : Nat) (S : wS) (a0 : Nat) (a1 : Nat) (a2 : Nat) (a3 : Nat) (a4 : Nat) (x5 : Int32) : Prop :=
wp_L_law_3394 D post k_28 bc bs S a0 a1 a2 a3 a4 x5
def wp_L_law_1579 (D : wD) (post : Int32 → wS → Prop) (k_28 : Nat → Nat → wS → Nat → Nat → Nat → Nat → Nat → Int32 → Prop) (bc bs : Nat) (S : wS) (a0 : Nat) (a1 : Nat) (a2 : Nat) (a3 : Nat) (a4 : Nat) (x5 : Int32) : Prop :=
wp_L_law_3394 D post k_28 bc bs S a0 a1 a2 a3 a4 x5
def wp_L_law_1546 (D : wD) (post : Int32 → wS → Prop) (k_28 : Nat → Nat → wS → Nat → Nat → Nat → Nat → Nat → Int32 → Prop) (bc bs : Nat) (S : wS) (a0 : Nat) (a1 : Nat) (a2 : Nat) (a3 : Nat) (a4 : Nat) (x5 : Int32) (x6 : Int32) (b0 : Nat) (t1 : Int32) (t2 : Int32) : Prop :=
wp_X12_countMoves D (fun r_1 S_2 => 
wp_X12_thrown D (fun r_3 S_4 => 
((r_3 = x6 → ((¬ x6 = 0 → wp_L_law_1579 D post k_28 bc bs S_4 a0 a1 a2 a3 a4 x5) ∧
 (x6 = 0 → vp_in (0 : Int32) (sN S_4 a3) ∧
(((lg_cmp (sJ S_4 a3 ((0 : Int32)).toNatClampNeg) (Int32.toInt64 r_1)) = 0 → wp_L_law_1579 D post k_28 bc bs S_4 a0 a1 a2 a3 a4 x5) ∧
 (¬ (lg_cmp (sJ S_4 a3 ((0 : Int32)).toNatClampNeg) (Int32.toInt64 r_1)) = 0 → post (0 : Int32) S_4))))) ∧
 (¬ r_3 = x6 → post (0 : Int32) S_4))) S_2 a2) S b0 t1 t2
def wp_L_law_1519 (D : wD) (post : Int32 → wS → Prop) (k_28 : Nat → Nat → wS → Nat → Nat → Nat → Nat → Nat → Int32 → Prop) (bc bs : Nat) (S : wS) (a0 : Nat) (a1 : Nat) (a2 : Nat) (a3 : Nat) (a4 : Nat) (x5 : Int32) (b0 : Nat) (t1 : Int32) (t2 : Int32) : Prop :=
1 ≤ bc ∧ 6 ≤ bs ∧
wp_L_countMoves D (fun r_1 S_2 => 
vp_in (x5 + (1 : Int32)) (sN S_2 a0) ∧
vp_in (x5 + (2 : Int32)) (sN S_2 a0) ∧
(((sI S_2 a0 ((x5 + (2 : Int32))).toNatClampNeg) = 0 → wp_L_law_1546 D post k_28 (bc - 1) (bs - 6) S_2 a0 a1 a2 a3 a4 x5 r_1 a2 (sI S_2 a0 ((x5 + (1 : Int32))).toNatClampNeg) (0 : Int32)) ∧
 (¬ (sI S_2 a0 ((x5 + (2 : Int32))).toNatClampNeg) = 0 → wp_L_law_1546 D post k_28 (bc - 1) (bs - 6) S_2 a0 a1 a2 a3 a4 x5 r_1 a2 (sI S_2 a0 ((x5 + (1 : Int32))).toNatClampNeg) (1 : Int32)))) S b0 t1 t2 a3
def wp_L_law_1482 (D : wD) (post : Int32 → wS → Prop) (k_28 : Nat → Nat → wS → Nat → Nat → Nat → Nat → Nat → Int32 → Prop) (bc bs : Nat) (S : wS) (a0 : Nat) (a1 : Nat) (a2 : Nat) (a3 : Nat) (a4 : Nat) (x5 : Int32) : Prop :=
wp_L_law_3394 D post k_28 bc bs S a0 a1 a2 a3 a4 x5
def wp_L_law_1425 (D : wD) (post : Int32 → wS → Prop) (k_28 : Nat → Nat → wS → Nat → Nat → Nat → Nat → Nat → Int32 → Prop) (bc bs : Nat) (S : wS) (a0 : Nat) (a1 : Nat) (a2 : Nat) (a3 : Nat) (a4 : Nat) (x5 : Int32) : Prop :=
wp_L_law_3394 D post k_28 bc bs S a0 a1 a2 a3 a4 x5
def wp_L_law_1381 (D : wD) (post : Int32 → wS → Prop) (k_28 : Nat → Nat → wS → Nat → Nat → Nat → Nat → Nat → Int32 → Prop) (bc bs : Nat) (S : wS) (a0 : Nat) (a1 : Nat) (a2 : Nat) (a3 : Nat) (a4 : Nat) (x5 : Int32) : Prop :=
wp_L_law_3394 D post k_28 bc bs S a0 a1 a2 a3 a4 x5
def wp_L_law_1325 (D : wD) (post : Int32 → wS → Prop) (k_28 : Nat → Nat → wS → Nat → Nat → Nat → Nat → Nat → Int32 → Prop) (bc bs : Nat) (S : wS) (a0 : Nat) (a1 : Nat) (a2 : Nat) (a3 : Nat) (a4 : Nat) (x5 : Int32) : Prop :=
wp_L_law_3394 D post k_28 bc bs S a0 a1 a2 a3 a4 x5
def wp_L_law_1269 (D : wD) (post : Int32 → wS → Prop) (k_28 : Nat → Nat → wS → Nat → Nat → Nat → Nat → Nat → Int32 → Prop) (bc bs : Nat) (S : wS) (a0 : Nat) (a1 : Nat) (a2 : Nat) (a3 : Nat) (a4 : Nat) (x5 : Int32) : Prop :=
wp_L_law_3394 D post k_28 bc bs S a0 a1 a2 a3 a4 x5
def wp_L_law_1213 (D : wD) (post : Int32 → wS → Prop) (k_28 : Nat → Nat → wS → Nat → Nat → Nat → Nat → Nat → Int32 → Prop) (bc bs : Nat) (S : wS) (a0 : Nat) (a1 : Nat) (a2 : Nat) (a3 : Nat) (a4 : Nat) (x5 : Int32) : Prop :=
wp_L_law_3394 D post k_28 bc bs S a0 a1 a2 a3 a4 x5
def wp_L_law_1157 (D : wD) (post : Int32 → wS → Prop) (k_28 : Nat → Nat → wS → Nat → Nat → Nat → Nat → Nat → Int32 → Prop) (bc bs : Nat) (S : wS) (a0 : Nat) (a1 : Nat) (a2 : Nat) (a3 : Nat) (a4 : Nat) (x5 : Int32) : Prop :=
wp_L_law_3394 D post k_28 bc bs S a0 a1 a2 a3 a4 x5
def wp_L_law_1101 (D : wD) (post : Int32 → wS → Prop) (k_28 : Nat → Nat → wS → Nat → Nat → Nat → Nat → Nat → Int32 → Prop) (bc bs : Nat) (S : wS) (a0 : Nat) (a1 : Nat) (a2 : Nat) (a3 : Nat) (a4 : Nat) (x5 : Int32) : Prop :=
wp_L_law_3394 D post k_28 bc bs S a0 a1 a2 a3 a4 x5
def wp_L_law_1057 (D : wD) (post : Int32 → wS → Prop) (k_28 : Nat → Nat → wS → Nat → Nat → Nat → Nat → Nat → Int32 → Prop) (bc bs : Nat) (S : wS) (a0 : Nat) (a1 : Nat) (a2 : Nat) (a3 : Nat) (a4 : Nat) (x5 : Int32) : Prop :=
wp_L_law_3394 D post k_28 bc bs S a0 a1 a2 a3 a4 x5
def wp_L_law_1051 (D : wD) (post : Int32 → wS → Prop) (k_28 : Nat → Nat → wS → Nat → Nat → Nat → Nat → Nat → Int32 → Prop) (bc bs : Nat) (S : wS) (a0 : Nat) (a1 : Nat) (a2 : Nat) (a3 : Nat) (a4 : Nat) (x5 : Int32) (t0 : Int64) (t1 : Int64) : Prop :=
(((lg_cmp t0 t1) = 0 → wp_L_law_1057 D post k_28 bc bs S a0 a1 a2 a3 a4 x5) ∧
 (¬ (lg_cmp t0 t1) = 0 → post (0 : Int32) S))
def wp_L_law_989 (D : wD) (post : Int32 → wS → Prop) (k_28 : Nat → Nat → wS → Nat → Nat → Nat → Nat → Nat → Int32 → Prop) (bc bs : Nat) (S : wS) (a0 : Nat) (a1 : Nat) (a2 : Nat) (a3 : Nat) (a4 : Nat) (x5 : Int32) (t0 : Int32) (b1 : Nat) (t2 : Int32) : Prop :=
wp_X12_material D (fun r_1 S_2 => 
((t0 = r_1 → wp_L_law_3394 D post k_28 bc bs S_2 a0 a1 a2 a3 a4 x5) ∧
 (¬ t0 = r_1 → post (0 : Int32) S_2))) S b1 t2
def wp_L_law_971 (D : wD) (post : Int32 → wS → Prop) (k_28 : Nat → Nat → wS → Nat → Nat → Nat → Nat → Nat → Int32 → Prop) (bc bs : Nat) (S : wS) (a0 : Nat) (a1 : Nat) (a2 : Nat) (a3 : Nat) (a4 : Nat) (x5 : Int32) (b0 : Nat) (t1 : Int32) : Prop :=
wp_X11_material D (fun r_1 S_2 => 
vp_in (x5 + (1 : Int32)) (sN S_2 a0) ∧
(((sI S_2 a0 ((x5 + (1 : Int32))).toNatClampNeg) = 0 → wp_L_law_989 D post k_28 bc bs S_2 a0 a1 a2 a3 a4 x5 r_1 a2 (0 : Int32)) ∧
 (¬ (sI S_2 a0 ((x5 + (1 : Int32))).toNatClampNeg) = 0 → wp_L_law_989 D post k_28 bc bs S_2 a0 a1 a2 a3 a4 x5 r_1 a2 (1 : Int32)))) S b0 t1
def wp_L_law_953 (D : wD) (post : Int32 → wS → Prop) (k_28 : Nat → Nat → wS → Nat → Nat → Nat → Nat → Nat → Int32 → Prop) (bc bs : Nat) (S : wS) (a0 : Nat) (a1 : Nat) (a2 : Nat) (a3 : Nat) (a4 : Nat) (x5 : Int32) : Prop :=
wp_L_law_3394 D post k_28 bc bs S a0 a1 a2 a3 a4 x5
def wp_L_law_884 (D : wD) (post : Int32 → wS → Prop) (k_28 : Nat → Nat → wS → Nat → Nat → Nat → Nat → Nat → Int32 → Prop) (bc bs : Nat) (S : wS) (a0 : Nat) (a1 : Nat) (a2 : Nat) (a3 : Nat) (a4 : Nat) (x5 : Int32) : Prop :=
wp_L_law_3394 D post k_28 bc bs S a0 a1 a2 a3 a4 x5
def wp_L_law_878 (D : wD) (post : Int32 → wS → Prop) (k_28 : Nat → Nat → wS → Nat → Nat → Nat → Nat → Nat → Int32 → Prop) (bc bs : Nat) (S : wS) (a0 : Nat) (a1 : Nat) (a2 : Nat) (a3 : Nat) (a4 : Nat) (x5 : Int32) (t0 : Int64) (t1 : Int64) : Prop :=
(((lg_cmp t0 t1) = 0 → wp_L_law_884 D post k_28 bc bs S a0 a1 a2 a3 a4 x5) ∧
 (¬ (lg_cmp t0 t1) = 0 → post (0 : Int32) S))
def wp_L_law_821 (D : wD) (post : Int32 → wS → Prop) (k_28 : Nat → Nat → wS → Nat → Nat → Nat → Nat → Nat → Int32 → Prop) (bc bs : Nat) (S : wS) (a0 : Nat) (a1 : Nat) (a2 : Nat) (a3 : Nat) (a4 : Nat) (x5 : Int32) : Prop :=
wp_L_law_3394 D post k_28 bc bs S a0 a1 a2 a3 a4 x5
def wp_L_law_777 (D : wD) (post : Int32 → wS → Prop) (k_28 : Nat → Nat → wS → Nat → Nat → Nat → Nat → Nat → Int32 → Prop) (bc bs : Nat) (S : wS) (a0 : Nat) (a1 : Nat) (a2 : Nat) (a3 : Nat) (a4 : Nat) (x5 : Int32) : Prop :=
wp_L_law_3394 D post k_28 bc bs S a0 a1 a2 a3 a4 x5
def wp_L_law_771 (D : wD) (post : Int32 → wS → Prop) (k_28 : Nat → Nat → wS → Nat → Nat → Nat → Nat → Nat → Int32 → Prop) (bc bs : Nat) (S : wS) (a0 : Nat) (a1 : Nat) (a2 : Nat) (a3 : Nat) (a4 : Nat) (x5 : Int32) (t0 : Int64) (t1 : Int64) : Prop :=
(((lg_cmp t0 t1) = 0 → wp_L_law_777 D post k_28 bc bs S a0 a1 a2 a3 a4 x5) ∧
 (¬ (lg_cmp t0 t1) = 0 → post (0 : Int32) S))
def wp_L_law_737 (D : wD) (post : Int32 → wS → Prop) (k_28 : Nat → Nat → wS → Nat → Nat → Nat → Nat → Nat → Int32 → Prop) (bc bs : Nat) (S : wS) (a0 : Nat) (a1 : Nat) (a2 : Nat) (a3 : Nat) (a4 : Nat) (x5 : Int32) (x6 : Int32) (b0 : Nat) (t1 : Int32) (t2 : Int32) : Prop :=
wp_X12_isAttacked D (fun r_1 S_2 => 
wp_X12_thrown D (fun r_3 S_4 => 
((r_3 = x6 → ((¬ x6 = 0 → wp_L_law_777 D post k_28 bc bs S_4 a0 a1 a2 a3 a4 x5) ∧
 (x6 = 0 → vp_in (0 : Int32) (sN S_4 a3) ∧
((r_1 = 0 → wp_L_law_771 D post k_28 bc bs S_4 a0 a1 a2 a3 a4 x5 (sJ S_4 a3 ((0 : Int32)).toNatClampNeg) (0 : Int64)) ∧
 (¬ r_1 = 0 → wp_L_law_771 D post k_28 bc bs S_4 a0 a1 a2 a3 a4 x5 (sJ S_4 a3 ((0 : Int32)).toNatClampNeg) (1 : Int64)))))) ∧
 (¬ r_3 = x6 → post (0 : Int32) S_4))) S_2 a2) S b0 t1 t2
def wp_L_law_710 (D : wD) (post : Int32 → wS → Prop) (k_28 : Nat → Nat → wS → Nat → Nat → Nat → Nat → Nat → Int32 → Prop) (bc bs : Nat) (S : wS) (a0 : Nat) (a1 : Nat) (a2 : Nat) (a3 : Nat) (a4 : Nat) (x5 : Int32) (b0 : Nat) (t1 : Int32) (t2 : Int32) : Prop :=
1 ≤ bc ∧ 6 ≤ bs ∧
wp_L_isAttacked D (fun r_1 S_2 => 
vp_in (x5 + (1 : Int32)) (sN S_2 a0) ∧
vp_in (x5 + (2 : Int32)) (sN S_2 a0) ∧
(((sI S_2 a0 ((x5 + (2 : Int32))).toNatClampNeg) = 0 → wp_L_law_737 D post k_28 (bc - 1) (bs - 6) S_2 a0 a1 a2 a3 a4 x5 r_1 a2 (sI S_2 a0 ((x5 + (1 : Int32))).toNatClampNeg) (0 : Int32)) ∧
 (¬ (sI S_2 a0 ((x5 + (2 : Int32))).toNatClampNeg) = 0 → wp_L_law_737 D post k_28 (bc - 1) (bs - 6) S_2 a0 a1 a2 a3 a4 x5 r_1 a2 (sI S_2 a0 ((x5 + (1 : Int32))).toNatClampNeg) (1 : Int32)))) S b0 t1 t2 a3
def wp_L_law_634 (D : wD) (post : Int32 → wS → Prop) (k_28 : Nat → Nat → wS → Nat → Nat → Nat → Nat → Nat → Int32 → Prop) (bc bs : Nat) (S : wS) (a0 : Nat) (a1 : Nat) (a2 : Nat) (a3 : Nat) (a4 : Nat) (x5 : Int32) : Prop :=
wp_L_law_3394 D post k_28 bc bs S a0 a1 a2 a3 a4 x5
def wp_L_law_578 (D : wD) (post : Int32 → wS → Prop) (k_28 : Nat → Nat → wS → Nat → Nat → Nat → Nat → Nat → Int32 → Prop) (bc bs : Nat) (S : wS) (a0 : Nat) (a1 : Nat) (a2 : Nat) (a3 : Nat) (a4 : Nat) (x5 : Int32) : Prop :=
wp_L_law_3394 D post k_28 bc bs S a0 a1 a2 a3 a4 x5
def wp_L_law_534 (D : wD) (post : Int32 → wS → Prop) (k_28 : Nat → Nat → wS → Nat → Nat → Nat → Nat → Nat → Int32 → Prop) (bc bs : Nat) (S : wS) (a0 : Nat) (a1 : Nat) (a2 : Nat) (a3 : Nat) (a4 : Nat) (x5 : Int32) : Prop :=
wp_L_law_3394 D post k_28 bc bs S a0 a1 a2 a3 a4 x5
def wp_L_law_495 (D : wD) (post : Int32 → wS → Prop) (k_28 : Nat → Nat → wS → Nat → Nat → Nat → Nat → Nat → Int32 → Prop) (bc bs : Nat) (S : wS) (a0 : Nat) (a1 : Nat) (a2 : Nat) (a3 : Nat) (a4 : Nat) (x5 : Int32) (x6 : Int32) (b0 : Nat) (t1 : Int32) : Prop :=
vp_in (x5 + (2 : Int32)) (sN S a0) ∧
wp_X12_setSide D (fun r_2 S_3 => 
wp_X12_thrown D (fun r_4 S_5 => 
((r_4 = x6 → ((¬ x6 = 0 → wp_L_law_534 D post k_28 bc bs S_5 a0 a1 a2 a3 a4 x5) ∧
 (x6 = 0 → vp_in (0 : Int32) (sN S_5 a3) ∧
(((lg_cmp (sJ S_5 a3 ((0 : Int32)).toNatClampNeg) (Int32.toInt64 r_2)) = 0 → wp_L_law_534 D post k_28 bc bs S_5 a0 a1 a2 a3 a4 x5) ∧
 (¬ (lg_cmp (sJ S_5 a3 ((0 : Int32)).toNatClampNeg) (Int32.toInt64 r_2)) = 0 → post (0 : Int32) S_5))))) ∧
 (¬ r_4 = x6 → post (0 : Int32) S_5))) S_3 a2) S b0 t1 (sI S a0 ((x5 + (2 : Int32))).toNatClampNeg)
def wp_L_law_468 (D : wD) (post : Int32 → wS → Prop) (k_28 : Nat → Nat → wS → Nat → Nat → Nat → Nat → Nat → Int32 → Prop) (bc bs : Nat) (S : wS) (a0 : Nat) (a1 : Nat) (a2 : Nat) (a3 : Nat) (a4 : Nat) (x5 : Int32) (b0 : Nat) (t1 : Int32) : Prop :=
vp_in (x5 + (2 : Int32)) (sN S a0) ∧
1 ≤ bc ∧ 6 ≤ bs ∧
wp_L_setSide D (fun r_2 S_3 => 
vp_in (x5 + (1 : Int32)) (sN S_3 a0) ∧
(((sI S_3 a0 ((x5 + (1 : Int32))).toNatClampNeg) = 0 → wp_L_law_495 D post k_28 (bc - 1) (bs - 6) S_3 a0 a1 a2 a3 a4 x5 r_2 a2 (0 : Int32)) ∧
 (¬ (sI S_3 a0 ((x5 + (1 : Int32))).toNatClampNeg) = 0 → wp_L_law_495 D post k_28 (bc - 1) (bs - 6) S_3 a0 a1 a2 a3 a4 x5 r_2 a2 (1 : Int32)))) S b0 t1 (sI S a0 ((x5 + (2 : Int32))).toNatClampNeg) a3
def wp_L_law_450 (D : wD) (post : Int32 → wS → Prop) (k_28 : Nat → Nat → wS → Nat → Nat → Nat → Nat → Nat → Int32 → Prop) (bc bs : Nat) (S : wS) (a0 : Nat) (a1 : Nat) (a2 : Nat) (a3 : Nat) (a4 : Nat) (x5 : Int32) : Prop :=
wp_L_law_3394 D post k_28 bc bs S a0 a1 a2 a3 a4 x5
def wp_L_law_369 (D : wD) (post : Int32 → wS → Prop) (k_28 : Nat → Nat → wS → Nat → Nat → Nat → Nat → Nat → Int32 → Prop) (bc bs : Nat) (S : wS) (a0 : Nat) (a1 : Nat) (a2 : Nat) (a3 : Nat) (a4 : Nat) (x5 : Int32) : Prop :=
wp_L_law_3394 D post k_28 bc bs S a0 a1 a2 a3 a4 x5
set_option maxRecDepth 100000 in
def wp_L_law_28 (D : wD) (post : Int32 → wS → Prop)  : Nat → Nat → Nat → wS → Nat → Nat → Nat → Nat → Nat → Int32 → Prop
  | 0, _, _, _, _, _, _, _, _, _ => False
  | n + 1, bc, bs, S, a0, a1, a2, a3, a4, x5 =>
    ((((Int32.ofNat (sN S a0)) - (5 : Int32)) < x5 → post (1 : Int32) S) ∧
     (¬ ((Int32.ofNat (sN S a0)) - (5 : Int32)) < x5 → vp_in x5 (sN S a0) ∧
    ∀ x_3 : Int32, x_3 = ((sI S a0 (x5).toNatClampNeg) &&& (63 : Int32)) →
    ((x_3 = 0 → vp_in (x5 + (1 : Int32)) (sN S a0) ∧
    vp_in (x5 + (2 : Int32)) (sN S a0) ∧
    1 ≤ bc ∧ 6 ≤ bs ∧
    wp_L_newBoard D (fun r_7 S_8 => 
    vp_in (x5 + (1 : Int32)) (sN S_8 a0) ∧
    vp_in (x5 + (2 : Int32)) (sN S_8 a0) ∧
    wp_X12_newBoard D (fun r_12 S_13 => 
    wp_X12_thrown D (fun r_14 S_15 => 
    ((r_14 = r_7 → ((¬ r_7 = 0 → wp_L_law_369 D post (wp_L_law_28 D post n) (bc - 1) (bs - 6) S_15 a0 a1 a2 a3 a4 x5) ∧
     (r_7 = 0 → vp_in (0 : Int32) (sN S_15 a3) ∧
    (((lg_cmp (sJ S_15 a3 ((0 : Int32)).toNatClampNeg) (Int32.toInt64 r_12)) = 0 → wp_L_law_369 D post (wp_L_law_28 D post n) (bc - 1) (bs - 6) S_15 a0 a1 a2 a3 a4 x5) ∧
     (¬ (lg_cmp (sJ S_15 a3 ((0 : Int32)).toNatClampNeg) (Int32.toInt64 r_12)) = 0 → post (0 : Int32) S_15))))) ∧
     (¬ r_14 = r_7 → post (0 : Int32) S_15))) S_13 a2) S_8 a2 (sI S_8 a0 ((x5 + (1 : Int32))).toNatClampNeg) (sI S_8 a0 ((x5 + (2 : Int32))).toNatClampNeg)) S a1 (sI S a0 ((x5 + (1 : Int32))).toNatClampNeg) (sI S a0 ((x5 + (2 : Int32))).toNatClampNeg) a3) ∧
     ((x_3 = 1 → wp_X11_startHere D (fun r_21 S_22 => 
    wp_X12_startHere D (fun r_23 S_24 => 
    ((r_21 = r_23 → wp_L_law_3394 D post (wp_L_law_28 D post n) bc bs S_24 a0 a1 a2 a3 a4 x5) ∧
     (¬ r_21 = r_23 → post (0 : Int32) S_24))) S_22 a2) S a1) ∧
     ((x_3 = 2 → vp_in (x5 + (1 : Int32)) (sN S a0) ∧
    vp_in (x5 + (2 : Int32)) (sN S a0) ∧
    2 ≤ bc ∧ 12 ≤ bs ∧
    wp_L_put D (fun r_29 S_30 => 
    vp_in (x5 + (1 : Int32)) (sN S_30 a0) ∧
    vp_in (x5 + (2 : Int32)) (sN S_30 a0) ∧
    wp_X12_put D (fun r_34 S_35 => 
    wp_X12_thrown D (fun r_36 S_37 => 
    ((r_36 = r_29 → ((¬ r_29 = 0 → wp_L_law_450 D post (wp_L_law_28 D post n) (bc - 2) (bs - 12) S_37 a0 a1 a2 a3 a4 x5) ∧
     (r_29 = 0 → vp_in (0 : Int32) (sN S_37 a3) ∧
    (((lg_cmp (sJ S_37 a3 ((0 : Int32)).toNatClampNeg) (Int32.toInt64 r_34)) = 0 → wp_L_law_450 D post (wp_L_law_28 D post n) (bc - 2) (bs - 12) S_37 a0 a1 a2 a3 a4 x5) ∧
     (¬ (lg_cmp (sJ S_37 a3 ((0 : Int32)).toNatClampNeg) (Int32.toInt64 r_34)) = 0 → post (0 : Int32) S_37))))) ∧
     (¬ r_36 = r_29 → post (0 : Int32) S_37))) S_35 a2) S_30 a2 (sI S_30 a0 ((x5 + (1 : Int32))).toNatClampNeg) (sI S_30 a0 ((x5 + (2 : Int32))).toNatClampNeg)) S a1 (sI S a0 ((x5 + (1 : Int32))).toNatClampNeg) (sI S a0 ((x5 + (2 : Int32))).toNatClampNeg) a3) ∧
     ((x_3 = 3 → vp_in (x5 + (1 : Int32)) (sN S a0) ∧
    (((sI S a0 ((x5 + (1 : Int32))).toNatClampNeg) = 0 → wp_L_law_468 D post (wp_L_law_28 D post n) bc bs S a0 a1 a2 a3 a4 x5 a1 (0 : Int32)) ∧
     (¬ (sI S a0 ((x5 + (1 : Int32))).toNatClampNeg) = 0 → wp_L_law_468 D post (wp_L_law_28 D post n) bc bs S a0 a1 a2 a3 a4 x5 a1 (1 : Int32)))) ∧
     ((x_3 = 4 → ∃ m_48 z_49 : Nat, m_48 ≤ bc ∧ z_49 ≤ bs ∧
    wp_L_readPaper D (fun r_46 S_47 => 
    wp_X12_readPaper D (fun r_50 S_51 => 
    wp_X12_thrown D (fun r_52 S_53 => 
    ((r_52 = r_46 → ((¬ r_46 = 0 → wp_L_law_578 D post (wp_L_law_28 D post n) (bc - m_48) (bs - z_49) S_53 a0 a1 a2 a3 a4 x5) ∧
     (r_46 = 0 → vp_in (0 : Int32) (sN S_53 a3) ∧
    (((lg_cmp (sJ S_53 a3 ((0 : Int32)).toNatClampNeg) (Int32.toInt64 r_50)) = 0 → wp_L_law_578 D post (wp_L_law_28 D post n) (bc - m_48) (bs - z_49) S_53 a0 a1 a2 a3 a4 x5) ∧
     (¬ (lg_cmp (sJ S_53 a3 ((0 : Int32)).toNatClampNeg) (Int32.toInt64 r_50)) = 0 → post (0 : Int32) S_53))))) ∧
     (¬ r_52 = r_46 → post (0 : Int32) S_53))) S_51 a2) S_47 a2) m_48 z_49 S a1 a3) ∧
     ((x_3 = 5 → vp_in (x5 + (1 : Int32)) (sN S a0) ∧
    1 ≤ bc ∧ 6 ≤ bs ∧
    wp_L_pieceAt D (fun r_60 S_61 => 
    vp_in (x5 + (1 : Int32)) (sN S_61 a0) ∧
    wp_X12_pieceAt D (fun r_64 S_65 => 
    wp_X12_thrown D (fun r_66 S_67 => 
    ((r_66 = r_60 → ((¬ r_60 = 0 → wp_L_law_634 D post (wp_L_law_28 D post n) (bc - 1) (bs - 6) S_67 a0 a1 a2 a3 a4 x5) ∧
     (r_60 = 0 → vp_in (0 : Int32) (sN S_67 a3) ∧
    (((lg_cmp (sJ S_67 a3 ((0 : Int32)).toNatClampNeg) (Int32.toInt64 r_64)) = 0 → wp_L_law_634 D post (wp_L_law_28 D post n) (bc - 1) (bs - 6) S_67 a0 a1 a2 a3 a4 x5) ∧
     (¬ (lg_cmp (sJ S_67 a3 ((0 : Int32)).toNatClampNeg) (Int32.toInt64 r_64)) = 0 → post (0 : Int32) S_67))))) ∧
     (¬ r_66 = r_60 → post (0 : Int32) S_67))) S_65 a2) S_61 a2 (sI S_61 a0 ((x5 + (1 : Int32))).toNatClampNeg)) S a1 (sI S a0 ((x5 + (1 : Int32))).toNatClampNeg) a3) ∧
     ((x_3 = 6 → wp_X11_isWhiteToMove D (fun r_73 S_74 => 
    wp_X12_isWhiteToMove D (fun r_75 S_76 => 
    ((r_73 = r_75 → wp_L_law_3394 D post (wp_L_law_28 D post n) bc bs S_76 a0 a1 a2 a3 a4 x5) ∧
     (¬ r_73 = r_75 → post (0 : Int32) S_76))) S_74 a2) S a1) ∧
     ((x_3 = 7 → wp_X11_rights D (fun r_79 S_80 => 
    wp_X12_rights D (fun r_81 S_82 => 
    ((r_79 = r_81 → wp_L_law_3394 D post (wp_L_law_28 D post n) bc bs S_82 a0 a1 a2 a3 a4 x5) ∧
     (¬ r_79 = r_81 → post (0 : Int32) S_82))) S_80 a2) S a1) ∧
     ((x_3 = 8 → wp_X11_passingSquare D (fun r_85 S_86 => 
    wp_X12_passingSquare D (fun r_87 S_88 => 
    ((r_85 = r_87 → wp_L_law_3394 D post (wp_L_law_28 D post n) bc bs S_88 a0 a1 a2 a3 a4 x5) ∧
     (¬ r_85 = r_87 → post (0 : Int32) S_88))) S_86 a2) S a1) ∧
     ((x_3 = 9 → wp_X11_isProper D (fun r_91 S_92 => 
    wp_X12_isProper D (fun r_93 S_94 => 
    ((r_91 = r_93 → wp_L_law_3394 D post (wp_L_law_28 D post n) bc bs S_94 a0 a1 a2 a3 a4 x5) ∧
     (¬ r_91 = r_93 → post (0 : Int32) S_94))) S_92 a2) S a1) ∧
     ((x_3 = 10 → vp_in (x5 + (1 : Int32)) (sN S a0) ∧
    vp_in (x5 + (2 : Int32)) (sN S a0) ∧
    (((sI S a0 ((x5 + (2 : Int32))).toNatClampNeg) = 0 → wp_L_law_710 D post (wp_L_law_28 D post n) bc bs S a0 a1 a2 a3 a4 x5 a1 (sI S a0 ((x5 + (1 : Int32))).toNatClampNeg) (0 : Int32)) ∧
     (¬ (sI S a0 ((x5 + (2 : Int32))).toNatClampNeg) = 0 → wp_L_law_710 D post (wp_L_law_28 D post n) bc bs S a0 a1 a2 a3 a4 x5 a1 (sI S a0 ((x5 + (1 : Int32))).toNatClampNeg) (1 : Int32)))) ∧
     ((x_3 = 11 → 1 ≤ bc ∧ 6 ≤ bs ∧
    wp_L_checkers D (fun r_101 S_102 => 
    wp_X12_checkers D (fun r_104 S_105 => 
    wp_X12_thrown D (fun r_106 S_107 => 
    ((r_106 = r_101 → ((¬ r_101 = 0 → wp_L_law_821 D post (wp_L_law_28 D post n) (bc - 1) (bs - 6) S_107 a0 a1 a2 a3 a4 x5) ∧
     (r_101 = 0 → vp_in (0 : Int32) (sN S_107 a3) ∧
    (((lg_cmp (sJ S_107 a3 ((0 : Int32)).toNatClampNeg) (Int32.toInt64 r_104)) = 0 → wp_L_law_821 D post (wp_L_law_28 D post n) (bc - 1) (bs - 6) S_107 a0 a1 a2 a3 a4 x5) ∧
     (¬ (lg_cmp (sJ S_107 a3 ((0 : Int32)).toNatClampNeg) (Int32.toInt64 r_104)) = 0 → post (0 : Int32) S_107))))) ∧
     (¬ r_106 = r_101 → post (0 : Int32) S_107))) S_105 a2) S_102 a2) S a1 a3) ∧
     ((x_3 = 12 → vp_in (x5 + (1 : Int32)) (sN S a0) ∧
    2 ≤ bc ∧ 12 ≤ bs ∧
    wp_L_isPinned D (fun r_114 S_115 => 
    vp_in (x5 + (1 : Int32)) (sN S_115 a0) ∧
    wp_X12_isPinned D (fun r_118 S_119 => 
    wp_X12_thrown D (fun r_120 S_121 => 
    ((r_120 = r_114 → ((¬ r_114 = 0 → wp_L_law_884 D post (wp_L_law_28 D post n) (bc - 2) (bs - 12) S_121 a0 a1 a2 a3 a4 x5) ∧
     (r_114 = 0 → vp_in (0 : Int32) (sN S_121 a3) ∧
    ((r_118 = 0 → wp_L_law_878 D post (wp_L_law_28 D post n) (bc - 2) (bs - 12) S_121 a0 a1 a2 a3 a4 x5 (sJ S_121 a3 ((0 : Int32)).toNatClampNeg) (0 : Int64)) ∧
     (¬ r_118 = 0 → wp_L_law_878 D post (wp_L_law_28 D post n) (bc - 2) (bs - 12) S_121 a0 a1 a2 a3 a4 x5 (sJ S_121 a3 ((0 : Int32)).toNatClampNeg) (1 : Int64)))))) ∧
     (¬ r_120 = r_114 → post (0 : Int32) S_121))) S_119 a2) S_115 a2 (sI S_115 a0 ((x5 + (1 : Int32))).toNatClampNeg)) S a1 (sI S a0 ((x5 + (1 : Int32))).toNatClampNeg) a3) ∧
     ((x_3 = 13 → ∃ m_129 z_130 : Nat, m_129 ≤ bc ∧ z_130 ≤ bs ∧
    wp_X11_writePaper D (fun r_127 S_128 => 
    wp_X12_writePaper D (fun r_131 S_132 => 
    ((r_127 = r_131 → wp_L_law_3394 D post (wp_L_law_28 D post n) (bc - m_129) (bs - z_130) S_132 a0 a1 a2 a3 a4 x5) ∧
     (¬ r_127 = r_131 → post (0 : Int32) S_132))) S_128 a2) m_129 z_130 S a1) ∧
     ((x_3 = 14 → vp_in (x5 + (1 : Int32)) (sN S a0) ∧
    1 ≤ bc ∧ 6 ≤ bs ∧
    wp_L_outputByte D (fun r_136 S_137 => 
    vp_in (x5 + (1 : Int32)) (sN S_137 a0) ∧
    wp_X12_outputByte D (fun r_140 S_141 => 
    wp_X12_thrown D (fun r_142 S_143 => 
    ((r_142 = r_136 → ((¬ r_136 = 0 → wp_L_law_953 D post (wp_L_law_28 D post n) (bc - 1) (bs - 6) S_143 a0 a1 a2 a3 a4 x5) ∧
     (r_136 = 0 → vp_in (0 : Int32) (sN S_143 a3) ∧
    (((lg_cmp (sJ S_143 a3 ((0 : Int32)).toNatClampNeg) (Int32.toInt64 r_140)) = 0 → wp_L_law_953 D post (wp_L_law_28 D post n) (bc - 1) (bs - 6) S_143 a0 a1 a2 a3 a4 x5) ∧
     (¬ (lg_cmp (sJ S_143 a3 ((0 : Int32)).toNatClampNeg) (Int32.toInt64 r_140)) = 0 → post (0 : Int32) S_143))))) ∧
     (¬ r_142 = r_136 → post (0 : Int32) S_143))) S_141 a2) S_137 a2 (sI S_137 a0 ((x5 + (1 : Int32))).toNatClampNeg)) S a1 (sI S a0 ((x5 + (1 : Int32))).toNatClampNeg) a3) ∧
     ((x_3 = 15 → vp_in (x5 + (1 : Int32)) (sN S a0) ∧
    (((sI S a0 ((x5 + (1 : Int32))).toNatClampNeg) = 0 → wp_L_law_971 D post (wp_L_law_28 D post n) bc bs S a0 a1 a2 a3 a4 x5 a1 (0 : Int32)) ∧
     (¬ (sI S a0 ((x5 + (1 : Int32))).toNatClampNeg) = 0 → wp_L_law_971 D post (wp_L_law_28 D post n) bc bs S a0 a1 a2 a3 a4 x5 a1 (1 : Int32)))) ∧
     ((x_3 = 16 → vp_in (x5 + (1 : Int32)) (sN S a0) ∧
    1 ≤ bc ∧ 6 ≤ bs ∧
    wp_L_isOpenFile D (fun r_153 S_154 => 
    vp_in (x5 + (1 : Int32)) (sN S_154 a0) ∧
    wp_X12_isOpenFile D (fun r_157 S_158 => 
    wp_X12_thrown D (fun r_159 S_160 => 
    ((r_159 = r_153 → ((¬ r_153 = 0 → wp_L_law_1057 D post (wp_L_law_28 D post n) (bc - 1) (bs - 6) S_160 a0 a1 a2 a3 a4 x5) ∧
     (r_153 = 0 → vp_in (0 : Int32) (sN S_160 a3) ∧
    ((r_157 = 0 → wp_L_law_1051 D post (wp_L_law_28 D post n) (bc - 1) (bs - 6) S_160 a0 a1 a2 a3 a4 x5 (sJ S_160 a3 ((0 : Int32)).toNatClampNeg) (0 : Int64)) ∧
     (¬ r_157 = 0 → wp_L_law_1051 D post (wp_L_law_28 D post n) (bc - 1) (bs - 6) S_160 a0 a1 a2 a3 a4 x5 (sJ S_160 a3 ((0 : Int32)).toNatClampNeg) (1 : Int64)))))) ∧
     (¬ r_159 = r_153 → post (0 : Int32) S_160))) S_158 a2) S_154 a2 (sI S_154 a0 ((x5 + (1 : Int32))).toNatClampNeg)) S a1 (sI S a0 ((x5 + (1 : Int32))).toNatClampNeg) a3) ∧
     ((x_3 = 17 → 1 ≤ bc ∧ 6 ≤ bs ∧
    wp_L_moveCount D (fun r_166 S_167 => 
    wp_X12_moveCount D (fun r_169 S_170 => 
    wp_X12_thrown D (fun r_171 S_172 => 
    ((r_171 = r_166 → ((¬ r_166 = 0 → wp_L_law_1101 D post (wp_L_law_28 D post n) (bc - 1) (bs - 6) S_172 a0 a1 a2 a3 a4 x5) ∧
     (r_166 = 0 → vp_in (0 : Int32) (sN S_172 a3) ∧
    (((lg_cmp (sJ S_172 a3 ((0 : Int32)).toNatClampNeg) (Int32.toInt64 r_169)) = 0 → wp_L_law_1101 D post (wp_L_law_28 D post n) (bc - 1) (bs - 6) S_172 a0 a1 a2 a3 a4 x5) ∧
     (¬ (lg_cmp (sJ S_172 a3 ((0 : Int32)).toNatClampNeg) (Int32.toInt64 r_169)) = 0 → post (0 : Int32) S_172))))) ∧
     (¬ r_171 = r_166 → post (0 : Int32) S_172))) S_170 a2) S_167 a2) S a1 a3) ∧
     ((x_3 = 18 → vp_in (x5 + (1 : Int32)) (sN S a0) ∧
    2 ≤ bc ∧ 12 ≤ bs ∧
    wp_L_moveFrom D (fun r_179 S_180 => 
    vp_in (x5 + (1 : Int32)) (sN S_180 a0) ∧
    wp_X12_moveFrom D (fun r_183 S_184 => 
    wp_X12_thrown D (fun r_185 S_186 => 
    ((r_185 = r_179 → ((¬ r_179 = 0 → wp_L_law_1157 D post (wp_L_law_28 D post n) (bc - 2) (bs - 12) S_186 a0 a1 a2 a3 a4 x5) ∧
     (r_179 = 0 → vp_in (0 : Int32) (sN S_186 a3) ∧
    (((lg_cmp (sJ S_186 a3 ((0 : Int32)).toNatClampNeg) (Int32.toInt64 r_183)) = 0 → wp_L_law_1157 D post (wp_L_law_28 D post n) (bc - 2) (bs - 12) S_186 a0 a1 a2 a3 a4 x5) ∧
     (¬ (lg_cmp (sJ S_186 a3 ((0 : Int32)).toNatClampNeg) (Int32.toInt64 r_183)) = 0 → post (0 : Int32) S_186))))) ∧
     (¬ r_185 = r_179 → post (0 : Int32) S_186))) S_184 a2) S_180 a2 (sI S_180 a0 ((x5 + (1 : Int32))).toNatClampNeg)) S a1 (sI S a0 ((x5 + (1 : Int32))).toNatClampNeg) a3) ∧
     ((x_3 = 19 → vp_in (x5 + (1 : Int32)) (sN S a0) ∧
    2 ≤ bc ∧ 12 ≤ bs ∧
    wp_L_moveTo D (fun r_193 S_194 => 
    vp_in (x5 + (1 : Int32)) (sN S_194 a0) ∧
    wp_X12_moveTo D (fun r_197 S_198 => 
    wp_X12_thrown D (fun r_199 S_200 => 
    ((r_199 = r_193 → ((¬ r_193 = 0 → wp_L_law_1213 D post (wp_L_law_28 D post n) (bc - 2) (bs - 12) S_200 a0 a1 a2 a3 a4 x5) ∧
     (r_193 = 0 → vp_in (0 : Int32) (sN S_200 a3) ∧
    (((lg_cmp (sJ S_200 a3 ((0 : Int32)).toNatClampNeg) (Int32.toInt64 r_197)) = 0 → wp_L_law_1213 D post (wp_L_law_28 D post n) (bc - 2) (bs - 12) S_200 a0 a1 a2 a3 a4 x5) ∧
     (¬ (lg_cmp (sJ S_200 a3 ((0 : Int32)).toNatClampNeg) (Int32.toInt64 r_197)) = 0 → post (0 : Int32) S_200))))) ∧
     (¬ r_199 = r_193 → post (0 : Int32) S_200))) S_198 a2) S_194 a2 (sI S_194 a0 ((x5 + (1 : Int32))).toNatClampNeg)) S a1 (sI S a0 ((x5 + (1 : Int32))).toNatClampNeg) a3) ∧
     ((x_3 = 20 → vp_in (x5 + (1 : Int32)) (sN S a0) ∧
    2 ≤ bc ∧ 12 ≤ bs ∧
    wp_L_moveBecomes D (fun r_207 S_208 => 
    vp_in (x5 + (1 : Int32)) (sN S_208 a0) ∧
    wp_X12_moveBecomes D (fun r_211 S_212 => 
    wp_X12_thrown D (fun r_213 S_214 => 
    ((r_213 = r_207 → ((¬ r_207 = 0 → wp_L_law_1269 D post (wp_L_law_28 D post n) (bc - 2) (bs - 12) S_214 a0 a1 a2 a3 a4 x5) ∧
     (r_207 = 0 → vp_in (0 : Int32) (sN S_214 a3) ∧
    (((lg_cmp (sJ S_214 a3 ((0 : Int32)).toNatClampNeg) (Int32.toInt64 r_211)) = 0 → wp_L_law_1269 D post (wp_L_law_28 D post n) (bc - 2) (bs - 12) S_214 a0 a1 a2 a3 a4 x5) ∧
     (¬ (lg_cmp (sJ S_214 a3 ((0 : Int32)).toNatClampNeg) (Int32.toInt64 r_211)) = 0 → post (0 : Int32) S_214))))) ∧
     (¬ r_213 = r_207 → post (0 : Int32) S_214))) S_212 a2) S_208 a2 (sI S_208 a0 ((x5 + (1 : Int32))).toNatClampNeg)) S a1 (sI S a0 ((x5 + (1 : Int32))).toNatClampNeg) a3) ∧
     ((x_3 = 21 → vp_in (x5 + (1 : Int32)) (sN S a0) ∧
    ∃ m_223 z_224 : Nat, m_223 ≤ bc ∧ z_224 ≤ bs ∧
    wp_L_writeMove D (fun r_221 S_222 => 
    vp_in (x5 + (1 : Int32)) (sN S_222 a0) ∧
    wp_X12_writeMove D (fun r_226 S_227 => 
    wp_X12_thrown D (fun r_228 S_229 => 
    ((r_228 = r_221 → ((¬ r_221 = 0 → wp_L_law_1325 D post (wp_L_law_28 D post n) (bc - m_223) (bs - z_224) S_229 a0 a1 a2 a3 a4 x5) ∧
     (r_221 = 0 → vp_in (0 : Int32) (sN S_229 a3) ∧
    (((lg_cmp (sJ S_229 a3 ((0 : Int32)).toNatClampNeg) (Int32.toInt64 r_226)) = 0 → wp_L_law_1325 D post (wp_L_law_28 D post n) (bc - m_223) (bs - z_224) S_229 a0 a1 a2 a3 a4 x5) ∧
     (¬ (lg_cmp (sJ S_229 a3 ((0 : Int32)).toNatClampNeg) (Int32.toInt64 r_226)) = 0 → post (0 : Int32) S_229))))) ∧
     (¬ r_228 = r_221 → post (0 : Int32) S_229))) S_227 a2) S_222 a2 (sI S_222 a0 ((x5 + (1 : Int32))).toNatClampNeg)) m_223 z_224 S a1 (sI S a0 ((x5 + (1 : Int32))).toNatClampNeg) a3) ∧
     ((x_3 = 22 → vp_in (x5 + (1 : Int32)) (sN S a0) ∧
    3 ≤ bc ∧ 18 ≤ bs ∧
    wp_L_play D (fun r_236 S_237 => 
    vp_in (x5 + (1 : Int32)) (sN S_237 a0) ∧
    wp_X12_play D (fun r_240 S_241 => 
    wp_X12_thrown D (fun r_242 S_243 => 
    ((r_242 = r_236 → ((¬ r_236 = 0 → wp_L_law_1381 D post (wp_L_law_28 D post n) (bc - 3) (bs - 18) S_243 a0 a1 a2 a3 a4 x5) ∧
     (r_236 = 0 → vp_in (0 : Int32) (sN S_243 a3) ∧
    (((lg_cmp (sJ S_243 a3 ((0 : Int32)).toNatClampNeg) (Int32.toInt64 r_240)) = 0 → wp_L_law_1381 D post (wp_L_law_28 D post n) (bc - 3) (bs - 18) S_243 a0 a1 a2 a3 a4 x5) ∧
     (¬ (lg_cmp (sJ S_243 a3 ((0 : Int32)).toNatClampNeg) (Int32.toInt64 r_240)) = 0 → post (0 : Int32) S_243))))) ∧
     (¬ r_242 = r_236 → post (0 : Int32) S_243))) S_241 a2) S_237 a2 (sI S_237 a0 ((x5 + (1 : Int32))).toNatClampNeg)) S a1 (sI S a0 ((x5 + (1 : Int32))).toNatClampNeg) a3) ∧
     ((x_3 = 23 → 1 ≤ bc ∧ 6 ≤ bs ∧
    wp_L_takeBack D (fun r_249 S_250 => 
    wp_X12_takeBack D (fun r_252 S_253 => 
    wp_X12_thrown D (fun r_254 S_255 => 
    ((r_254 = r_249 → ((¬ r_249 = 0 → wp_L_law_1425 D post (wp_L_law_28 D post n) (bc - 1) (bs - 6) S_255 a0 a1 a2 a3 a4 x5) ∧
     (r_249 = 0 → vp_in (0 : Int32) (sN S_255 a3) ∧
    (((lg_cmp (sJ S_255 a3 ((0 : Int32)).toNatClampNeg) (Int32.toInt64 r_252)) = 0 → wp_L_law_1425 D post (wp_L_law_28 D post n) (bc - 1) (bs - 6) S_255 a0 a1 a2 a3 a4 x5) ∧
     (¬ (lg_cmp (sJ S_255 a3 ((0 : Int32)).toNatClampNeg) (Int32.toInt64 r_252)) = 0 → post (0 : Int32) S_255))))) ∧
     (¬ r_254 = r_249 → post (0 : Int32) S_255))) S_253 a2) S_250 a2) S a1 a3) ∧
     ((x_3 = 24 → wp_X11_madeCount D (fun r_261 S_262 => 
    wp_X12_madeCount D (fun r_263 S_264 => 
    ((r_261 = r_263 → wp_L_law_3394 D post (wp_L_law_28 D post n) bc bs S_264 a0 a1 a2 a3 a4 x5) ∧
     (¬ r_261 = r_263 → post (0 : Int32) S_264))) S_262 a2) S a1) ∧
     ((x_3 = 25 → 1 ≤ bc ∧ 6 ≤ bs ∧
    wp_L_state D (fun r_267 S_268 => 
    wp_X12_state D (fun r_270 S_271 => 
    wp_X12_thrown D (fun r_272 S_273 => 
    ((r_272 = r_267 → ((¬ r_267 = 0 → wp_L_law_1482 D post (wp_L_law_28 D post n) (bc - 1) (bs - 6) S_273 a0 a1 a2 a3 a4 x5) ∧
     (r_267 = 0 → vp_in (0 : Int32) (sN S_273 a3) ∧
    (((lg_cmp (sJ S_273 a3 ((0 : Int32)).toNatClampNeg) (Int32.toInt64 r_270)) = 0 → wp_L_law_1482 D post (wp_L_law_28 D post n) (bc - 1) (bs - 6) S_273 a0 a1 a2 a3 a4 x5) ∧
     (¬ (lg_cmp (sJ S_273 a3 ((0 : Int32)).toNatClampNeg) (Int32.toInt64 r_270)) = 0 → post (0 : Int32) S_273))))) ∧
     (¬ r_272 = r_267 → post (0 : Int32) S_273))) S_271 a2) S_268 a2) S a1 a3) ∧
     ((x_3 = 26 → wp_X11_repetitions D (fun r_279 S_280 => 
    wp_X12_repetitions D (fun r_281 S_282 => 
    ((r_279 = r_281 → wp_L_law_3394 D post (wp_L_law_28 D post n) bc bs S_282 a0 a1 a2 a3 a4 x5) ∧
     (¬ r_279 = r_281 → post (0 : Int32) S_282))) S_280 a2) S a1) ∧
     ((x_3 = 27 → vp_in (x5 + (1 : Int32)) (sN S a0) ∧
    vp_in (x5 + (2 : Int32)) (sN S a0) ∧
    (((sI S a0 ((x5 + (2 : Int32))).toNatClampNeg) = 0 → wp_L_law_1519 D post (wp_L_law_28 D post n) bc bs S a0 a1 a2 a3 a4 x5 a1 (sI S a0 ((x5 + (1 : Int32))).toNatClampNeg) (0 : Int32)) ∧
     (¬ (sI S a0 ((x5 + (2 : Int32))).toNatClampNeg) = 0 → wp_L_law_1519 D post (wp_L_law_28 D post n) bc bs S a0 a1 a2 a3 a4 x5 a1 (sI S a0 ((x5 + (1 : Int32))).toNatClampNeg) (1 : Int32)))) ∧
     ((x_3 = 28 → vp_in (x5 + (1 : Int32)) (sN S a0) ∧
    vp_in (x5 + (2 : Int32)) (sN S a0) ∧
    ∃ m_293 z_294 : Nat, m_293 ≤ bc ∧ z_294 ≤ bs ∧
    wp_L_type D (fun r_291 S_292 => 
    vp_in (x5 + (1 : Int32)) (sN S_292 a0) ∧
    vp_in (x5 + (2 : Int32)) (sN S_292 a0) ∧
    wp_X12_type D (fun r_297 S_298 => 
    wp_X12_thrown D (fun r_299 S_300 => 
    ((r_299 = r_291 → ((¬ r_291 = 0 → wp_L_law_1667 D post (wp_L_law_28 D post n) (bc - m_293) (bs - z_294) S_300 a0 a1 a2 a3 a4 x5) ∧
     (r_291 = 0 → vp_in (0 : Int32) (sN S_300 a3) ∧
    (((lg_cmp (sJ S_300 a3 ((0 : Int32)).toNatClampNeg) (Int32.toInt64 r_297)) = 0 → wp_L_law_1667 D post (wp_L_law_28 D post n) (bc - m_293) (bs - z_294) S_300 a0 a1 a2 a3 a4 x5) ∧
     (¬ (lg_cmp (sJ S_300 a3 ((0 : Int32)).toNatClampNeg) (Int32.toInt64 r_297)) = 0 → post (0 : Int32) S_300))))) ∧
     (¬ r_299 = r_291 → post (0 : Int32) S_300))) S_298 a2) S_292 a2 ((jlshl (Int32.toInt64 (sI S_292 a0 ((x5 + (1 : Int32))).toNatClampNeg)) (32 : Int32)) ||| ((Int32.toInt64 (sI S_292 a0 ((x5 + (2 : Int32))).toNatClampNeg)) &&& (4294967295 : Int64)))) m_293 z_294 S a1 ((jlshl (Int32.toInt64 (sI S a0 ((x5 + (1 : Int32))).toNatClampNeg)) (32 : Int32)) ||| ((Int32.toInt64 (sI S a0 ((x5 + (2 : Int32))).toNatClampNeg)) &&& (4294967295 : Int64))) a3) ∧
     ((x_3 = 29 → ∃ m_308 z_309 : Nat, m_308 ≤ bc ∧ z_309 ≤ bs ∧
    wp_X11_clearText D (fun r_306 S_307 => 
    wp_X12_clearText D (fun r_310 S_311 => 
    ((r_306 = r_310 → wp_L_law_3394 D post (wp_L_law_28 D post n) (bc - m_308) (bs - z_309) S_311 a0 a1 a2 a3 a4 x5) ∧
     (¬ r_306 = r_310 → post (0 : Int32) S_311))) S_307 a2) m_308 z_309 S a1) ∧
     ((x_3 = 30 → 1 ≤ bc ∧ 6 ≤ bs ∧
    wp_L_fault D (fun r_314 S_315 => 
    wp_X12_fault D (fun r_317 S_318 => 
    wp_X12_thrown D (fun r_319 S_320 => 
    ((r_319 = r_314 → ((¬ r_314 = 0 → wp_L_law_1724 D post (wp_L_law_28 D post n) (bc - 1) (bs - 6) S_320 a0 a1 a2 a3 a4 x5) ∧
     (r_314 = 0 → vp_in (0 : Int32) (sN S_320 a3) ∧
    (((lg_cmp (sJ S_320 a3 ((0 : Int32)).toNatClampNeg) (Int32.toInt64 r_317)) = 0 → wp_L_law_1724 D post (wp_L_law_28 D post n) (bc - 1) (bs - 6) S_320 a0 a1 a2 a3 a4 x5) ∧
     (¬ (lg_cmp (sJ S_320 a3 ((0 : Int32)).toNatClampNeg) (Int32.toInt64 r_317)) = 0 → post (0 : Int32) S_320))))) ∧
     (¬ r_319 = r_314 → post (0 : Int32) S_320))) S_318 a2) S_315 a2) S a1 a3) ∧
     ((x_3 = 31 → ∃ m_328 z_329 : Nat, m_328 ≤ bc ∧ z_329 ≤ bs ∧
    wp_L_readMoves D (fun r_326 S_327 => 
    wp_X12_readMoves D (fun r_330 S_331 => 
    wp_X12_thrown D (fun r_332 S_333 => 
    ((r_332 = r_326 → ((¬ r_326 = 0 → wp_L_law_1768 D post (wp_L_law_28 D post n) (bc - m_328) (bs - z_329) S_333 a0 a1 a2 a3 a4 x5) ∧
     (r_326 = 0 → vp_in (0 : Int32) (sN S_333 a3) ∧
    (((lg_cmp (sJ S_333 a3 ((0 : Int32)).toNatClampNeg) (Int32.toInt64 r_330)) = 0 → wp_L_law_1768 D post (wp_L_law_28 D post n) (bc - m_328) (bs - z_329) S_333 a0 a1 a2 a3 a4 x5) ∧
     (¬ (lg_cmp (sJ S_333 a3 ((0 : Int32)).toNatClampNeg) (Int32.toInt64 r_330)) = 0 → post (0 : Int32) S_333))))) ∧
     (¬ r_332 = r_326 → post (0 : Int32) S_333))) S_331 a2) S_327 a2) m_328 z_329 S a1 a3) ∧
     ((x_3 = 32 → wp_X11_variationMoves D (fun r_339 S_340 => 
    wp_X12_variationMoves D (fun r_341 S_342 => 
    ((r_339 = r_341 → wp_L_law_3394 D post (wp_L_law_28 D post n) bc bs S_342 a0 a1 a2 a3 a4 x5) ∧
     (¬ r_339 = r_341 → post (0 : Int32) S_342))) S_340 a2) S a1) ∧
     ((x_3 = 33 → vp_in (x5 + (1 : Int32)) (sN S a0) ∧
    vp_in (x5 + (2 : Int32)) (sN S a0) ∧
    vp_in (x5 + (3 : Int32)) (sN S a0) ∧
    vp_in (x5 + (4 : Int32)) (sN S a0) ∧
    ∃ m_351 z_352 : Nat, m_351 ≤ bc ∧ z_352 ≤ bs ∧
    wp_L_addGame D (fun r_349 S_350 => 
    vp_in (x5 + (1 : Int32)) (sN S_350 a0) ∧
    vp_in (x5 + (2 : Int32)) (sN S_350 a0) ∧
    vp_in (x5 + (3 : Int32)) (sN S_350 a0) ∧
    vp_in (x5 + (4 : Int32)) (sN S_350 a0) ∧
    wp_X12_addGame D (fun r_357 S_358 => 
    wp_X12_thrown D (fun r_359 S_360 => 
    ((r_359 = r_349 → ((¬ r_349 = 0 → wp_L_law_1873 D post (wp_L_law_28 D post n) (bc - m_351) (bs - z_352) S_360 a0 a1 a2 a3 a4 x5) ∧
     (r_349 = 0 → vp_in (0 : Int32) (sN S_360 a3) ∧
    (((lg_cmp (sJ S_360 a3 ((0 : Int32)).toNatClampNeg) (Int32.toInt64 r_357)) = 0 → wp_L_law_1873 D post (wp_L_law_28 D post n) (bc - m_351) (bs - z_352) S_360 a0 a1 a2 a3 a4 x5) ∧
     (¬ (lg_cmp (sJ S_360 a3 ((0 : Int32)).toNatClampNeg) (Int32.toInt64 r_357)) = 0 → post (0 : Int32) S_360))))) ∧
     (¬ r_359 = r_349 → post (0 : Int32) S_360))) S_358 a2) S_350 a2 (sI S_350 a0 ((x5 + (1 : Int32))).toNatClampNeg) (sI S_350 a0 ((x5 + (2 : Int32))).toNatClampNeg) (sI S_350 a0 ((x5 + (3 : Int32))).toNatClampNeg) (sI S_350 a0 ((x5 + (4 : Int32))).toNatClampNeg)) m_351 z_352 S a1 (sI S a0 ((x5 + (1 : Int32))).toNatClampNeg) (sI S a0 ((x5 + (2 : Int32))).toNatClampNeg) (sI S a0 ((x5 + (3 : Int32))).toNatClampNeg) (sI S a0 ((x5 + (4 : Int32))).toNatClampNeg) a3) ∧
     ((x_3 = 34 → vp_in (x5 + (1 : Int32)) (sN S a0) ∧
    1 ≤ bc ∧ 6 ≤ bs ∧
    wp_L_gameCount D (fun r_367 S_368 => 
    vp_in (x5 + (1 : Int32)) (sN S_368 a0) ∧
    wp_X12_gameCount D (fun r_371 S_372 => 
    wp_X12_thrown D (fun r_373 S_374 => 
    ((r_373 = r_367 → ((¬ r_367 = 0 → wp_L_law_1929 D post (wp_L_law_28 D post n) (bc - 1) (bs - 6) S_374 a0 a1 a2 a3 a4 x5) ∧
     (r_367 = 0 → vp_in (0 : Int32) (sN S_374 a3) ∧
    (((lg_cmp (sJ S_374 a3 ((0 : Int32)).toNatClampNeg) (Int32.toInt64 r_371)) = 0 → wp_L_law_1929 D post (wp_L_law_28 D post n) (bc - 1) (bs - 6) S_374 a0 a1 a2 a3 a4 x5) ∧
     (¬ (lg_cmp (sJ S_374 a3 ((0 : Int32)).toNatClampNeg) (Int32.toInt64 r_371)) = 0 → post (0 : Int32) S_374))))) ∧
     (¬ r_373 = r_367 → post (0 : Int32) S_374))) S_372 a2) S_368 a2 (sI S_368 a0 ((x5 + (1 : Int32))).toNatClampNeg)) S a1 (sI S a0 ((x5 + (1 : Int32))).toNatClampNeg) a3) ∧
     ((x_3 = 35 → vp_in (x5 + (1 : Int32)) (sN S a0) ∧
    vp_in (x5 + (2 : Int32)) (sN S a0) ∧
    2 ≤ bc ∧ 12 ≤ bs ∧
    wp_L_gameLength D (fun r_382 S_383 => 
    vp_in (x5 + (1 : Int32)) (sN S_383 a0) ∧
    vp_in (x5 + (2 : Int32)) (sN S_383 a0) ∧
    wp_X12_gameLength D (fun r_387 S_388 => 
    wp_X12_thrown D (fun r_389 S_390 => 
    ((r_389 = r_382 → ((¬ r_382 = 0 → wp_L_law_1997 D post (wp_L_law_28 D post n) (bc - 2) (bs - 12) S_390 a0 a1 a2 a3 a4 x5) ∧
     (r_382 = 0 → vp_in (0 : Int32) (sN S_390 a3) ∧
    (((lg_cmp (sJ S_390 a3 ((0 : Int32)).toNatClampNeg) (Int32.toInt64 r_387)) = 0 → wp_L_law_1997 D post (wp_L_law_28 D post n) (bc - 2) (bs - 12) S_390 a0 a1 a2 a3 a4 x5) ∧
     (¬ (lg_cmp (sJ S_390 a3 ((0 : Int32)).toNatClampNeg) (Int32.toInt64 r_387)) = 0 → post (0 : Int32) S_390))))) ∧
     (¬ r_389 = r_382 → post (0 : Int32) S_390))) S_388 a2) S_383 a2 (sI S_383 a0 ((x5 + (1 : Int32))).toNatClampNeg) (sI S_383 a0 ((x5 + (2 : Int32))).toNatClampNeg)) S a1 (sI S a0 ((x5 + (1 : Int32))).toNatClampNeg) (sI S a0 ((x5 + (2 : Int32))).toNatClampNeg) a3) ∧
     ((x_3 = 36 → vp_in (x5 + (1 : Int32)) (sN S a0) ∧
    1 ≤ bc ∧ 6 ≤ bs ∧
    wp_L_positionCount D (fun r_397 S_398 => 
    vp_in (x5 + (1 : Int32)) (sN S_398 a0) ∧
    wp_X12_positionCount D (fun r_401 S_402 => 
    wp_X12_thrown D (fun r_403 S_404 => 
    ((r_403 = r_397 → ((¬ r_397 = 0 → wp_L_law_2053 D post (wp_L_law_28 D post n) (bc - 1) (bs - 6) S_404 a0 a1 a2 a3 a4 x5) ∧
     (r_397 = 0 → vp_in (0 : Int32) (sN S_404 a3) ∧
    (((lg_cmp (sJ S_404 a3 ((0 : Int32)).toNatClampNeg) (Int32.toInt64 r_401)) = 0 → wp_L_law_2053 D post (wp_L_law_28 D post n) (bc - 1) (bs - 6) S_404 a0 a1 a2 a3 a4 x5) ∧
     (¬ (lg_cmp (sJ S_404 a3 ((0 : Int32)).toNatClampNeg) (Int32.toInt64 r_401)) = 0 → post (0 : Int32) S_404))))) ∧
     (¬ r_403 = r_397 → post (0 : Int32) S_404))) S_402 a2) S_398 a2 (sI S_398 a0 ((x5 + (1 : Int32))).toNatClampNeg)) S a1 (sI S a0 ((x5 + (1 : Int32))).toNatClampNeg) a3) ∧
     ((x_3 = 37 → vp_in (x5 + (1 : Int32)) (sN S a0) ∧
    1 ≤ bc ∧ 6 ≤ bs ∧
    wp_L_count D (fun r_411 S_412 => 
    vp_in (x5 + (1 : Int32)) (sN S_412 a0) ∧
    wp_X12_count D (fun r_415 S_416 => 
    wp_X12_thrown D (fun r_417 S_418 => 
    ((r_417 = r_411 → ((¬ r_411 = 0 → wp_L_law_2109 D post (wp_L_law_28 D post n) (bc - 1) (bs - 6) S_418 a0 a1 a2 a3 a4 x5) ∧
     (r_411 = 0 → vp_in (0 : Int32) (sN S_418 a3) ∧
    (((lg_cmp (sJ S_418 a3 ((0 : Int32)).toNatClampNeg) (Int32.toInt64 r_415)) = 0 → wp_L_law_2109 D post (wp_L_law_28 D post n) (bc - 1) (bs - 6) S_418 a0 a1 a2 a3 a4 x5) ∧
     (¬ (lg_cmp (sJ S_418 a3 ((0 : Int32)).toNatClampNeg) (Int32.toInt64 r_415)) = 0 → post (0 : Int32) S_418))))) ∧
     (¬ r_417 = r_411 → post (0 : Int32) S_418))) S_416 a2) S_412 a2 (sI S_412 a0 ((x5 + (1 : Int32))).toNatClampNeg)) S a1 (sI S a0 ((x5 + (1 : Int32))).toNatClampNeg) a3) ∧
     ((x_3 = 38 → vp_in (x5 + (1 : Int32)) (sN S a0) ∧
    vp_in (x5 + (2 : Int32)) (sN S a0) ∧
    2 ≤ bc ∧ 12 ≤ bs ∧
    wp_L_countWith D (fun r_426 S_427 => 
    vp_in (x5 + (1 : Int32)) (sN S_427 a0) ∧
    vp_in (x5 + (2 : Int32)) (sN S_427 a0) ∧
    wp_X12_countWith D (fun r_431 S_432 => 
    wp_X12_thrown D (fun r_433 S_434 => 
    ((r_433 = r_426 → ((¬ r_426 = 0 → wp_L_law_2177 D post (wp_L_law_28 D post n) (bc - 2) (bs - 12) S_434 a0 a1 a2 a3 a4 x5) ∧
     (r_426 = 0 → vp_in (0 : Int32) (sN S_434 a3) ∧
    (((lg_cmp (sJ S_434 a3 ((0 : Int32)).toNatClampNeg) (Int32.toInt64 r_431)) = 0 → wp_L_law_2177 D post (wp_L_law_28 D post n) (bc - 2) (bs - 12) S_434 a0 a1 a2 a3 a4 x5) ∧
     (¬ (lg_cmp (sJ S_434 a3 ((0 : Int32)).toNatClampNeg) (Int32.toInt64 r_431)) = 0 → post (0 : Int32) S_434))))) ∧
     (¬ r_433 = r_426 → post (0 : Int32) S_434))) S_432 a2) S_427 a2 (sI S_427 a0 ((x5 + (1 : Int32))).toNatClampNeg) (sI S_427 a0 ((x5 + (2 : Int32))).toNatClampNeg)) S a1 (sI S a0 ((x5 + (1 : Int32))).toNatClampNeg) (sI S a0 ((x5 + (2 : Int32))).toNatClampNeg) a3) ∧
     ((x_3 = 39 → vp_in (x5 + (1 : Int32)) (sN S a0) ∧
    vp_in (x5 + (2 : Int32)) (sN S a0) ∧
    vp_in (x5 + (3 : Int32)) (sN S a0) ∧
    2 ≤ bc ∧ 12 ≤ bs ∧
    wp_L_countYears D (fun r_443 S_444 => 
    vp_in (x5 + (1 : Int32)) (sN S_444 a0) ∧
    vp_in (x5 + (2 : Int32)) (sN S_444 a0) ∧
    vp_in (x5 + (3 : Int32)) (sN S_444 a0) ∧
    wp_X12_countYears D (fun r_449 S_450 => 
    wp_X12_thrown D (fun r_451 S_452 => 
    ((r_451 = r_443 → ((¬ r_443 = 0 → wp_L_law_2257 D post (wp_L_law_28 D post n) (bc - 2) (bs - 12) S_452 a0 a1 a2 a3 a4 x5) ∧
     (r_443 = 0 → vp_in (0 : Int32) (sN S_452 a3) ∧
    (((lg_cmp (sJ S_452 a3 ((0 : Int32)).toNatClampNeg) (Int32.toInt64 r_449)) = 0 → wp_L_law_2257 D post (wp_L_law_28 D post n) (bc - 2) (bs - 12) S_452 a0 a1 a2 a3 a4 x5) ∧
     (¬ (lg_cmp (sJ S_452 a3 ((0 : Int32)).toNatClampNeg) (Int32.toInt64 r_449)) = 0 → post (0 : Int32) S_452))))) ∧
     (¬ r_451 = r_443 → post (0 : Int32) S_452))) S_450 a2) S_444 a2 (sI S_444 a0 ((x5 + (1 : Int32))).toNatClampNeg) (sI S_444 a0 ((x5 + (2 : Int32))).toNatClampNeg) (sI S_444 a0 ((x5 + (3 : Int32))).toNatClampNeg)) S a1 (sI S a0 ((x5 + (1 : Int32))).toNatClampNeg) (sI S a0 ((x5 + (2 : Int32))).toNatClampNeg) (sI S a0 ((x5 + (3 : Int32))).toNatClampNeg) a3) ∧
     ((x_3 = 40 → vp_in (x5 + (1 : Int32)) (sN S a0) ∧
    vp_in (x5 + (2 : Int32)) (sN S a0) ∧
    (((sI S a0 ((x5 + (2 : Int32))).toNatClampNeg) = 0 → wp_L_law_2281 D post (wp_L_law_28 D post n) bc bs S a0 a1 a2 a3 a4 x5 a1 (sI S a0 ((x5 + (1 : Int32))).toNatClampNeg) (0 : Int32)) ∧
     (¬ (sI S a0 ((x5 + (2 : Int32))).toNatClampNeg) = 0 → wp_L_law_2281 D post (wp_L_law_28 D post n) bc bs S a0 a1 a2 a3 a4 x5 a1 (sI S a0 ((x5 + (1 : Int32))).toNatClampNeg) (1 : Int32)))) ∧
     ((x_3 = 41 → vp_in (x5 + (1 : Int32)) (sN S a0) ∧
    2 ≤ bc ∧ 12 ≤ bs ∧
    wp_L_continuations D (fun r_463 S_464 => 
    vp_in (x5 + (1 : Int32)) (sN S_464 a0) ∧
    wp_X12_continuations D (fun r_467 S_468 => 
    wp_X12_thrown D (fun r_469 S_470 => 
    ((r_469 = r_463 → ((¬ r_463 = 0 → wp_L_law_2397 D post (wp_L_law_28 D post n) (bc - 2) (bs - 12) S_470 a0 a1 a2 a3 a4 x5) ∧
     (r_463 = 0 → vp_in (0 : Int32) (sN S_470 a3) ∧
    (((lg_cmp (sJ S_470 a3 ((0 : Int32)).toNatClampNeg) (Int32.toInt64 r_467)) = 0 → wp_L_law_2397 D post (wp_L_law_28 D post n) (bc - 2) (bs - 12) S_470 a0 a1 a2 a3 a4 x5) ∧
     (¬ (lg_cmp (sJ S_470 a3 ((0 : Int32)).toNatClampNeg) (Int32.toInt64 r_467)) = 0 → post (0 : Int32) S_470))))) ∧
     (¬ r_469 = r_463 → post (0 : Int32) S_470))) S_468 a2) S_464 a2 (sI S_464 a0 ((x5 + (1 : Int32))).toNatClampNeg)) S a1 (sI S a0 ((x5 + (1 : Int32))).toNatClampNeg) a3) ∧
     ((x_3 = 42 → vp_in (x5 + (1 : Int32)) (sN S a0) ∧
    vp_in (x5 + (2 : Int32)) (sN S a0) ∧
    3 ≤ bc ∧ 18 ≤ bs ∧
    wp_L_continuationAt D (fun r_478 S_479 => 
    vp_in (x5 + (1 : Int32)) (sN S_479 a0) ∧
    vp_in (x5 + (2 : Int32)) (sN S_479 a0) ∧
    wp_X12_continuationAt D (fun r_483 S_484 => 
    wp_X12_thrown D (fun r_485 S_486 => 
    ((r_485 = r_478 → ((¬ r_478 = 0 → wp_L_law_2465 D post (wp_L_law_28 D post n) (bc - 3) (bs - 18) S_486 a0 a1 a2 a3 a4 x5) ∧
     (r_478 = 0 → vp_in (0 : Int32) (sN S_486 a3) ∧
    (((lg_cmp (sJ S_486 a3 ((0 : Int32)).toNatClampNeg) (Int32.toInt64 r_483)) = 0 → wp_L_law_2465 D post (wp_L_law_28 D post n) (bc - 3) (bs - 18) S_486 a0 a1 a2 a3 a4 x5) ∧
     (¬ (lg_cmp (sJ S_486 a3 ((0 : Int32)).toNatClampNeg) (Int32.toInt64 r_483)) = 0 → post (0 : Int32) S_486))))) ∧
     (¬ r_485 = r_478 → post (0 : Int32) S_486))) S_484 a2) S_479 a2 (sI S_479 a0 ((x5 + (1 : Int32))).toNatClampNeg) (sI S_479 a0 ((x5 + (2 : Int32))).toNatClampNeg)) S a1 (sI S a0 ((x5 + (1 : Int32))).toNatClampNeg) (sI S a0 ((x5 + (2 : Int32))).toNatClampNeg) a3) ∧
     ((x_3 = 43 → vp_in (x5 + (1 : Int32)) (sN S a0) ∧
    vp_in (x5 + (2 : Int32)) (sN S a0) ∧
    3 ≤ bc ∧ 18 ≤ bs ∧
    wp_L_gamesOf D (fun r_494 S_495 => 
    vp_in (x5 + (1 : Int32)) (sN S_495 a0) ∧
    vp_in (x5 + (2 : Int32)) (sN S_495 a0) ∧
    wp_X12_gamesOf D (fun r_499 S_500 => 
    wp_X12_thrown D (fun r_501 S_502 => 
    ((r_501 = r_494 → ((¬ r_494 = 0 → wp_L_law_2533 D post (wp_L_law_28 D post n) (bc - 3) (bs - 18) S_502 a0 a1 a2 a3 a4 x5) ∧
     (r_494 = 0 → vp_in (0 : Int32) (sN S_502 a3) ∧
    (((lg_cmp (sJ S_502 a3 ((0 : Int32)).toNatClampNeg) (Int32.toInt64 r_499)) = 0 → wp_L_law_2533 D post (wp_L_law_28 D post n) (bc - 3) (bs - 18) S_502 a0 a1 a2 a3 a4 x5) ∧
     (¬ (lg_cmp (sJ S_502 a3 ((0 : Int32)).toNatClampNeg) (Int32.toInt64 r_499)) = 0 → post (0 : Int32) S_502))))) ∧
     (¬ r_501 = r_494 → post (0 : Int32) S_502))) S_500 a2) S_495 a2 (sI S_495 a0 ((x5 + (1 : Int32))).toNatClampNeg) (sI S_495 a0 ((x5 + (2 : Int32))).toNatClampNeg)) S a1 (sI S a0 ((x5 + (1 : Int32))).toNatClampNeg) (sI S a0 ((x5 + (2 : Int32))).toNatClampNeg) a3) ∧
     ((x_3 = 44 → vp_in (x5 + (1 : Int32)) (sN S a0) ∧
    vp_in (x5 + (2 : Int32)) (sN S a0) ∧
    2 ≤ bc ∧ 12 ≤ bs ∧
    wp_L_playMain D (fun r_510 S_511 => 
    vp_in (x5 + (1 : Int32)) (sN S_511 a0) ∧
    vp_in (x5 + (2 : Int32)) (sN S_511 a0) ∧
    wp_X12_playMain D (fun r_515 S_516 => 
    wp_X12_thrown D (fun r_517 S_518 => 
    ((r_517 = r_510 → ((¬ r_510 = 0 → wp_L_law_2601 D post (wp_L_law_28 D post n) (bc - 2) (bs - 12) S_518 a0 a1 a2 a3 a4 x5) ∧
     (r_510 = 0 → vp_in (0 : Int32) (sN S_518 a3) ∧
    (((lg_cmp (sJ S_518 a3 ((0 : Int32)).toNatClampNeg) (Int32.toInt64 r_515)) = 0 → wp_L_law_2601 D post (wp_L_law_28 D post n) (bc - 2) (bs - 12) S_518 a0 a1 a2 a3 a4 x5) ∧
     (¬ (lg_cmp (sJ S_518 a3 ((0 : Int32)).toNatClampNeg) (Int32.toInt64 r_515)) = 0 → post (0 : Int32) S_518))))) ∧
     (¬ r_517 = r_510 → post (0 : Int32) S_518))) S_516 a2) S_511 a2 (sI S_511 a0 ((x5 + (1 : Int32))).toNatClampNeg) (sI S_511 a0 ((x5 + (2 : Int32))).toNatClampNeg)) S a1 (sI S a0 ((x5 + (1 : Int32))).toNatClampNeg) (sI S a0 ((x5 + (2 : Int32))).toNatClampNeg) a3) ∧
     ((x_3 = 45 → vp_in (x5 + (1 : Int32)) (sN S a0) ∧
    vp_in (x5 + (2 : Int32)) (sN S a0) ∧
    2 ≤ bc ∧ 12 ≤ bs ∧
    wp_L_firstNew D (fun r_526 S_527 => 
    vp_in (x5 + (1 : Int32)) (sN S_527 a0) ∧
    vp_in (x5 + (2 : Int32)) (sN S_527 a0) ∧
    wp_X12_firstNew D (fun r_531 S_532 => 
    wp_X12_thrown D (fun r_533 S_534 => 
    ((r_533 = r_526 → ((¬ r_526 = 0 → wp_L_law_2669 D post (wp_L_law_28 D post n) (bc - 2) (bs - 12) S_534 a0 a1 a2 a3 a4 x5) ∧
     (r_526 = 0 → vp_in (0 : Int32) (sN S_534 a3) ∧
    (((lg_cmp (sJ S_534 a3 ((0 : Int32)).toNatClampNeg) (Int32.toInt64 r_531)) = 0 → wp_L_law_2669 D post (wp_L_law_28 D post n) (bc - 2) (bs - 12) S_534 a0 a1 a2 a3 a4 x5) ∧
     (¬ (lg_cmp (sJ S_534 a3 ((0 : Int32)).toNatClampNeg) (Int32.toInt64 r_531)) = 0 → post (0 : Int32) S_534))))) ∧
     (¬ r_533 = r_526 → post (0 : Int32) S_534))) S_532 a2) S_527 a2 (sI S_527 a0 ((x5 + (1 : Int32))).toNatClampNeg) (sI S_527 a0 ((x5 + (2 : Int32))).toNatClampNeg)) S a1 (sI S a0 ((x5 + (1 : Int32))).toNatClampNeg) (sI S a0 ((x5 + (2 : Int32))).toNatClampNeg) a3) ∧
     ((x_3 = 46 → ∃ m_542 z_543 : Nat, m_542 ≤ bc ∧ z_543 ≤ bs ∧
    wp_X11_merge D (fun r_540 S_541 => 
    wp_X12_merge D (fun r_544 S_545 => 
    ((r_540 = r_544 → wp_L_law_3394 D post (wp_L_law_28 D post n) (bc - m_542) (bs - z_543) S_545 a0 a1 a2 a3 a4 x5) ∧
     (¬ r_540 = r_544 → post (0 : Int32) S_545))) S_541 a2) m_542 z_543 S a1) ∧
     ((x_3 = 47 → vp_in (x5 + (1 : Int32)) (sN S a0) ∧
    vp_in (x5 + (2 : Int32)) (sN S a0) ∧
    2 ≤ bc ∧ 12 ≤ bs ∧
    wp_L_ask D (fun r_550 S_551 => 
    vp_in (x5 + (1 : Int32)) (sN S_551 a0) ∧
    vp_in (x5 + (2 : Int32)) (sN S_551 a0) ∧
    wp_X12_ask D (fun r_555 S_556 => 
    wp_X12_thrown D (fun r_557 S_558 => 
    ((r_557 = r_550 → ((¬ r_550 = 0 → wp_L_law_2750 D post (wp_L_law_28 D post n) (bc - 2) (bs - 12) S_558 a0 a1 a2 a3 a4 x5) ∧
     (r_550 = 0 → vp_in (0 : Int32) (sN S_558 a3) ∧
    (((lg_cmp (sJ S_558 a3 ((0 : Int32)).toNatClampNeg) (Int32.toInt64 r_555)) = 0 → wp_L_law_2750 D post (wp_L_law_28 D post n) (bc - 2) (bs - 12) S_558 a0 a1 a2 a3 a4 x5) ∧
     (¬ (lg_cmp (sJ S_558 a3 ((0 : Int32)).toNatClampNeg) (Int32.toInt64 r_555)) = 0 → post (0 : Int32) S_558))))) ∧
     (¬ r_557 = r_550 → post (0 : Int32) S_558))) S_556 a2) S_551 a2 (sI S_551 a0 ((x5 + (1 : Int32))).toNatClampNeg) (sI S_551 a0 ((x5 + (2 : Int32))).toNatClampNeg)) S a1 (sI S a0 ((x5 + (1 : Int32))).toNatClampNeg) (sI S a0 ((x5 + (2 : Int32))).toNatClampNeg) a3) ∧
     ((x_3 = 48 → wp_X11_holds D (fun r_564 S_565 => 
    wp_X12_holds D (fun r_566 S_567 => 
    ((r_564 = r_566 → wp_L_law_3394 D post (wp_L_law_28 D post n) bc bs S_567 a0 a1 a2 a3 a4 x5) ∧
     (¬ r_564 = r_566 → post (0 : Int32) S_567))) S_565 a2) S a1) ∧
     ((x_3 = 49 → vp_in (x5 + (1 : Int32)) (sN S a0) ∧
    1 ≤ bc ∧ 6 ≤ bs ∧
    wp_L_patternCount D (fun r_571 S_572 => 
    vp_in (x5 + (1 : Int32)) (sN S_572 a0) ∧
    wp_X12_patternCount D (fun r_575 S_576 => 
    wp_X12_thrown D (fun r_577 S_578 => 
    ((r_577 = r_571 → ((¬ r_571 = 0 → wp_L_law_2819 D post (wp_L_law_28 D post n) (bc - 1) (bs - 6) S_578 a0 a1 a2 a3 a4 x5) ∧
     (r_571 = 0 → vp_in (0 : Int32) (sN S_578 a3) ∧
    (((lg_cmp (sJ S_578 a3 ((0 : Int32)).toNatClampNeg) (Int32.toInt64 r_575)) = 0 → wp_L_law_2819 D post (wp_L_law_28 D post n) (bc - 1) (bs - 6) S_578 a0 a1 a2 a3 a4 x5) ∧
     (¬ (lg_cmp (sJ S_578 a3 ((0 : Int32)).toNatClampNeg) (Int32.toInt64 r_575)) = 0 → post (0 : Int32) S_578))))) ∧
     (¬ r_577 = r_571 → post (0 : Int32) S_578))) S_576 a2) S_572 a2 (sI S_572 a0 ((x5 + (1 : Int32))).toNatClampNeg)) S a1 (sI S a0 ((x5 + (1 : Int32))).toNatClampNeg) a3) ∧
     ((x_3 = 50 → 1 ≤ bc ∧ 6 ≤ bs ∧
    wp_L_forcesMate D (fun r_584 S_585 => 
    wp_X12_forcesMate D (fun r_587 S_588 => 
    wp_X12_thrown D (fun r_589 S_590 => 
    ((r_589 = r_584 → ((¬ r_584 = 0 → wp_L_law_2863 D post (wp_L_law_28 D post n) (bc - 1) (bs - 6) S_590 a0 a1 a2 a3 a4 x5) ∧
     (r_584 = 0 → vp_in (0 : Int32) (sN S_590 a3) ∧
    (((lg_cmp (sJ S_590 a3 ((0 : Int32)).toNatClampNeg) (Int32.toInt64 r_587)) = 0 → wp_L_law_2863 D post (wp_L_law_28 D post n) (bc - 1) (bs - 6) S_590 a0 a1 a2 a3 a4 x5) ∧
     (¬ (lg_cmp (sJ S_590 a3 ((0 : Int32)).toNatClampNeg) (Int32.toInt64 r_587)) = 0 → post (0 : Int32) S_590))))) ∧
     (¬ r_589 = r_584 → post (0 : Int32) S_590))) S_588 a2) S_585 a2) S a1 a3) ∧
     ((x_3 = 51 → 1 ≤ bc ∧ 6 ≤ bs ∧
    wp_L_keyCount D (fun r_596 S_597 => 
    wp_X12_keyCount D (fun r_599 S_600 => 
    wp_X12_thrown D (fun r_601 S_602 => 
    ((r_601 = r_596 → ((¬ r_596 = 0 → wp_L_law_2907 D post (wp_L_law_28 D post n) (bc - 1) (bs - 6) S_602 a0 a1 a2 a3 a4 x5) ∧
     (r_596 = 0 → vp_in (0 : Int32) (sN S_602 a3) ∧
    (((lg_cmp (sJ S_602 a3 ((0 : Int32)).toNatClampNeg) (Int32.toInt64 r_599)) = 0 → wp_L_law_2907 D post (wp_L_law_28 D post n) (bc - 1) (bs - 6) S_602 a0 a1 a2 a3 a4 x5) ∧
     (¬ (lg_cmp (sJ S_602 a3 ((0 : Int32)).toNatClampNeg) (Int32.toInt64 r_599)) = 0 → post (0 : Int32) S_602))))) ∧
     (¬ r_601 = r_596 → post (0 : Int32) S_602))) S_600 a2) S_597 a2) S a1 a3) ∧
     ((x_3 = 52 → 2 ≤ bc ∧ 12 ≤ bs ∧
    wp_L_firstKey D (fun r_608 S_609 => 
    wp_X12_firstKey D (fun r_611 S_612 => 
    wp_X12_thrown D (fun r_613 S_614 => 
    ((r_613 = r_608 → ((¬ r_608 = 0 → wp_L_law_2951 D post (wp_L_law_28 D post n) (bc - 2) (bs - 12) S_614 a0 a1 a2 a3 a4 x5) ∧
     (r_608 = 0 → vp_in (0 : Int32) (sN S_614 a3) ∧
    (((lg_cmp (sJ S_614 a3 ((0 : Int32)).toNatClampNeg) (Int32.toInt64 r_611)) = 0 → wp_L_law_2951 D post (wp_L_law_28 D post n) (bc - 2) (bs - 12) S_614 a0 a1 a2 a3 a4 x5) ∧
     (¬ (lg_cmp (sJ S_614 a3 ((0 : Int32)).toNatClampNeg) (Int32.toInt64 r_611)) = 0 → post (0 : Int32) S_614))))) ∧
     (¬ r_613 = r_608 → post (0 : Int32) S_614))) S_612 a2) S_609 a2) S a1 a3) ∧
     ((x_3 = 53 → vp_in (x5 + (1 : Int32)) (sN S a0) ∧
    ∃ m_623 z_624 : Nat, m_623 ≤ bc ∧ z_624 ≤ bs ∧
    wp_L_solve D (fun r_621 S_622 => 
    vp_in (x5 + (1 : Int32)) (sN S_622 a0) ∧
    wp_X12_solve D (fun r_626 S_627 => 
    wp_X12_thrown D (fun r_628 S_629 => 
    ((r_628 = r_621 → ((¬ r_621 = 0 → wp_L_law_3007 D post (wp_L_law_28 D post n) (bc - m_623) (bs - z_624) S_629 a0 a1 a2 a3 a4 x5) ∧
     (r_621 = 0 → vp_in (0 : Int32) (sN S_629 a3) ∧
    (((lg_cmp (sJ S_629 a3 ((0 : Int32)).toNatClampNeg) (Int32.toInt64 r_626)) = 0 → wp_L_law_3007 D post (wp_L_law_28 D post n) (bc - m_623) (bs - z_624) S_629 a0 a1 a2 a3 a4 x5) ∧
     (¬ (lg_cmp (sJ S_629 a3 ((0 : Int32)).toNatClampNeg) (Int32.toInt64 r_626)) = 0 → post (0 : Int32) S_629))))) ∧
     (¬ r_628 = r_621 → post (0 : Int32) S_629))) S_627 a2) S_622 a2 (sI S_622 a0 ((x5 + (1 : Int32))).toNatClampNeg)) m_623 z_624 S a1 (sI S a0 ((x5 + (1 : Int32))).toNatClampNeg) a3) ∧
     ((x_3 = 54 → 1 ≤ bc ∧ 6 ≤ bs ∧
    wp_L_endingValue D (fun r_635 S_636 => 
    wp_X12_endingValue D (fun r_638 S_639 => 
    wp_X12_thrown D (fun r_640 S_641 => 
    ((r_640 = r_635 → ((¬ r_635 = 0 → wp_L_law_3051 D post (wp_L_law_28 D post n) (bc - 1) (bs - 6) S_641 a0 a1 a2 a3 a4 x5) ∧
     (r_635 = 0 → vp_in (0 : Int32) (sN S_641 a3) ∧
    (((lg_cmp (sJ S_641 a3 ((0 : Int32)).toNatClampNeg) (Int32.toInt64 r_638)) = 0 → wp_L_law_3051 D post (wp_L_law_28 D post n) (bc - 1) (bs - 6) S_641 a0 a1 a2 a3 a4 x5) ∧
     (¬ (lg_cmp (sJ S_641 a3 ((0 : Int32)).toNatClampNeg) (Int32.toInt64 r_638)) = 0 → post (0 : Int32) S_641))))) ∧
     (¬ r_640 = r_635 → post (0 : Int32) S_641))) S_639 a2) S_636 a2) S a1 a3) ∧
     ((x_3 = 55 → vp_in (x5 + (1 : Int32)) (sN S a0) ∧
    2 ≤ bc ∧ 12 ≤ bs ∧
    wp_L_longest D (fun r_648 S_649 => 
    vp_in (x5 + (1 : Int32)) (sN S_649 a0) ∧
    wp_X12_longest D (fun r_652 S_653 => 
    wp_X12_thrown D (fun r_654 S_655 => 
    ((r_654 = r_648 → ((¬ r_648 = 0 → wp_L_law_3107 D post (wp_L_law_28 D post n) (bc - 2) (bs - 12) S_655 a0 a1 a2 a3 a4 x5) ∧
     (r_648 = 0 → vp_in (0 : Int32) (sN S_655 a3) ∧
    (((lg_cmp (sJ S_655 a3 ((0 : Int32)).toNatClampNeg) (Int32.toInt64 r_652)) = 0 → wp_L_law_3107 D post (wp_L_law_28 D post n) (bc - 2) (bs - 12) S_655 a0 a1 a2 a3 a4 x5) ∧
     (¬ (lg_cmp (sJ S_655 a3 ((0 : Int32)).toNatClampNeg) (Int32.toInt64 r_652)) = 0 → post (0 : Int32) S_655))))) ∧
     (¬ r_654 = r_648 → post (0 : Int32) S_655))) S_653 a2) S_649 a2 (sI S_649 a0 ((x5 + (1 : Int32))).toNatClampNeg)) S a1 (sI S a0 ((x5 + (1 : Int32))).toNatClampNeg) a3) ∧
     ((x_3 = 56 → 1 ≤ bc ∧ 6 ≤ bs ∧
    wp_L_asked D (fun r_661 S_662 => 
    wp_X12_asked D (fun r_664 S_665 => 
    wp_X12_thrown D (fun r_666 S_667 => 
    ((r_666 = r_661 → ((¬ r_661 = 0 → wp_L_law_3151 D post (wp_L_law_28 D post n) (bc - 1) (bs - 6) S_667 a0 a1 a2 a3 a4 x5) ∧
     (r_661 = 0 → vp_in (0 : Int32) (sN S_667 a3) ∧
    (((lg_cmp (sJ S_667 a3 ((0 : Int32)).toNatClampNeg) (Int32.toInt64 r_664)) = 0 → wp_L_law_3151 D post (wp_L_law_28 D post n) (bc - 1) (bs - 6) S_667 a0 a1 a2 a3 a4 x5) ∧
     (¬ (lg_cmp (sJ S_667 a3 ((0 : Int32)).toNatClampNeg) (Int32.toInt64 r_664)) = 0 → post (0 : Int32) S_667))))) ∧
     (¬ r_666 = r_661 → post (0 : Int32) S_667))) S_665 a2) S_662 a2) S a1 a3) ∧
     ((x_3 = 57 → vp_in (x5 + (1 : Int32)) (sN S a0) ∧
    (((sI S a0 ((x5 + (1 : Int32))).toNatClampNeg) = 0 → wp_L_law_3169 D post (wp_L_law_28 D post n) bc bs S a0 a1 a2 a3 a4 x5 a1 (0 : Int32)) ∧
     (¬ (sI S a0 ((x5 + (1 : Int32))).toNatClampNeg) = 0 → wp_L_law_3169 D post (wp_L_law_28 D post n) bc bs S a0 a1 a2 a3 a4 x5 a1 (1 : Int32)))) ∧
     ((x_3 = 58 → vp_in (x5 + (1 : Int32)) (sN S a0) ∧
    1 ≤ bc ∧ 6 ≤ bs ∧
    wp_L_meanLength D (fun r_677 S_678 => 
    vp_in (x5 + (1 : Int32)) (sN S_678 a0) ∧
    wp_X12_meanLength D (fun r_681 S_682 => 
    wp_X12_thrown D (fun r_683 S_684 => 
    ((r_683 = r_677 → ((¬ r_677 = 0 → wp_L_law_3300 D post (wp_L_law_28 D post n) (bc - 1) (bs - 6) S_684 a0 a1 a2 a3 a4 x5) ∧
     (r_677 = 0 → vp_in (0 : Int32) (sN S_684 a4) ∧
    (((Op.cmpValue (FP.dcmp ((sJ S_684 a4 ((0 : Int32)).toNatClampNeg).toUInt64) r_681) .l) = 0 → wp_L_law_3300 D post (wp_L_law_28 D post n) (bc - 1) (bs - 6) S_684 a0 a1 a2 a3 a4 x5) ∧
     (¬ (Op.cmpValue (FP.dcmp ((sJ S_684 a4 ((0 : Int32)).toNatClampNeg).toUInt64) r_681) .l) = 0 → vp_in (0 : Int32) (sN S_684 a4) ∧
    vp_in (0 : Int32) (sN S_684 a4) ∧
    (((Op.cmpValue (FP.dcmp ((sJ S_684 a4 ((0 : Int32)).toNatClampNeg).toUInt64) ((sJ S_684 a4 ((0 : Int32)).toNatClampNeg).toUInt64)) .l) = 0 → wp_L_law_3298 D post (bc - 1) (bs - 6) S_684) ∧
     (¬ (Op.cmpValue (FP.dcmp ((sJ S_684 a4 ((0 : Int32)).toNatClampNeg).toUInt64) ((sJ S_684 a4 ((0 : Int32)).toNatClampNeg).toUInt64)) .l) = 0 → ((¬ (Op.cmpValue (FP.dcmp r_681 r_681) .l) = 0 → wp_L_law_3300 D post (wp_L_law_28 D post n) (bc - 1) (bs - 6) S_684 a0 a1 a2 a3 a4 x5) ∧
     ((Op.cmpValue (FP.dcmp r_681 r_681) .l) = 0 → wp_L_law_3298 D post (bc - 1) (bs - 6) S_684))))))))) ∧
     (¬ r_683 = r_677 → post (0 : Int32) S_684))) S_682 a2) S_678 a2 (sI S_678 a0 ((x5 + (1 : Int32))).toNatClampNeg)) S a1 (sI S a0 ((x5 + (1 : Int32))).toNatClampNeg) a4) ∧
     ((x_3 = 59 → vp_in (x5 + (1 : Int32)) (sN S a0) ∧
    1 ≤ bc ∧ 6 ≤ bs ∧
    wp_L_shareWon D (fun r_695 S_696 => 
    vp_in (x5 + (1 : Int32)) (sN S_696 a0) ∧
    wp_X12_shareWon D (fun r_699 S_700 => 
    wp_X12_thrown D (fun r_701 S_702 => 
    ((r_701 = r_695 → ((¬ r_695 = 0 → wp_L_law_3378 D post (wp_L_law_28 D post n) (bc - 1) (bs - 6) S_702 a0 a1 a2 a3 a4 x5) ∧
     (r_695 = 0 → vp_in (0 : Int32) (sN S_702 a4) ∧
    vf_n64 (FP.f2d r_699) ∧
    (((Op.cmpValue (FP.dcmp ((sJ S_702 a4 ((0 : Int32)).toNatClampNeg).toUInt64) (FP.f2d r_699)) .l) = 0 → wp_L_law_3378 D post (wp_L_law_28 D post n) (bc - 1) (bs - 6) S_702 a0 a1 a2 a3 a4 x5) ∧
     (¬ (Op.cmpValue (FP.dcmp ((sJ S_702 a4 ((0 : Int32)).toNatClampNeg).toUInt64) (FP.f2d r_699)) .l) = 0 → vp_in (0 : Int32) (sN S_702 a4) ∧
    vp_in (0 : Int32) (sN S_702 a4) ∧
    (((Op.cmpValue (FP.dcmp ((sJ S_702 a4 ((0 : Int32)).toNatClampNeg).toUInt64) ((sJ S_702 a4 ((0 : Int32)).toNatClampNeg).toUInt64)) .l) = 0 → wp_L_law_3376 D post (bc - 1) (bs - 6) S_702) ∧
     (¬ (Op.cmpValue (FP.dcmp ((sJ S_702 a4 ((0 : Int32)).toNatClampNeg).toUInt64) ((sJ S_702 a4 ((0 : Int32)).toNatClampNeg).toUInt64)) .l) = 0 → ((¬ (Op.cmpValue (FP.fcmp r_699 r_699) .l) = 0 → wp_L_law_3378 D post (wp_L_law_28 D post n) (bc - 1) (bs - 6) S_702 a0 a1 a2 a3 a4 x5) ∧
     ((Op.cmpValue (FP.fcmp r_699 r_699) .l) = 0 → wp_L_law_3376 D post (bc - 1) (bs - 6) S_702))))))))) ∧
     (¬ r_701 = r_695 → post (0 : Int32) S_702))) S_700 a2) S_696 a2 (sI S_696 a0 ((x5 + (1 : Int32))).toNatClampNeg)) S a1 (sI S a0 ((x5 + (1 : Int32))).toNatClampNeg) a4) ∧
     ((x_3 = 60 → wp_X11_errors D (fun r_713 S_714 => 
    wp_X12_errors D (fun r_715 S_716 => 
    ((r_713 = r_715 → wp_L_law_3394 D post (wp_L_law_28 D post n) bc bs S_716 a0 a1 a2 a3 a4 x5) ∧
     (¬ r_713 = r_715 → post (0 : Int32) S_716))) S_714 a2) S a1) ∧
     (¬ x_3 = 0 → ¬ x_3 = 1 → ¬ x_3 = 2 → ¬ x_3 = 3 → ¬ x_3 = 4 → ¬ x_3 = 5 → ¬ x_3 = 6 → ¬ x_3 = 7 → ¬ x_3 = 8 → ¬ x_3 = 9 → ¬ x_3 = 10 → ¬ x_3 = 11 → ¬ x_3 = 12 → ¬ x_3 = 13 → ¬ x_3 = 14 → ¬ x_3 = 15 → ¬ x_3 = 16 → ¬ x_3 = 17 → ¬ x_3 = 18 → ¬ x_3 = 19 → ¬ x_3 = 20 → ¬ x_3 = 21 → ¬ x_3 = 22 → ¬ x_3 = 23 → ¬ x_3 = 24 → ¬ x_3 = 25 → ¬ x_3 = 26 → ¬ x_3 = 27 → ¬ x_3 = 28 → ¬ x_3 = 29 → ¬ x_3 = 30 → ¬ x_3 = 31 → ¬ x_3 = 32 → ¬ x_3 = 33 → ¬ x_3 = 34 → ¬ x_3 = 35 → ¬ x_3 = 36 → ¬ x_3 = 37 → ¬ x_3 = 38 → ¬ x_3 = 39 → ¬ x_3 = 40 → ¬ x_3 = 41 → ¬ x_3 = 42 → ¬ x_3 = 43 → ¬ x_3 = 44 → ¬ x_3 = 45 → ¬ x_3 = 46 → ¬ x_3 = 47 → ¬ x_3 = 48 → ¬ x_3 = 49 → ¬ x_3 = 50 → ¬ x_3 = 51 → ¬ x_3 = 52 → ¬ x_3 = 53 → ¬ x_3 = 54 → ¬ x_3 = 55 → ¬ x_3 = 56 → ¬ x_3 = 57 → ¬ x_3 = 58 → ¬ x_3 = 59 → ¬ x_3 = 60 → wp_L_law_3394 D post (wp_L_law_28 D post n) bc bs S a0 a1 a2 a3 a4 x5))))))))))))))))))))))))))))))))))))))))))))))))))))))))))))))))
def wp_L_law_0 (D : wD) (post : Int32 → wS → Prop)  (bc bs : Nat) (S : wS) (a0 : Nat) : Prop :=
1 ≤ bc ∧ 18 ≤ bs ∧
∀ y_1 : Nat, ¬ wM D S y_1 → ∀ S_2 : wS, S_2 = nA S y_1 16 0 →
∃ m_6 z_7 : Nat, m_6 ≤ (bc - 1) ∧ z_7 ≤ (bs - 18) ∧
wp_X11_init D (fun S_5 => 
1 ≤ ((bc - 1) - m_6) ∧ 43 ≤ ((bs - 18) - z_7) ∧
∀ y_8 : Nat, ¬ wM D S_5 y_8 → ∀ S_9 : wS, S_9 = nA S_5 y_8 17 0 →
29 ≤ (((bc - 1) - m_6) - 1) ∧ 586881 ≤ (((bs - 18) - z_7) - 43) ∧
wp_X12_init D (fun S_12 => 
¬ (1 : Int32) < 0 ∧ ((1 : Int32)).toNatClampNeg ≤ 1000000 ∧ 1 ≤ ((((bc - 1) - m_6) - 1) - 29) ∧ ((1 : Int32)).toNatClampNeg ≤ ((((bs - 18) - z_7) - 43) - 586881) ∧ ∀ y_14 : Nat, ¬ wM D S_12 y_14 → ∀ S_15 : wS, S_15 = nA S_12 y_14 22 ((1 : Int32)).toNatClampNeg →
¬ (1 : Int32) < 0 ∧ ((1 : Int32)).toNatClampNeg ≤ 1000000 ∧ 1 ≤ (((((bc - 1) - m_6) - 1) - 29) - 1) ∧ ((1 : Int32)).toNatClampNeg ≤ (((((bs - 18) - z_7) - 43) - 586881) - ((1 : Int32)).toNatClampNeg) ∧ ∀ y_17 : Nat, ¬ wM D S_15 y_17 → ∀ S_18 : wS, S_18 = nA S_15 y_17 25 ((1 : Int32)).toNatClampNeg →
∃ n_20 : Nat, wp_L_law_28 D post n_20 ((((((bc - 1) - m_6) - 1) - 29) - 1) - 1) ((((((bs - 18) - z_7) - 43) - 586881) - ((1 : Int32)).toNatClampNeg) - ((1 : Int32)).toNatClampNeg) S_18 a0 y_1 y_8 y_14 y_17 (0 : Int32)) S_9 y_8) m_6 z_7 S_2 y_1
set_option maxHeartbeats 4000000 in
set_option maxRecDepth 100000 in
theorem t_L_law_3394 {p : Program} {l : Launch} {e : Env} {s : State} {m : MethodId} {args : Array Value} {below : List Frame} {meth : Method} {c : Code} {D : wD} {cy : Nat → ClassId} {X : va_W} {A : Nat → Prop} {S0 : wS} {rC rS : Nat} {post : Int32 → wS → Prop} (F : CallFix p m c cL_law 9 s args wz_L_law RL) (hr : meth.sig.returnType = (some .boolean)) (hlocks : meth.locks = false) (hK : wK D cy A s) (hl0 : l.stackTraces = false) {Q : State → Prop} (hQ : ∀ {pc : Nat} {H : Heap} {locs : List Loc} {ls : Array Slot} {S : wS} {r : Int32}, post r S → decode cL_law pc = .ok (.ireturn, 1) → wO D cy X A s.heap S H locs → W p l e (r_L_law rC rS) s m args below meth c H locs rC rS Q (F0 m pc ls [.int r])) {k_28 : Nat → Nat → wS → Nat → Nat → Nat → Nat → Nat → Int32 → Prop} (q_28 : ∀ {bc bs cells slots : Nat} (hbc : cells + bc ≤ rC) (hbs : slots + bs ≤ rS) {S : wS} {H : Heap} {locs : List Loc} {ls : Array Slot} {a0 : Nat} {a1 : Nat} {a2 : Nat} {a3 : Nat} {a4 : Nat} {x5 : Int32}, k_28 bc bs S a0 a1 a2 a3 a4 x5 → wO D cy X A s.heap S H locs → wX D S0 S → lv_has ls 9 [(0, .ref a0), (1, .ref a1), (2, .ref a2), (3, .ref a3), (4, .ref a4), (5, .int x5)] → wM D S a0 → sK S a0 = 21 → wM D S a1 → sK S a1 = 16 → wM D S a2 → sK S a2 = 17 → wM D S a3 → sK S a3 = 22 → wM D S a4 → sK S a4 = 25 → W p l e (r_L_law rC rS) s m args below meth c H locs cells slots Q (F0 m 28 ls [])) : ∀ {bc bs cells slots : Nat} (hbc : cells + bc ≤ rC) (hbs : slots + bs ≤ rS) {S : wS} {H : Heap} {locs : List Loc} {ls : Array Slot} {a0 : Nat} {a1 : Nat} {a2 : Nat} {a3 : Nat} {a4 : Nat} {x5 : Int32}, wp_L_law_3394 D post k_28 bc bs S a0 a1 a2 a3 a4 x5 → wO D cy X A s.heap S H locs → wX D S0 S → lv_has ls 9 [(0, .ref a0), (1, .ref a1), (2, .ref a2), (3, .ref a3), (4, .ref a4), (5, .int x5)] → wM D S a0 → sK S a0 = 21 → wM D S a1 → sK S a1 = 16 → wM D S a2 → sK S a2 = 17 → wM D S a3 → sK S a3 = 22 → wM D S a4 → sK S a4 = 25 → W p l e (r_L_law rC rS) s m args below meth c H locs cells slots Q (F0 m 3394 ls []) := by
  obtain ⟨hx, hb, hml, hown, hts⟩ := id F
  have hwg : ∀ w ∈ WG, w.before args s = true := fun w h => hts w (List.mem_cons_of_mem _ h)
  intro bc bs cells slots hbc hbs S H locs ls a0 a1 a2 a3 a4 x5 hp hW hE hl hL_a0 hK_a0 hL_a1 hK_a1 hL_a2 hK_a2 hL_a3 hK_a3 hL_a4 hK_a4
  unfold wp_L_law_3394 at hp
  obtain ⟨x_1, ex_1⟩ : ∃ z : Int32, z = x5 + 5 := ⟨_, rfl⟩
  replace hp := hp x_1 ex_1
  refine lv_iinc (v := x_1) (lv' := [(5, .int x_1), (0, .ref a0), (1, .ref a1), (2, .ref a2), (3, .ref a3), (4, .ref a4)]) hx hb dL_law_3394 hl (k := 5) rfl (by rw [ex_1]; rfl) (by decide) rfl (fun ls hl => ?_)
  refine lv_goto (tgt := 28) hx hb dL_law_3397 (by decide) ?_
  exact q_28 hbc hbs hp hW hE (lv_sub hl [1, 2, 3, 4, 5, 0] rfl) hL_a0 hK_a0 hL_a1 hK_a1 hL_a2 hK_a2 hL_a3 hK_a3 hL_a4 hK_a4
set_option maxHeartbeats 4000000 in
set_option maxRecDepth 100000 in
theorem t_L_law_3378 {p : Program} {l : Launch} {e : Env} {s : State} {m : MethodId} {args : Array Value} {below : List Frame} {meth : Method} {c : Code} {D : wD} {cy : Nat → ClassId} {X : va_W} {A : Nat → Prop} {S0 : wS} {rC rS : Nat} {post : Int32 → wS → Prop} (F : CallFix p m c cL_law 9 s args wz_L_law RL) (hr : meth.sig.returnType = (some .boolean)) (hlocks : meth.locks = false) (hK : wK D cy A s) (hl0 : l.stackTraces = false) {Q : State → Prop} (hQ : ∀ {pc : Nat} {H : Heap} {locs : List Loc} {ls : Array Slot} {S : wS} {r : Int32}, post r S → decode cL_law pc = .ok (.ireturn, 1) → wO D cy X A s.heap S H locs → W p l e (r_L_law rC rS) s m args below meth c H locs rC rS Q (F0 m pc ls [.int r])) {k_28 : Nat → Nat → wS → Nat → Nat → Nat → Nat → Nat → Int32 → Prop} (q_28 : ∀ {bc bs cells slots : Nat} (hbc : cells + bc ≤ rC) (hbs : slots + bs ≤ rS) {S : wS} {H : Heap} {locs : List Loc} {ls : Array Slot} {a0 : Nat} {a1 : Nat} {a2 : Nat} {a3 : Nat} {a4 : Nat} {x5 : Int32}, k_28 bc bs S a0 a1 a2 a3 a4 x5 → wO D cy X A s.heap S H locs → wX D S0 S → lv_has ls 9 [(0, .ref a0), (1, .ref a1), (2, .ref a2), (3, .ref a3), (4, .ref a4), (5, .int x5)] → wM D S a0 → sK S a0 = 21 → wM D S a1 → sK S a1 = 16 → wM D S a2 → sK S a2 = 17 → wM D S a3 → sK S a3 = 22 → wM D S a4 → sK S a4 = 25 → W p l e (r_L_law rC rS) s m args below meth c H locs cells slots Q (F0 m 28 ls [])) : ∀ {bc bs cells slots : Nat} (hbc : cells + bc ≤ rC) (hbs : slots + bs ≤ rS) {S : wS} {H : Heap} {locs : List Loc} {ls : Array Slot} {a0 : Nat} {a1 : Nat} {a2 : Nat} {a3 : Nat} {a4 : Nat} {x5 : Int32}, wp_L_law_3378 D post k_28 bc bs S a0 a1 a2 a3 a4 x5 → wO D cy X A s.heap S H locs → wX D S0 S → lv_has ls 9 [(0, .ref a0), (1, .ref a1), (2, .ref a2), (3, .ref a3), (4, .ref a4), (5, .int x5)] → wM D S a0 → sK S a0 = 21 → wM D S a1 → sK S a1 = 16 → wM D S a2 → sK S a2 = 17 → wM D S a3 → sK S a3 = 22 → wM D S a4 → sK S a4 = 25 → W p l e (r_L_law rC rS) s m args below meth c H locs cells slots Q (F0 m 3378 ls []) := by
  obtain ⟨hx, hb, hml, hown, hts⟩ := id F
  have hwg : ∀ w ∈ WG, w.before args s = true := fun w h => hts w (List.mem_cons_of_mem _ h)
  intro bc bs cells slots hbc hbs S H locs ls a0 a1 a2 a3 a4 x5 hp hW hE hl hL_a0 hK_a0 hL_a1 hK_a1 hL_a2 hK_a2 hL_a3 hK_a3 hL_a4 hK_a4
  unfold wp_L_law_3378 at hp
  refine lv_goto (tgt := 3394) hx hb dL_law_3378 (by decide) ?_
  exact t_L_law_3394 F hr hlocks hK hl0 hQ q_28 hbc hbs hp hW hE (lv_sub hl [0, 1, 2, 3, 4, 5] rfl) hL_a0 hK_a0 hL_a1 hK_a1 hL_a2 hK_a2 hL_a3 hK_a3 hL_a4 hK_a4
set_option maxHeartbeats 4000000 in
set_option maxRecDepth 100000 in
theorem t_L_law_3376 {p : Program} {l : Launch} {e : Env} {s : State} {m : MethodId} {args : Array Value} {below : List Frame} {meth : Method} {c : Code} {D : wD} {cy : Nat → ClassId} {X : va_W} {A : Nat → Prop} {S0 : wS} {rC rS : Nat} {post : Int32 → wS → Prop} (F : CallFix p m c cL_law 9 s args wz_L_law RL) (hr : meth.sig.returnType = (some .boolean)) (hlocks : meth.locks = false) (hK : wK D cy A s) (hl0 : l.stackTraces = false) {Q : State → Prop} (hQ : ∀ {pc : Nat} {H : Heap} {locs : List Loc} {ls : Array Slot} {S : wS} {r : Int32}, post r S → decode cL_law pc = .ok (.ireturn, 1) → wO D cy X A s.heap S H locs → W p l e (r_L_law rC rS) s m args below meth c H locs rC rS Q (F0 m pc ls [.int r])) : ∀ {bc bs cells slots : Nat} (hbc : cells + bc ≤ rC) (hbs : slots + bs ≤ rS) {S : wS} {H : Heap} {locs : List Loc} {ls : Array Slot}, wp_L_law_3376 D post bc bs S → wO D cy X A s.heap S H locs → wX D S0 S → lv_has ls 9 [] → W p l e (r_L_law rC rS) s m args below meth c H locs cells slots Q (F0 m 3376 ls []) := by
  obtain ⟨hx, hb, hml, hown, hts⟩ := id F
  have hwg : ∀ w ∈ WG, w.before args s = true := fun w h => hts w (List.mem_cons_of_mem _ h)
  intro bc bs cells slots hbc hbs S H locs ls hp hW hE hl
  unfold wp_L_law_3376 at hp
  refine lv_iconst (v := 0) hx hb dL_law_3376 (by decide) ?_
  refine W.widen (k := rC) (n := rS) (Nat.le_trans (Nat.le_add_right _ _) hbc) (Nat.le_trans (Nat.le_add_right _ _) hbs) ?_
  exact hQ hp dL_law_3377 hW
set_option maxHeartbeats 4000000 in
set_option maxRecDepth 100000 in
theorem t_L_law_3300 {p : Program} {l : Launch} {e : Env} {s : State} {m : MethodId} {args : Array Value} {below : List Frame} {meth : Method} {c : Code} {D : wD} {cy : Nat → ClassId} {X : va_W} {A : Nat → Prop} {S0 : wS} {rC rS : Nat} {post : Int32 → wS → Prop} (F : CallFix p m c cL_law 9 s args wz_L_law RL) (hr : meth.sig.returnType = (some .boolean)) (hlocks : meth.locks = false) (hK : wK D cy A s) (hl0 : l.stackTraces = false) {Q : State → Prop} (hQ : ∀ {pc : Nat} {H : Heap} {locs : List Loc} {ls : Array Slot} {S : wS} {r : Int32}, post r S → decode cL_law pc = .ok (.ireturn, 1) → wO D cy X A s.heap S H locs → W p l e (r_L_law rC rS) s m args below meth c H locs rC rS Q (F0 m pc ls [.int r])) {k_28 : Nat → Nat → wS → Nat → Nat → Nat → Nat → Nat → Int32 → Prop} (q_28 : ∀ {bc bs cells slots : Nat} (hbc : cells + bc ≤ rC) (hbs : slots + bs ≤ rS) {S : wS} {H : Heap} {locs : List Loc} {ls : Array Slot} {a0 : Nat} {a1 : Nat} {a2 : Nat} {a3 : Nat} {a4 : Nat} {x5 : Int32}, k_28 bc bs S a0 a1 a2 a3 a4 x5 → wO D cy X A s.heap S H locs → wX D S0 S → lv_has ls 9 [(0, .ref a0), (1, .ref a1), (2, .ref a2), (3, .ref a3), (4, .ref a4), (5, .int x5)] → wM D S a0 → sK S a0 = 21 → wM D S a1 → sK S a1 = 16 → wM D S a2 → sK S a2 = 17 → wM D S a3 → sK S a3 = 22 → wM D S a4 → sK S a4 = 25 → W p l e (r_L_law rC rS) s m args below meth c H locs cells slots Q (F0 m 28 ls [])) : ∀ {bc bs cells slots : Nat} (hbc : cells + bc ≤ rC) (hbs : slots + bs ≤ rS) {S : wS} {H : Heap} {locs : List Loc} {ls : Array Slot} {a0 : Nat} {a1 : Nat} {a2 : Nat} {a3 : Nat} {a4 : Nat} {x5 : Int32}, wp_L_law_3300 D post k_28 bc bs S a0 a1 a2 a3 a4 x5 → wO D cy X A s.heap S H locs → wX D S0 S → lv_has ls 9 [(0, .ref a0), (1, .ref a1), (2, .ref a2), (3, .ref a3), (4, .ref a4), (5, .int x5)] → wM D S a0 → sK S a0 = 21 → wM D S a1 → sK S a1 = 16 → wM D S a2 → sK S a2 = 17 → wM D S a3 → sK S a3 = 22 → wM D S a4 → sK S a4 = 25 → W p l e (r_L_law rC rS) s m args below meth c H locs cells slots Q (F0 m 3300 ls []) := by
  obtain ⟨hx, hb, hml, hown, hts⟩ := id F
  have hwg : ∀ w ∈ WG, w.before args s = true := fun w h => hts w (List.mem_cons_of_mem _ h)
  intro bc bs cells slots hbc hbs S H locs ls a0 a1 a2 a3 a4 x5 hp hW hE hl hL_a0 hK_a0 hL_a1 hK_a1 hL_a2 hK_a2 hL_a3 hK_a3 hL_a4 hK_a4
  unfold wp_L_law_3300 at hp
  refine lv_goto (tgt := 3394) hx hb dL_law_3300 (by decide) ?_
  exact t_L_law_3394 F hr hlocks hK hl0 hQ q_28 hbc hbs hp hW hE (lv_sub hl [0, 1, 2, 3, 4, 5] rfl) hL_a0 hK_a0 hL_a1 hK_a1 hL_a2 hK_a2 hL_a3 hK_a3 hL_a4 hK_a4
set_option maxHeartbeats 4000000 in
set_option maxRecDepth 100000 in
theorem t_L_law_3298 {p : Program} {l : Launch} {e : Env} {s : State} {m : MethodId} {args : Array Value} {below : List Frame} {meth : Method} {c : Code} {D : wD} {cy : Nat → ClassId} {X : va_W} {A : Nat → Prop} {S0 : wS} {rC rS : Nat} {post : Int32 → wS → Prop} (F : CallFix p m c cL_law 9 s args wz_L_law RL) (hr : meth.sig.returnType = (some .boolean)) (hlocks : meth.locks = false) (hK : wK D cy A s) (hl0 : l.stackTraces = false) {Q : State → Prop} (hQ : ∀ {pc : Nat} {H : Heap} {locs : List Loc} {ls : Array Slot} {S : wS} {r : Int32}, post r S → decode cL_law pc = .ok (.ireturn, 1) → wO D cy X A s.heap S H locs → W p l e (r_L_law rC rS) s m args below meth c H locs rC rS Q (F0 m pc ls [.int r])) : ∀ {bc bs cells slots : Nat} (hbc : cells + bc ≤ rC) (hbs : slots + bs ≤ rS) {S : wS} {H : Heap} {locs : List Loc} {ls : Array Slot}, wp_L_law_3298 D post bc bs S → wO D cy X A s.heap S H locs → wX D S0 S → lv_has ls 9 [] → W p l e (r_L_law rC rS) s m args below meth c H locs cells slots Q (F0 m 3298 ls []) := by
  obtain ⟨hx, hb, hml, hown, hts⟩ := id F
  have hwg : ∀ w ∈ WG, w.before args s = true := fun w h => hts w (List.mem_cons_of_mem _ h)
  intro bc bs cells slots hbc hbs S H locs ls hp hW hE hl
  unfold wp_L_law_3298 at hp
  refine lv_iconst (v := 0) hx hb dL_law_3298 (by decide) ?_
  refine W.widen (k := rC) (n := rS) (Nat.le_trans (Nat.le_add_right _ _) hbc) (Nat.le_trans (Nat.le_add_right _ _) hbs) ?_
  exact hQ hp dL_law_3299 hW
set_option maxHeartbeats 4000000 in
set_option maxRecDepth 100000 in
theorem t_L_law_3223 {p : Program} {l : Launch} {e : Env} {s : State} {m : MethodId} {args : Array Value} {below : List Frame} {meth : Method} {c : Code} {D : wD} {cy : Nat → ClassId} {X : va_W} {A : Nat → Prop} {S0 : wS} {rC rS : Nat} {post : Int32 → wS → Prop} (F : CallFix p m c cL_law 9 s args wz_L_law RL) (hr : meth.sig.returnType = (some .boolean)) (hlocks : meth.locks = false) (hK : wK D cy A s) (hl0 : l.stackTraces = false) {Q : State → Prop} (hQ : ∀ {pc : Nat} {H : Heap} {locs : List Loc} {ls : Array Slot} {S : wS} {r : Int32}, post r S → decode cL_law pc = .ok (.ireturn, 1) → wO D cy X A s.heap S H locs → W p l e (r_L_law rC rS) s m args below meth c H locs rC rS Q (F0 m pc ls [.int r])) {k_28 : Nat → Nat → wS → Nat → Nat → Nat → Nat → Nat → Int32 → Prop} (q_28 : ∀ {bc bs cells slots : Nat} (hbc : cells + bc ≤ rC) (hbs : slots + bs ≤ rS) {S : wS} {H : Heap} {locs : List Loc} {ls : Array Slot} {a0 : Nat} {a1 : Nat} {a2 : Nat} {a3 : Nat} {a4 : Nat} {x5 : Int32}, k_28 bc bs S a0 a1 a2 a3 a4 x5 → wO D cy X A s.heap S H locs → wX D S0 S → lv_has ls 9 [(0, .ref a0), (1, .ref a1), (2, .ref a2), (3, .ref a3), (4, .ref a4), (5, .int x5)] → wM D S a0 → sK S a0 = 21 → wM D S a1 → sK S a1 = 16 → wM D S a2 → sK S a2 = 17 → wM D S a3 → sK S a3 = 22 → wM D S a4 → sK S a4 = 25 → W p l e (r_L_law rC rS) s m args below meth c H locs cells slots Q (F0 m 28 ls [])) : ∀ {bc bs cells slots : Nat} (hbc : cells + bc ≤ rC) (hbs : slots + bs ≤ rS) {S : wS} {H : Heap} {locs : List Loc} {ls : Array Slot} {a0 : Nat} {a1 : Nat} {a2 : Nat} {a3 : Nat} {a4 : Nat} {x5 : Int32}, wp_L_law_3223 D post k_28 bc bs S a0 a1 a2 a3 a4 x5 → wO D cy X A s.heap S H locs → wX D S0 S → lv_has ls 9 [(0, .ref a0), (1, .ref a1), (2, .ref a2), (3, .ref a3), (4, .ref a4), (5, .int x5)] → wM D S a0 → sK S a0 = 21 → wM D S a1 → sK S a1 = 16 → wM D S a2 → sK S a2 = 17 → wM D S a3 → sK S a3 = 22 → wM D S a4 → sK S a4 = 25 → W p l e (r_L_law rC rS) s m args below meth c H locs cells slots Q (F0 m 3223 ls []) := by
  obtain ⟨hx, hb, hml, hown, hts⟩ := id F
  have hwg : ∀ w ∈ WG, w.before args s = true := fun w h => hts w (List.mem_cons_of_mem _ h)
  intro bc bs cells slots hbc hbs S H locs ls a0 a1 a2 a3 a4 x5 hp hW hE hl hL_a0 hK_a0 hL_a1 hK_a1 hL_a2 hK_a2 hL_a3 hK_a3 hL_a4 hK_a4
  unfold wp_L_law_3223 at hp
  refine lv_goto (tgt := 3394) hx hb dL_law_3223 (by decide) ?_
  exact t_L_law_3394 F hr hlocks hK hl0 hQ q_28 hbc hbs hp hW hE (lv_sub hl [0, 1, 2, 3, 4, 5] rfl) hL_a0 hK_a0 hL_a1 hK_a1 hL_a2 hK_a2 hL_a3 hK_a3 hL_a4 hK_a4
set_option maxHeartbeats 4000000 in
set_option maxRecDepth 100000 in
theorem t_L_law_3190 {p : Program} {l : Launch} {e : Env} {s : State} {m : MethodId} {args : Array Value} {below : List Frame} {meth : Method} {c : Code} {D : wD} {cy : Nat → ClassId} {X : va_W} {A : Nat → Prop} {S0 : wS} {rC rS : Nat} {post : Int32 → wS → Prop} (F : CallFix p m c cL_law 9 s args wz_L_law RL) (hr : meth.sig.returnType = (some .boolean)) (hlocks : meth.locks = false) (hK : wK D cy A s) (hl0 : l.stackTraces = false) {Q : State → Prop} (hQ : ∀ {pc : Nat} {H : Heap} {locs : List Loc} {ls : Array Slot} {S : wS} {r : Int32}, post r S → decode cL_law pc = .ok (.ireturn, 1) → wO D cy X A s.heap S H locs → W p l e (r_L_law rC rS) s m args below meth c H locs rC rS Q (F0 m pc ls [.int r])) {k_28 : Nat → Nat → wS → Nat → Nat → Nat → Nat → Nat → Int32 → Prop} (q_28 : ∀ {bc bs cells slots : Nat} (hbc : cells + bc ≤ rC) (hbs : slots + bs ≤ rS) {S : wS} {H : Heap} {locs : List Loc} {ls : Array Slot} {a0 : Nat} {a1 : Nat} {a2 : Nat} {a3 : Nat} {a4 : Nat} {x5 : Int32}, k_28 bc bs S a0 a1 a2 a3 a4 x5 → wO D cy X A s.heap S H locs → wX D S0 S → lv_has ls 9 [(0, .ref a0), (1, .ref a1), (2, .ref a2), (3, .ref a3), (4, .ref a4), (5, .int x5)] → wM D S a0 → sK S a0 = 21 → wM D S a1 → sK S a1 = 16 → wM D S a2 → sK S a2 = 17 → wM D S a3 → sK S a3 = 22 → wM D S a4 → sK S a4 = 25 → W p l e (r_L_law rC rS) s m args below meth c H locs cells slots Q (F0 m 28 ls [])) : ∀ {bc bs cells slots : Nat} (hbc : cells + bc ≤ rC) (hbs : slots + bs ≤ rS) {S : wS} {H : Heap} {locs : List Loc} {ls : Array Slot} {a0 : Nat} {a1 : Nat} {a2 : Nat} {a3 : Nat} {a4 : Nat} {x5 : Int32} {x6 : Int32} {b0 : Nat} {t1 : Int32}, wp_L_law_3190 D post k_28 bc bs S a0 a1 a2 a3 a4 x5 x6 b0 t1 → wO D cy X A s.heap S H locs → wX D S0 S → lv_has ls 9 [(0, .ref a0), (1, .ref a1), (2, .ref a2), (3, .ref a3), (4, .ref a4), (5, .int x5), (6, .int x6)] → wM D S a0 → sK S a0 = 21 → wM D S a1 → sK S a1 = 16 → wM D S a2 → sK S a2 = 17 → wM D S a3 → sK S a3 = 22 → wM D S a4 → sK S a4 = 25 → wM D S b0 → sK S b0 = 17 → W p l e (r_L_law rC rS) s m args below meth c H locs cells slots Q (F0 m 3190 ls [.int t1, .ref b0]) := by
  obtain ⟨hx, hb, hml, hown, hts⟩ := id F
  have hwg : ∀ w ∈ WG, w.before args s = true := fun w h => hts w (List.mem_cons_of_mem _ h)
  intro bc bs cells slots hbc hbs S H locs ls a0 a1 a2 a3 a4 x5 x6 b0 t1 hp hW hE hl hL_a0 hK_a0 hL_a1 hK_a1 hL_a2 hK_a2 hL_a3 hK_a3 hL_a4 hK_a4 hL_b0 hK_b0
  unfold wp_L_law_3190 at hp
  refine w_callI (va_runV (As := [.int t1]) (rest := []) F (c_X12_answer l hL_b0 hK_b0 hp H.size) (cwV (C := RX12) 1 hts (wg_V wm_RL_378 wy_X12_answer) rfl rfl rfl (by decide +kernel) ⟨Nat.le_of_ble_eq_true rfl, Nat.le_of_ble_eq_true rfl⟩) (w_preV hK hW hL_b0 hK_b0 (by decide) rfl) rfl rfl hl.1 rfl (lv_room (Nat.le_of_ble_eq_true rfl)) dL_law_3190 ⟨by show _ ≤ rC; exact Nat.le_trans (Nat.le_add_right _ _) hbc, by show _ ≤ rS; exact Nat.le_trans (Nat.le_add_right _ _) hbs⟩) hW (fun r_1 S_2 H locs hp hW => ?_)
  obtain ⟨hX_S_2, hp⟩ := hp
  refine w_same ?_
  have hE := hE.trans hX_S_2
  have hK_a0 : sK S_2 a0 = 21 := (hX_S_2.2 a0 hL_a0).1.trans hK_a0
  have hL_a0 : wM D S_2 a0 := hX_S_2.M hL_a0
  have hK_a1 : sK S_2 a1 = 16 := (hX_S_2.2 a1 hL_a1).1.trans hK_a1
  have hL_a1 : wM D S_2 a1 := hX_S_2.M hL_a1
  have hK_a2 : sK S_2 a2 = 17 := (hX_S_2.2 a2 hL_a2).1.trans hK_a2
  have hL_a2 : wM D S_2 a2 := hX_S_2.M hL_a2
  have hK_a3 : sK S_2 a3 = 22 := (hX_S_2.2 a3 hL_a3).1.trans hK_a3
  have hL_a3 : wM D S_2 a3 := hX_S_2.M hL_a3
  have hK_a4 : sK S_2 a4 = 25 := (hX_S_2.2 a4 hL_a4).1.trans hK_a4
  have hL_a4 : wM D S_2 a4 := hX_S_2.M hL_a4
  refine lv_istore (lv' := [(7, .int r_1), (0, .ref a0), (1, .ref a1), (2, .ref a2), (3, .ref a3), (4, .ref a4), (5, .int x5), (6, .int x6)]) hx hb dL_law_3193 hl (by decide) rfl (fun ls hl => ?_)
  refine lv_aload_n hx hb dL_law_3195 rfl (lv_at hl 3 rfl) ?_
  refine w_callI (va_runV (As := []) (rest := []) F (c_X12_thrown l hL_a2 hK_a2 hp H.size) (cwV (C := RX12) 0 hts (wg_V wm_RL_181 wy_X12_thrown) rfl rfl rfl (by decide +kernel) ⟨Nat.le_of_ble_eq_true rfl, Nat.le_of_ble_eq_true rfl⟩) (w_preV hK hW hL_a2 hK_a2 (by decide) rfl) rfl rfl hl.1 rfl (lv_room (Nat.le_of_ble_eq_true rfl)) dL_law_3196 ⟨by show _ ≤ rC; exact Nat.le_trans (Nat.le_add_right _ _) hbc, by show _ ≤ rS; exact Nat.le_trans (Nat.le_add_right _ _) hbs⟩) hW (fun r_3 S_4 H locs hp hW => ?_)
  obtain ⟨hX_S_4, hp⟩ := hp
  refine w_same ?_
  have hE := hE.trans hX_S_4
  have hK_a0 : sK S_4 a0 = 21 := (hX_S_4.2 a0 hL_a0).1.trans hK_a0
  have hL_a0 : wM D S_4 a0 := hX_S_4.M hL_a0
  have hK_a1 : sK S_4 a1 = 16 := (hX_S_4.2 a1 hL_a1).1.trans hK_a1
  have hL_a1 : wM D S_4 a1 := hX_S_4.M hL_a1
  have hK_a2 : sK S_4 a2 = 17 := (hX_S_4.2 a2 hL_a2).1.trans hK_a2
  have hL_a2 : wM D S_4 a2 := hX_S_4.M hL_a2
  have hK_a3 : sK S_4 a3 = 22 := (hX_S_4.2 a3 hL_a3).1.trans hK_a3
  have hL_a3 : wM D S_4 a3 := hX_S_4.M hL_a3
  have hK_a4 : sK S_4 a4 = 25 := (hX_S_4.2 a4 hL_a4).1.trans hK_a4
  have hL_a4 : wM D S_4 a4 := hX_S_4.M hL_a4
  refine lv_iload hx hb dL_law_3199 (lv_at hl 7 rfl) ?_
  refine lv_icmp_eq (tgt := 3206) hx hb dL_law_3201 (by decide) (fun c_5 => ?_) (fun c_5 => ?_)
  · replace hp := hp.1 c_5
    refine lv_iload hx hb dL_law_3206 (lv_at hl 7 rfl) ?_
    refine lv_if_ne (tgt := 3223) hx hb dL_law_3208 (by decide) (fun c_6 => ?_) (fun c_6 => ?_)
    · replace hp := hp.1 c_6
      exact t_L_law_3223 F hr hlocks hK hl0 hQ q_28 hbc hbs hp hW hE (lv_sub hl [1, 2, 3, 4, 5, 6] rfl) hL_a0 hK_a0 hL_a1 hK_a1 hL_a2 hK_a2 hL_a3 hK_a3 hL_a4 hK_a4
    · replace hp := hp.2 c_6
      refine lv_aload_n hx hb dL_law_3211 rfl (lv_at hl 4 rfl) ?_
      refine lv_iconst (v := 0) hx hb dL_law_3212 (by decide) ?_
      obtain ⟨h_7, hp⟩ := hp
      refine w_lld F hK hW hL_a3 hK_a3 h_7 dL_law_3213 ?_
      refine lv_iload hx hb dL_law_3214 (lv_at hl 0 rfl) ?_
      refine lv_i2l (v := (Int32.toInt64 r_1)) hx hb dL_law_3216 rfl ?_
      refine W.lcmp hx hb dL_law_3217 ?_
      refine lv_if_eq (tgt := 3223) hx hb dL_law_3218 (by decide) (fun c_8 => ?_) (fun c_8 => ?_)
      · replace hp := hp.1 c_8
        exact t_L_law_3223 F hr hlocks hK hl0 hQ q_28 hbc hbs hp hW hE (lv_sub hl [1, 2, 3, 4, 5, 6] rfl) hL_a0 hK_a0 hL_a1 hK_a1 hL_a2 hK_a2 hL_a3 hK_a3 hL_a4 hK_a4
      · replace hp := hp.2 c_8
        refine lv_iconst (v := 0) hx hb dL_law_3221 (by decide) ?_
        refine W.widen (k := rC) (n := rS) (Nat.le_trans (Nat.le_add_right _ _) hbc) (Nat.le_trans (Nat.le_add_right _ _) hbs) ?_
        exact hQ hp dL_law_3222 hW
  · replace hp := hp.2 c_5
    refine lv_iconst (v := 0) hx hb dL_law_3204 (by decide) ?_
    refine W.widen (k := rC) (n := rS) (Nat.le_trans (Nat.le_add_right _ _) hbc) (Nat.le_trans (Nat.le_add_right _ _) hbs) ?_
    exact hQ hp dL_law_3205 hW
set_option maxHeartbeats 4000000 in
set_option maxRecDepth 100000 in
theorem t_L_law_3169 {p : Program} {l : Launch} {e : Env} {s : State} {m : MethodId} {args : Array Value} {below : List Frame} {meth : Method} {c : Code} {D : wD} {cy : Nat → ClassId} {X : va_W} {A : Nat → Prop} {S0 : wS} {rC rS : Nat} {post : Int32 → wS → Prop} (F : CallFix p m c cL_law 9 s args wz_L_law RL) (hr : meth.sig.returnType = (some .boolean)) (hlocks : meth.locks = false) (hK : wK D cy A s) (hl0 : l.stackTraces = false) {Q : State → Prop} (hQ : ∀ {pc : Nat} {H : Heap} {locs : List Loc} {ls : Array Slot} {S : wS} {r : Int32}, post r S → decode cL_law pc = .ok (.ireturn, 1) → wO D cy X A s.heap S H locs → W p l e (r_L_law rC rS) s m args below meth c H locs rC rS Q (F0 m pc ls [.int r])) {k_28 : Nat → Nat → wS → Nat → Nat → Nat → Nat → Nat → Int32 → Prop} (q_28 : ∀ {bc bs cells slots : Nat} (hbc : cells + bc ≤ rC) (hbs : slots + bs ≤ rS) {S : wS} {H : Heap} {locs : List Loc} {ls : Array Slot} {a0 : Nat} {a1 : Nat} {a2 : Nat} {a3 : Nat} {a4 : Nat} {x5 : Int32}, k_28 bc bs S a0 a1 a2 a3 a4 x5 → wO D cy X A s.heap S H locs → wX D S0 S → lv_has ls 9 [(0, .ref a0), (1, .ref a1), (2, .ref a2), (3, .ref a3), (4, .ref a4), (5, .int x5)] → wM D S a0 → sK S a0 = 21 → wM D S a1 → sK S a1 = 16 → wM D S a2 → sK S a2 = 17 → wM D S a3 → sK S a3 = 22 → wM D S a4 → sK S a4 = 25 → W p l e (r_L_law rC rS) s m args below meth c H locs cells slots Q (F0 m 28 ls [])) : ∀ {bc bs cells slots : Nat} (hbc : cells + bc ≤ rC) (hbs : slots + bs ≤ rS) {S : wS} {H : Heap} {locs : List Loc} {ls : Array Slot} {a0 : Nat} {a1 : Nat} {a2 : Nat} {a3 : Nat} {a4 : Nat} {x5 : Int32} {b0 : Nat} {t1 : Int32}, wp_L_law_3169 D post k_28 bc bs S a0 a1 a2 a3 a4 x5 b0 t1 → wO D cy X A s.heap S H locs → wX D S0 S → lv_has ls 9 [(0, .ref a0), (1, .ref a1), (2, .ref a2), (3, .ref a3), (4, .ref a4), (5, .int x5)] → wM D S a0 → sK S a0 = 21 → wM D S a1 → sK S a1 = 16 → wM D S a2 → sK S a2 = 17 → wM D S a3 → sK S a3 = 22 → wM D S a4 → sK S a4 = 25 → wM D S b0 → sK S b0 = 16 → W p l e (r_L_law rC rS) s m args below meth c H locs cells slots Q (F0 m 3169 ls [.int t1, .ref b0]) := by
  obtain ⟨hx, hb, hml, hown, hts⟩ := id F
  have hwg : ∀ w ∈ WG, w.before args s = true := fun w h => hts w (List.mem_cons_of_mem _ h)
  intro bc bs cells slots hbc hbs S H locs ls a0 a1 a2 a3 a4 x5 b0 t1 hp hW hE hl hL_a0 hK_a0 hL_a1 hK_a1 hL_a2 hK_a2 hL_a3 hK_a3 hL_a4 hK_a4 hL_b0 hK_b0
  unfold wp_L_law_3169 at hp
  refine lv_aload_n hx hb dL_law_3169 rfl (lv_at hl 3 rfl) ?_
  obtain ⟨h_3, h_3z, hp⟩ := hp
  refine x_callI (vx_runSX (As := [.ref b0, .int t1, .ref a3]) (rest := []) F (c_L_answer l hl0 hL_b0 hK_b0 hL_a3 hK_a3 hp H.size) (vx_cwSW 3 hts (wg_S wm_RL_375 wy_L_answer) rfl rfl rfl ⟨by decide, by decide, by decide +kernel⟩ ⟨Nat.le_of_ble_eq_true rfl, Nat.le_of_ble_eq_true rfl⟩) (w_preS hK hW) rfl rfl hl.1 rfl (lv_room (Nat.le_of_ble_eq_true rfl)) dL_law_3170 ⟨by show _ + 1 ≤ rC; omega, by show _ + 6 ≤ rS; omega⟩) hW (fun E ce q9 S9 H locs hp hW h1 h2 h3 => hp.elim) (fun r_1 S_2 H locs hp hW => ?_)
  obtain ⟨hX_S_2, hp⟩ := hp
  refine W.widen (k := _ + 1) (n := _ + 6) (Nat.le_refl _) (Nat.le_refl _) ?_
  replace hbc := w_spend hbc (show 1 ≤ bc by omega)
  replace hbs := w_spend hbs (show 6 ≤ bs by omega)
  have hE := hE.trans hX_S_2
  have hK_a0 : sK S_2 a0 = 21 := (hX_S_2.2 a0 hL_a0).1.trans hK_a0
  have hL_a0 : wM D S_2 a0 := hX_S_2.M hL_a0
  have hK_a1 : sK S_2 a1 = 16 := (hX_S_2.2 a1 hL_a1).1.trans hK_a1
  have hL_a1 : wM D S_2 a1 := hX_S_2.M hL_a1
  have hK_a2 : sK S_2 a2 = 17 := (hX_S_2.2 a2 hL_a2).1.trans hK_a2
  have hL_a2 : wM D S_2 a2 := hX_S_2.M hL_a2
  have hK_a3 : sK S_2 a3 = 22 := (hX_S_2.2 a3 hL_a3).1.trans hK_a3
  have hL_a3 : wM D S_2 a3 := hX_S_2.M hL_a3
  have hK_a4 : sK S_2 a4 = 25 := (hX_S_2.2 a4 hL_a4).1.trans hK_a4
  have hL_a4 : wM D S_2 a4 := hX_S_2.M hL_a4
  refine lv_istore (lv' := [(6, .int r_1), (0, .ref a0), (1, .ref a1), (2, .ref a2), (3, .ref a3), (4, .ref a4), (5, .int x5)]) hx hb dL_law_3173 hl (by decide) rfl (fun ls hl => ?_)
  refine lv_aload_n hx hb dL_law_3175 rfl (lv_at hl 3 rfl) ?_
  refine lv_aload_n hx hb dL_law_3176 rfl (lv_at hl 1 rfl) ?_
  refine lv_iload hx hb dL_law_3177 (lv_at hl 6 rfl) ?_
  refine lv_iconst (v := 1) hx hb dL_law_3179 (by decide) ?_
  refine lv_iadd hx hb dL_law_3180 ?_
  obtain ⟨h_4, hp⟩ := hp
  refine w_ild F hK hW hL_a0 hK_a0 h_4 dL_law_3181 ?_
  refine lv_if_eq (tgt := 3189) hx hb dL_law_3182 (by decide) (fun c_5 => ?_) (fun c_5 => ?_)
  · replace hp := hp.1 c_5
    refine lv_iconst (v := 0) hx hb dL_law_3189 (by decide) ?_
    exact t_L_law_3190 F hr hlocks hK hl0 hQ q_28 hbc hbs hp hW hE (lv_sub hl [1, 2, 3, 4, 5, 6, 0] rfl) hL_a0 hK_a0 hL_a1 hK_a1 hL_a2 hK_a2 hL_a3 hK_a3 hL_a4 hK_a4 hL_a2 hK_a2
  · replace hp := hp.2 c_5
    refine lv_iconst (v := 1) hx hb dL_law_3185 (by decide) ?_
    refine lv_goto (tgt := 3190) hx hb dL_law_3186 (by decide) ?_
    exact t_L_law_3190 F hr hlocks hK hl0 hQ q_28 hbc hbs hp hW hE (lv_sub hl [1, 2, 3, 4, 5, 6, 0] rfl) hL_a0 hK_a0 hL_a1 hK_a1 hL_a2 hK_a2 hL_a3 hK_a3 hL_a4 hK_a4 hL_a2 hK_a2
set_option maxHeartbeats 4000000 in
set_option maxRecDepth 100000 in
theorem t_L_law_3151 {p : Program} {l : Launch} {e : Env} {s : State} {m : MethodId} {args : Array Value} {below : List Frame} {meth : Method} {c : Code} {D : wD} {cy : Nat → ClassId} {X : va_W} {A : Nat → Prop} {S0 : wS} {rC rS : Nat} {post : Int32 → wS → Prop} (F : CallFix p m c cL_law 9 s args wz_L_law RL) (hr : meth.sig.returnType = (some .boolean)) (hlocks : meth.locks = false) (hK : wK D cy A s) (hl0 : l.stackTraces = false) {Q : State → Prop} (hQ : ∀ {pc : Nat} {H : Heap} {locs : List Loc} {ls : Array Slot} {S : wS} {r : Int32}, post r S → decode cL_law pc = .ok (.ireturn, 1) → wO D cy X A s.heap S H locs → W p l e (r_L_law rC rS) s m args below meth c H locs rC rS Q (F0 m pc ls [.int r])) {k_28 : Nat → Nat → wS → Nat → Nat → Nat → Nat → Nat → Int32 → Prop} (q_28 : ∀ {bc bs cells slots : Nat} (hbc : cells + bc ≤ rC) (hbs : slots + bs ≤ rS) {S : wS} {H : Heap} {locs : List Loc} {ls : Array Slot} {a0 : Nat} {a1 : Nat} {a2 : Nat} {a3 : Nat} {a4 : Nat} {x5 : Int32}, k_28 bc bs S a0 a1 a2 a3 a4 x5 → wO D cy X A s.heap S H locs → wX D S0 S → lv_has ls 9 [(0, .ref a0), (1, .ref a1), (2, .ref a2), (3, .ref a3), (4, .ref a4), (5, .int x5)] → wM D S a0 → sK S a0 = 21 → wM D S a1 → sK S a1 = 16 → wM D S a2 → sK S a2 = 17 → wM D S a3 → sK S a3 = 22 → wM D S a4 → sK S a4 = 25 → W p l e (r_L_law rC rS) s m args below meth c H locs cells slots Q (F0 m 28 ls [])) : ∀ {bc bs cells slots : Nat} (hbc : cells + bc ≤ rC) (hbs : slots + bs ≤ rS) {S : wS} {H : Heap} {locs : List Loc} {ls : Array Slot} {a0 : Nat} {a1 : Nat} {a2 : Nat} {a3 : Nat} {a4 : Nat} {x5 : Int32}, wp_L_law_3151 D post k_28 bc bs S a0 a1 a2 a3 a4 x5 → wO D cy X A s.heap S H locs → wX D S0 S → lv_has ls 9 [(0, .ref a0), (1, .ref a1), (2, .ref a2), (3, .ref a3), (4, .ref a4), (5, .int x5)] → wM D S a0 → sK S a0 = 21 → wM D S a1 → sK S a1 = 16 → wM D S a2 → sK S a2 = 17 → wM D S a3 → sK S a3 = 22 → wM D S a4 → sK S a4 = 25 → W p l e (r_L_law rC rS) s m args below meth c H locs cells slots Q (F0 m 3151 ls []) := by
  obtain ⟨hx, hb, hml, hown, hts⟩ := id F
  have hwg : ∀ w ∈ WG, w.before args s = true := fun w h => hts w (List.mem_cons_of_mem _ h)
  intro bc bs cells slots hbc hbs S H locs ls a0 a1 a2 a3 a4 x5 hp hW hE hl hL_a0 hK_a0 hL_a1 hK_a1 hL_a2 hK_a2 hL_a3 hK_a3 hL_a4 hK_a4
  unfold wp_L_law_3151 at hp
  refine lv_goto (tgt := 3394) hx hb dL_law_3151 (by decide) ?_
  exact t_L_law_3394 F hr hlocks hK hl0 hQ q_28 hbc hbs hp hW hE (lv_sub hl [0, 1, 2, 3, 4, 5] rfl) hL_a0 hK_a0 hL_a1 hK_a1 hL_a2 hK_a2 hL_a3 hK_a3 hL_a4 hK_a4
set_option maxHeartbeats 4000000 in
set_option maxRecDepth 100000 in
theorem t_L_law_3107 {p : Program} {l : Launch} {e : Env} {s : State} {m : MethodId} {args : Array Value} {below : List Frame} {meth : Method} {c : Code} {D : wD} {cy : Nat → ClassId} {X : va_W} {A : Nat → Prop} {S0 : wS} {rC rS : Nat} {post : Int32 → wS → Prop} (F : CallFix p m c cL_law 9 s args wz_L_law RL) (hr : meth.sig.returnType = (some .boolean)) (hlocks : meth.locks = false) (hK : wK D cy A s) (hl0 : l.stackTraces = false) {Q : State → Prop} (hQ : ∀ {pc : Nat} {H : Heap} {locs : List Loc} {ls : Array Slot} {S : wS} {r : Int32}, post r S → decode cL_law pc = .ok (.ireturn, 1) → wO D cy X A s.heap S H locs → W p l e (r_L_law rC rS) s m args below meth c H locs rC rS Q (F0 m pc ls [.int r])) {k_28 : Nat → Nat → wS → Nat → Nat → Nat → Nat → Nat → Int32 → Prop} (q_28 : ∀ {bc bs cells slots : Nat} (hbc : cells + bc ≤ rC) (hbs : slots + bs ≤ rS) {S : wS} {H : Heap} {locs : List Loc} {ls : Array Slot} {a0 : Nat} {a1 : Nat} {a2 : Nat} {a3 : Nat} {a4 : Nat} {x5 : Int32}, k_28 bc bs S a0 a1 a2 a3 a4 x5 → wO D cy X A s.heap S H locs → wX D S0 S → lv_has ls 9 [(0, .ref a0), (1, .ref a1), (2, .ref a2), (3, .ref a3), (4, .ref a4), (5, .int x5)] → wM D S a0 → sK S a0 = 21 → wM D S a1 → sK S a1 = 16 → wM D S a2 → sK S a2 = 17 → wM D S a3 → sK S a3 = 22 → wM D S a4 → sK S a4 = 25 → W p l e (r_L_law rC rS) s m args below meth c H locs cells slots Q (F0 m 28 ls [])) : ∀ {bc bs cells slots : Nat} (hbc : cells + bc ≤ rC) (hbs : slots + bs ≤ rS) {S : wS} {H : Heap} {locs : List Loc} {ls : Array Slot} {a0 : Nat} {a1 : Nat} {a2 : Nat} {a3 : Nat} {a4 : Nat} {x5 : Int32}, wp_L_law_3107 D post k_28 bc bs S a0 a1 a2 a3 a4 x5 → wO D cy X A s.heap S H locs → wX D S0 S → lv_has ls 9 [(0, .ref a0), (1, .ref a1), (2, .ref a2), (3, .ref a3), (4, .ref a4), (5, .int x5)] → wM D S a0 → sK S a0 = 21 → wM D S a1 → sK S a1 = 16 → wM D S a2 → sK S a2 = 17 → wM D S a3 → sK S a3 = 22 → wM D S a4 → sK S a4 = 25 → W p l e (r_L_law rC rS) s m args below meth c H locs cells slots Q (F0 m 3107 ls []) := by
  obtain ⟨hx, hb, hml, hown, hts⟩ := id F
  have hwg : ∀ w ∈ WG, w.before args s = true := fun w h => hts w (List.mem_cons_of_mem _ h)
  intro bc bs cells slots hbc hbs S H locs ls a0 a1 a2 a3 a4 x5 hp hW hE hl hL_a0 hK_a0 hL_a1 hK_a1 hL_a2 hK_a2 hL_a3 hK_a3 hL_a4 hK_a4
  unfold wp_L_law_3107 at hp
  refine lv_goto (tgt := 3394) hx hb dL_law_3107 (by decide) ?_
  exact t_L_law_3394 F hr hlocks hK hl0 hQ q_28 hbc hbs hp hW hE (lv_sub hl [0, 1, 2, 3, 4, 5] rfl) hL_a0 hK_a0 hL_a1 hK_a1 hL_a2 hK_a2 hL_a3 hK_a3 hL_a4 hK_a4
set_option maxHeartbeats 4000000 in
set_option maxRecDepth 100000 in
theorem t_L_law_3051 {p : Program} {l : Launch} {e : Env} {s : State} {m : MethodId} {args : Array Value} {below : List Frame} {meth : Method} {c : Code} {D : wD} {cy : Nat → ClassId} {X : va_W} {A : Nat → Prop} {S0 : wS} {rC rS : Nat} {post : Int32 → wS → Prop} (F : CallFix p m c cL_law 9 s args wz_L_law RL) (hr : meth.sig.returnType = (some .boolean)) (hlocks : meth.locks = false) (hK : wK D cy A s) (hl0 : l.stackTraces = false) {Q : State → Prop} (hQ : ∀ {pc : Nat} {H : Heap} {locs : List Loc} {ls : Array Slot} {S : wS} {r : Int32}, post r S → decode cL_law pc = .ok (.ireturn, 1) → wO D cy X A s.heap S H locs → W p l e (r_L_law rC rS) s m args below meth c H locs rC rS Q (F0 m pc ls [.int r])) {k_28 : Nat → Nat → wS → Nat → Nat → Nat → Nat → Nat → Int32 → Prop} (q_28 : ∀ {bc bs cells slots : Nat} (hbc : cells + bc ≤ rC) (hbs : slots + bs ≤ rS) {S : wS} {H : Heap} {locs : List Loc} {ls : Array Slot} {a0 : Nat} {a1 : Nat} {a2 : Nat} {a3 : Nat} {a4 : Nat} {x5 : Int32}, k_28 bc bs S a0 a1 a2 a3 a4 x5 → wO D cy X A s.heap S H locs → wX D S0 S → lv_has ls 9 [(0, .ref a0), (1, .ref a1), (2, .ref a2), (3, .ref a3), (4, .ref a4), (5, .int x5)] → wM D S a0 → sK S a0 = 21 → wM D S a1 → sK S a1 = 16 → wM D S a2 → sK S a2 = 17 → wM D S a3 → sK S a3 = 22 → wM D S a4 → sK S a4 = 25 → W p l e (r_L_law rC rS) s m args below meth c H locs cells slots Q (F0 m 28 ls [])) : ∀ {bc bs cells slots : Nat} (hbc : cells + bc ≤ rC) (hbs : slots + bs ≤ rS) {S : wS} {H : Heap} {locs : List Loc} {ls : Array Slot} {a0 : Nat} {a1 : Nat} {a2 : Nat} {a3 : Nat} {a4 : Nat} {x5 : Int32}, wp_L_law_3051 D post k_28 bc bs S a0 a1 a2 a3 a4 x5 → wO D cy X A s.heap S H locs → wX D S0 S → lv_has ls 9 [(0, .ref a0), (1, .ref a1), (2, .ref a2), (3, .ref a3), (4, .ref a4), (5, .int x5)] → wM D S a0 → sK S a0 = 21 → wM D S a1 → sK S a1 = 16 → wM D S a2 → sK S a2 = 17 → wM D S a3 → sK S a3 = 22 → wM D S a4 → sK S a4 = 25 → W p l e (r_L_law rC rS) s m args below meth c H locs cells slots Q (F0 m 3051 ls []) := by
  obtain ⟨hx, hb, hml, hown, hts⟩ := id F
  have hwg : ∀ w ∈ WG, w.before args s = true := fun w h => hts w (List.mem_cons_of_mem _ h)
  intro bc bs cells slots hbc hbs S H locs ls a0 a1 a2 a3 a4 x5 hp hW hE hl hL_a0 hK_a0 hL_a1 hK_a1 hL_a2 hK_a2 hL_a3 hK_a3 hL_a4 hK_a4
  unfold wp_L_law_3051 at hp
  refine lv_goto (tgt := 3394) hx hb dL_law_3051 (by decide) ?_
  exact t_L_law_3394 F hr hlocks hK hl0 hQ q_28 hbc hbs hp hW hE (lv_sub hl [0, 1, 2, 3, 4, 5] rfl) hL_a0 hK_a0 hL_a1 hK_a1 hL_a2 hK_a2 hL_a3 hK_a3 hL_a4 hK_a4
set_option maxHeartbeats 4000000 in
set_option maxRecDepth 100000 in
theorem t_L_law_3007 {p : Program} {l : Launch} {e : Env} {s : State} {m : MethodId} {args : Array Value} {below : List Frame} {meth : Method} {c : Code} {D : wD} {cy : Nat → ClassId} {X : va_W} {A : Nat → Prop} {S0 : wS} {rC rS : Nat} {post : Int32 → wS → Prop} (F : CallFix p m c cL_law 9 s args wz_L_law RL) (hr : meth.sig.returnType = (some .boolean)) (hlocks : meth.locks = false) (hK : wK D cy A s) (hl0 : l.stackTraces = false) {Q : State → Prop} (hQ : ∀ {pc : Nat} {H : Heap} {locs : List Loc} {ls : Array Slot} {S : wS} {r : Int32}, post r S → decode cL_law pc = .ok (.ireturn, 1) → wO D cy X A s.heap S H locs → W p l e (r_L_law rC rS) s m args below meth c H locs rC rS Q (F0 m pc ls [.int r])) {k_28 : Nat → Nat → wS → Nat → Nat → Nat → Nat → Nat → Int32 → Prop} (q_28 : ∀ {bc bs cells slots : Nat} (hbc : cells + bc ≤ rC) (hbs : slots + bs ≤ rS) {S : wS} {H : Heap} {locs : List Loc} {ls : Array Slot} {a0 : Nat} {a1 : Nat} {a2 : Nat} {a3 : Nat} {a4 : Nat} {x5 : Int32}, k_28 bc bs S a0 a1 a2 a3 a4 x5 → wO D cy X A s.heap S H locs → wX D S0 S → lv_has ls 9 [(0, .ref a0), (1, .ref a1), (2, .ref a2), (3, .ref a3), (4, .ref a4), (5, .int x5)] → wM D S a0 → sK S a0 = 21 → wM D S a1 → sK S a1 = 16 → wM D S a2 → sK S a2 = 17 → wM D S a3 → sK S a3 = 22 → wM D S a4 → sK S a4 = 25 → W p l e (r_L_law rC rS) s m args below meth c H locs cells slots Q (F0 m 28 ls [])) : ∀ {bc bs cells slots : Nat} (hbc : cells + bc ≤ rC) (hbs : slots + bs ≤ rS) {S : wS} {H : Heap} {locs : List Loc} {ls : Array Slot} {a0 : Nat} {a1 : Nat} {a2 : Nat} {a3 : Nat} {a4 : Nat} {x5 : Int32}, wp_L_law_3007 D post k_28 bc bs S a0 a1 a2 a3 a4 x5 → wO D cy X A s.heap S H locs → wX D S0 S → lv_has ls 9 [(0, .ref a0), (1, .ref a1), (2, .ref a2), (3, .ref a3), (4, .ref a4), (5, .int x5)] → wM D S a0 → sK S a0 = 21 → wM D S a1 → sK S a1 = 16 → wM D S a2 → sK S a2 = 17 → wM D S a3 → sK S a3 = 22 → wM D S a4 → sK S a4 = 25 → W p l e (r_L_law rC rS) s m args below meth c H locs cells slots Q (F0 m 3007 ls []) := by
  obtain ⟨hx, hb, hml, hown, hts⟩ := id F
  have hwg : ∀ w ∈ WG, w.before args s = true := fun w h => hts w (List.mem_cons_of_mem _ h)
  intro bc bs cells slots hbc hbs S H locs ls a0 a1 a2 a3 a4 x5 hp hW hE hl hL_a0 hK_a0 hL_a1 hK_a1 hL_a2 hK_a2 hL_a3 hK_a3 hL_a4 hK_a4
  unfold wp_L_law_3007 at hp
  refine lv_goto (tgt := 3394) hx hb dL_law_3007 (by decide) ?_
  exact t_L_law_3394 F hr hlocks hK hl0 hQ q_28 hbc hbs hp hW hE (lv_sub hl [0, 1, 2, 3, 4, 5] rfl) hL_a0 hK_a0 hL_a1 hK_a1 hL_a2 hK_a2 hL_a3 hK_a3 hL_a4 hK_a4
set_option maxHeartbeats 4000000 in
set_option maxRecDepth 100000 in
theorem t_L_law_2951 {p : Program} {l : Launch} {e : Env} {s : State} {m : MethodId} {args : Array Value} {below : List Frame} {meth : Method} {c : Code} {D : wD} {cy : Nat → ClassId} {X : va_W} {A : Nat → Prop} {S0 : wS} {rC rS : Nat} {post : Int32 → wS → Prop} (F : CallFix p m c cL_law 9 s args wz_L_law RL) (hr : meth.sig.returnType = (some .boolean)) (hlocks : meth.locks = false) (hK : wK D cy A s) (hl0 : l.stackTraces = false) {Q : State → Prop} (hQ : ∀ {pc : Nat} {H : Heap} {locs : List Loc} {ls : Array Slot} {S : wS} {r : Int32}, post r S → decode cL_law pc = .ok (.ireturn, 1) → wO D cy X A s.heap S H locs → W p l e (r_L_law rC rS) s m args below meth c H locs rC rS Q (F0 m pc ls [.int r])) {k_28 : Nat → Nat → wS → Nat → Nat → Nat → Nat → Nat → Int32 → Prop} (q_28 : ∀ {bc bs cells slots : Nat} (hbc : cells + bc ≤ rC) (hbs : slots + bs ≤ rS) {S : wS} {H : Heap} {locs : List Loc} {ls : Array Slot} {a0 : Nat} {a1 : Nat} {a2 : Nat} {a3 : Nat} {a4 : Nat} {x5 : Int32}, k_28 bc bs S a0 a1 a2 a3 a4 x5 → wO D cy X A s.heap S H locs → wX D S0 S → lv_has ls 9 [(0, .ref a0), (1, .ref a1), (2, .ref a2), (3, .ref a3), (4, .ref a4), (5, .int x5)] → wM D S a0 → sK S a0 = 21 → wM D S a1 → sK S a1 = 16 → wM D S a2 → sK S a2 = 17 → wM D S a3 → sK S a3 = 22 → wM D S a4 → sK S a4 = 25 → W p l e (r_L_law rC rS) s m args below meth c H locs cells slots Q (F0 m 28 ls [])) : ∀ {bc bs cells slots : Nat} (hbc : cells + bc ≤ rC) (hbs : slots + bs ≤ rS) {S : wS} {H : Heap} {locs : List Loc} {ls : Array Slot} {a0 : Nat} {a1 : Nat} {a2 : Nat} {a3 : Nat} {a4 : Nat} {x5 : Int32}, wp_L_law_2951 D post k_28 bc bs S a0 a1 a2 a3 a4 x5 → wO D cy X A s.heap S H locs → wX D S0 S → lv_has ls 9 [(0, .ref a0), (1, .ref a1), (2, .ref a2), (3, .ref a3), (4, .ref a4), (5, .int x5)] → wM D S a0 → sK S a0 = 21 → wM D S a1 → sK S a1 = 16 → wM D S a2 → sK S a2 = 17 → wM D S a3 → sK S a3 = 22 → wM D S a4 → sK S a4 = 25 → W p l e (r_L_law rC rS) s m args below meth c H locs cells slots Q (F0 m 2951 ls []) := by
  obtain ⟨hx, hb, hml, hown, hts⟩ := id F
  have hwg : ∀ w ∈ WG, w.before args s = true := fun w h => hts w (List.mem_cons_of_mem _ h)
  intro bc bs cells slots hbc hbs S H locs ls a0 a1 a2 a3 a4 x5 hp hW hE hl hL_a0 hK_a0 hL_a1 hK_a1 hL_a2 hK_a2 hL_a3 hK_a3 hL_a4 hK_a4
  unfold wp_L_law_2951 at hp
  refine lv_goto (tgt := 3394) hx hb dL_law_2951 (by decide) ?_
  exact t_L_law_3394 F hr hlocks hK hl0 hQ q_28 hbc hbs hp hW hE (lv_sub hl [0, 1, 2, 3, 4, 5] rfl) hL_a0 hK_a0 hL_a1 hK_a1 hL_a2 hK_a2 hL_a3 hK_a3 hL_a4 hK_a4
set_option maxHeartbeats 4000000 in
set_option maxRecDepth 100000 in
theorem t_L_law_2907 {p : Program} {l : Launch} {e : Env} {s : State} {m : MethodId} {args : Array Value} {below : List Frame} {meth : Method} {c : Code} {D : wD} {cy : Nat → ClassId} {X : va_W} {A : Nat → Prop} {S0 : wS} {rC rS : Nat} {post : Int32 → wS → Prop} (F : CallFix p m c cL_law 9 s args wz_L_law RL) (hr : meth.sig.returnType = (some .boolean)) (hlocks : meth.locks = false) (hK : wK D cy A s) (hl0 : l.stackTraces = false) {Q : State → Prop} (hQ : ∀ {pc : Nat} {H : Heap} {locs : List Loc} {ls : Array Slot} {S : wS} {r : Int32}, post r S → decode cL_law pc = .ok (.ireturn, 1) → wO D cy X A s.heap S H locs → W p l e (r_L_law rC rS) s m args below meth c H locs rC rS Q (F0 m pc ls [.int r])) {k_28 : Nat → Nat → wS → Nat → Nat → Nat → Nat → Nat → Int32 → Prop} (q_28 : ∀ {bc bs cells slots : Nat} (hbc : cells + bc ≤ rC) (hbs : slots + bs ≤ rS) {S : wS} {H : Heap} {locs : List Loc} {ls : Array Slot} {a0 : Nat} {a1 : Nat} {a2 : Nat} {a3 : Nat} {a4 : Nat} {x5 : Int32}, k_28 bc bs S a0 a1 a2 a3 a4 x5 → wO D cy X A s.heap S H locs → wX D S0 S → lv_has ls 9 [(0, .ref a0), (1, .ref a1), (2, .ref a2), (3, .ref a3), (4, .ref a4), (5, .int x5)] → wM D S a0 → sK S a0 = 21 → wM D S a1 → sK S a1 = 16 → wM D S a2 → sK S a2 = 17 → wM D S a3 → sK S a3 = 22 → wM D S a4 → sK S a4 = 25 → W p l e (r_L_law rC rS) s m args below meth c H locs cells slots Q (F0 m 28 ls [])) : ∀ {bc bs cells slots : Nat} (hbc : cells + bc ≤ rC) (hbs : slots + bs ≤ rS) {S : wS} {H : Heap} {locs : List Loc} {ls : Array Slot} {a0 : Nat} {a1 : Nat} {a2 : Nat} {a3 : Nat} {a4 : Nat} {x5 : Int32}, wp_L_law_2907 D post k_28 bc bs S a0 a1 a2 a3 a4 x5 → wO D cy X A s.heap S H locs → wX D S0 S → lv_has ls 9 [(0, .ref a0), (1, .ref a1), (2, .ref a2), (3, .ref a3), (4, .ref a4), (5, .int x5)] → wM D S a0 → sK S a0 = 21 → wM D S a1 → sK S a1 = 16 → wM D S a2 → sK S a2 = 17 → wM D S a3 → sK S a3 = 22 → wM D S a4 → sK S a4 = 25 → W p l e (r_L_law rC rS) s m args below meth c H locs cells slots Q (F0 m 2907 ls []) := by
  obtain ⟨hx, hb, hml, hown, hts⟩ := id F
  have hwg : ∀ w ∈ WG, w.before args s = true := fun w h => hts w (List.mem_cons_of_mem _ h)
  intro bc bs cells slots hbc hbs S H locs ls a0 a1 a2 a3 a4 x5 hp hW hE hl hL_a0 hK_a0 hL_a1 hK_a1 hL_a2 hK_a2 hL_a3 hK_a3 hL_a4 hK_a4
  unfold wp_L_law_2907 at hp
  refine lv_goto (tgt := 3394) hx hb dL_law_2907 (by decide) ?_
  exact t_L_law_3394 F hr hlocks hK hl0 hQ q_28 hbc hbs hp hW hE (lv_sub hl [0, 1, 2, 3, 4, 5] rfl) hL_a0 hK_a0 hL_a1 hK_a1 hL_a2 hK_a2 hL_a3 hK_a3 hL_a4 hK_a4
set_option maxHeartbeats 4000000 in
set_option maxRecDepth 100000 in
theorem t_L_law_2863 {p : Program} {l : Launch} {e : Env} {s : State} {m : MethodId} {args : Array Value} {below : List Frame} {meth : Method} {c : Code} {D : wD} {cy : Nat → ClassId} {X : va_W} {A : Nat → Prop} {S0 : wS} {rC rS : Nat} {post : Int32 → wS → Prop} (F : CallFix p m c cL_law 9 s args wz_L_law RL) (hr : meth.sig.returnType = (some .boolean)) (hlocks : meth.locks = false) (hK : wK D cy A s) (hl0 : l.stackTraces = false) {Q : State → Prop} (hQ : ∀ {pc : Nat} {H : Heap} {locs : List Loc} {ls : Array Slot} {S : wS} {r : Int32}, post r S → decode cL_law pc = .ok (.ireturn, 1) → wO D cy X A s.heap S H locs → W p l e (r_L_law rC rS) s m args below meth c H locs rC rS Q (F0 m pc ls [.int r])) {k_28 : Nat → Nat → wS → Nat → Nat → Nat → Nat → Nat → Int32 → Prop} (q_28 : ∀ {bc bs cells slots : Nat} (hbc : cells + bc ≤ rC) (hbs : slots + bs ≤ rS) {S : wS} {H : Heap} {locs : List Loc} {ls : Array Slot} {a0 : Nat} {a1 : Nat} {a2 : Nat} {a3 : Nat} {a4 : Nat} {x5 : Int32}, k_28 bc bs S a0 a1 a2 a3 a4 x5 → wO D cy X A s.heap S H locs → wX D S0 S → lv_has ls 9 [(0, .ref a0), (1, .ref a1), (2, .ref a2), (3, .ref a3), (4, .ref a4), (5, .int x5)] → wM D S a0 → sK S a0 = 21 → wM D S a1 → sK S a1 = 16 → wM D S a2 → sK S a2 = 17 → wM D S a3 → sK S a3 = 22 → wM D S a4 → sK S a4 = 25 → W p l e (r_L_law rC rS) s m args below meth c H locs cells slots Q (F0 m 28 ls [])) : ∀ {bc bs cells slots : Nat} (hbc : cells + bc ≤ rC) (hbs : slots + bs ≤ rS) {S : wS} {H : Heap} {locs : List Loc} {ls : Array Slot} {a0 : Nat} {a1 : Nat} {a2 : Nat} {a3 : Nat} {a4 : Nat} {x5 : Int32}, wp_L_law_2863 D post k_28 bc bs S a0 a1 a2 a3 a4 x5 → wO D cy X A s.heap S H locs → wX D S0 S → lv_has ls 9 [(0, .ref a0), (1, .ref a1), (2, .ref a2), (3, .ref a3), (4, .ref a4), (5, .int x5)] → wM D S a0 → sK S a0 = 21 → wM D S a1 → sK S a1 = 16 → wM D S a2 → sK S a2 = 17 → wM D S a3 → sK S a3 = 22 → wM D S a4 → sK S a4 = 25 → W p l e (r_L_law rC rS) s m args below meth c H locs cells slots Q (F0 m 2863 ls []) := by
  obtain ⟨hx, hb, hml, hown, hts⟩ := id F
  have hwg : ∀ w ∈ WG, w.before args s = true := fun w h => hts w (List.mem_cons_of_mem _ h)
  intro bc bs cells slots hbc hbs S H locs ls a0 a1 a2 a3 a4 x5 hp hW hE hl hL_a0 hK_a0 hL_a1 hK_a1 hL_a2 hK_a2 hL_a3 hK_a3 hL_a4 hK_a4
  unfold wp_L_law_2863 at hp
  refine lv_goto (tgt := 3394) hx hb dL_law_2863 (by decide) ?_
  exact t_L_law_3394 F hr hlocks hK hl0 hQ q_28 hbc hbs hp hW hE (lv_sub hl [0, 1, 2, 3, 4, 5] rfl) hL_a0 hK_a0 hL_a1 hK_a1 hL_a2 hK_a2 hL_a3 hK_a3 hL_a4 hK_a4
set_option maxHeartbeats 4000000 in
set_option maxRecDepth 100000 in
theorem t_L_law_2819 {p : Program} {l : Launch} {e : Env} {s : State} {m : MethodId} {args : Array Value} {below : List Frame} {meth : Method} {c : Code} {D : wD} {cy : Nat → ClassId} {X : va_W} {A : Nat → Prop} {S0 : wS} {rC rS : Nat} {post : Int32 → wS → Prop} (F : CallFix p m c cL_law 9 s args wz_L_law RL) (hr : meth.sig.returnType = (some .boolean)) (hlocks : meth.locks = false) (hK : wK D cy A s) (hl0 : l.stackTraces = false) {Q : State → Prop} (hQ : ∀ {pc : Nat} {H : Heap} {locs : List Loc} {ls : Array Slot} {S : wS} {r : Int32}, post r S → decode cL_law pc = .ok (.ireturn, 1) → wO D cy X A s.heap S H locs → W p l e (r_L_law rC rS) s m args below meth c H locs rC rS Q (F0 m pc ls [.int r])) {k_28 : Nat → Nat → wS → Nat → Nat → Nat → Nat → Nat → Int32 → Prop} (q_28 : ∀ {bc bs cells slots : Nat} (hbc : cells + bc ≤ rC) (hbs : slots + bs ≤ rS) {S : wS} {H : Heap} {locs : List Loc} {ls : Array Slot} {a0 : Nat} {a1 : Nat} {a2 : Nat} {a3 : Nat} {a4 : Nat} {x5 : Int32}, k_28 bc bs S a0 a1 a2 a3 a4 x5 → wO D cy X A s.heap S H locs → wX D S0 S → lv_has ls 9 [(0, .ref a0), (1, .ref a1), (2, .ref a2), (3, .ref a3), (4, .ref a4), (5, .int x5)] → wM D S a0 → sK S a0 = 21 → wM D S a1 → sK S a1 = 16 → wM D S a2 → sK S a2 = 17 → wM D S a3 → sK S a3 = 22 → wM D S a4 → sK S a4 = 25 → W p l e (r_L_law rC rS) s m args below meth c H locs cells slots Q (F0 m 28 ls [])) : ∀ {bc bs cells slots : Nat} (hbc : cells + bc ≤ rC) (hbs : slots + bs ≤ rS) {S : wS} {H : Heap} {locs : List Loc} {ls : Array Slot} {a0 : Nat} {a1 : Nat} {a2 : Nat} {a3 : Nat} {a4 : Nat} {x5 : Int32}, wp_L_law_2819 D post k_28 bc bs S a0 a1 a2 a3 a4 x5 → wO D cy X A s.heap S H locs → wX D S0 S → lv_has ls 9 [(0, .ref a0), (1, .ref a1), (2, .ref a2), (3, .ref a3), (4, .ref a4), (5, .int x5)] → wM D S a0 → sK S a0 = 21 → wM D S a1 → sK S a1 = 16 → wM D S a2 → sK S a2 = 17 → wM D S a3 → sK S a3 = 22 → wM D S a4 → sK S a4 = 25 → W p l e (r_L_law rC rS) s m args below meth c H locs cells slots Q (F0 m 2819 ls []) := by
  obtain ⟨hx, hb, hml, hown, hts⟩ := id F
  have hwg : ∀ w ∈ WG, w.before args s = true := fun w h => hts w (List.mem_cons_of_mem _ h)
  intro bc bs cells slots hbc hbs S H locs ls a0 a1 a2 a3 a4 x5 hp hW hE hl hL_a0 hK_a0 hL_a1 hK_a1 hL_a2 hK_a2 hL_a3 hK_a3 hL_a4 hK_a4
  unfold wp_L_law_2819 at hp
  refine lv_goto (tgt := 3394) hx hb dL_law_2819 (by decide) ?_
  exact t_L_law_3394 F hr hlocks hK hl0 hQ q_28 hbc hbs hp hW hE (lv_sub hl [0, 1, 2, 3, 4, 5] rfl) hL_a0 hK_a0 hL_a1 hK_a1 hL_a2 hK_a2 hL_a3 hK_a3 hL_a4 hK_a4
set_option maxHeartbeats 4000000 in
set_option maxRecDepth 100000 in
theorem t_L_law_2750 {p : Program} {l : Launch} {e : Env} {s : State} {m : MethodId} {args : Array Value} {below : List Frame} {meth : Method} {c : Code} {D : wD} {cy : Nat → ClassId} {X : va_W} {A : Nat → Prop} {S0 : wS} {rC rS : Nat} {post : Int32 → wS → Prop} (F : CallFix p m c cL_law 9 s args wz_L_law RL) (hr : meth.sig.returnType = (some .boolean)) (hlocks : meth.locks = false) (hK : wK D cy A s) (hl0 : l.stackTraces = false) {Q : State → Prop} (hQ : ∀ {pc : Nat} {H : Heap} {locs : List Loc} {ls : Array Slot} {S : wS} {r : Int32}, post r S → decode cL_law pc = .ok (.ireturn, 1) → wO D cy X A s.heap S H locs → W p l e (r_L_law rC rS) s m args below meth c H locs rC rS Q (F0 m pc ls [.int r])) {k_28 : Nat → Nat → wS → Nat → Nat → Nat → Nat → Nat → Int32 → Prop} (q_28 : ∀ {bc bs cells slots : Nat} (hbc : cells + bc ≤ rC) (hbs : slots + bs ≤ rS) {S : wS} {H : Heap} {locs : List Loc} {ls : Array Slot} {a0 : Nat} {a1 : Nat} {a2 : Nat} {a3 : Nat} {a4 : Nat} {x5 : Int32}, k_28 bc bs S a0 a1 a2 a3 a4 x5 → wO D cy X A s.heap S H locs → wX D S0 S → lv_has ls 9 [(0, .ref a0), (1, .ref a1), (2, .ref a2), (3, .ref a3), (4, .ref a4), (5, .int x5)] → wM D S a0 → sK S a0 = 21 → wM D S a1 → sK S a1 = 16 → wM D S a2 → sK S a2 = 17 → wM D S a3 → sK S a3 = 22 → wM D S a4 → sK S a4 = 25 → W p l e (r_L_law rC rS) s m args below meth c H locs cells slots Q (F0 m 28 ls [])) : ∀ {bc bs cells slots : Nat} (hbc : cells + bc ≤ rC) (hbs : slots + bs ≤ rS) {S : wS} {H : Heap} {locs : List Loc} {ls : Array Slot} {a0 : Nat} {a1 : Nat} {a2 : Nat} {a3 : Nat} {a4 : Nat} {x5 : Int32}, wp_L_law_2750 D post k_28 bc bs S a0 a1 a2 a3 a4 x5 → wO D cy X A s.heap S H locs → wX D S0 S → lv_has ls 9 [(0, .ref a0), (1, .ref a1), (2, .ref a2), (3, .ref a3), (4, .ref a4), (5, .int x5)] → wM D S a0 → sK S a0 = 21 → wM D S a1 → sK S a1 = 16 → wM D S a2 → sK S a2 = 17 → wM D S a3 → sK S a3 = 22 → wM D S a4 → sK S a4 = 25 → W p l e (r_L_law rC rS) s m args below meth c H locs cells slots Q (F0 m 2750 ls []) := by
  obtain ⟨hx, hb, hml, hown, hts⟩ := id F
  have hwg : ∀ w ∈ WG, w.before args s = true := fun w h => hts w (List.mem_cons_of_mem _ h)
  intro bc bs cells slots hbc hbs S H locs ls a0 a1 a2 a3 a4 x5 hp hW hE hl hL_a0 hK_a0 hL_a1 hK_a1 hL_a2 hK_a2 hL_a3 hK_a3 hL_a4 hK_a4
  unfold wp_L_law_2750 at hp
  refine lv_goto (tgt := 3394) hx hb dL_law_2750 (by decide) ?_
  exact t_L_law_3394 F hr hlocks hK hl0 hQ q_28 hbc hbs hp hW hE (lv_sub hl [0, 1, 2, 3, 4, 5] rfl) hL_a0 hK_a0 hL_a1 hK_a1 hL_a2 hK_a2 hL_a3 hK_a3 hL_a4 hK_a4
set_option maxHeartbeats 4000000 in
set_option maxRecDepth 100000 in
theorem t_L_law_2669 {p : Program} {l : Launch} {e : Env} {s : State} {m : MethodId} {args : Array Value} {below : List Frame} {meth : Method} {c : Code} {D : wD} {cy : Nat → ClassId} {X : va_W} {A : Nat → Prop} {S0 : wS} {rC rS : Nat} {post : Int32 → wS → Prop} (F : CallFix p m c cL_law 9 s args wz_L_law RL) (hr : meth.sig.returnType = (some .boolean)) (hlocks : meth.locks = false) (hK : wK D cy A s) (hl0 : l.stackTraces = false) {Q : State → Prop} (hQ : ∀ {pc : Nat} {H : Heap} {locs : List Loc} {ls : Array Slot} {S : wS} {r : Int32}, post r S → decode cL_law pc = .ok (.ireturn, 1) → wO D cy X A s.heap S H locs → W p l e (r_L_law rC rS) s m args below meth c H locs rC rS Q (F0 m pc ls [.int r])) {k_28 : Nat → Nat → wS → Nat → Nat → Nat → Nat → Nat → Int32 → Prop} (q_28 : ∀ {bc bs cells slots : Nat} (hbc : cells + bc ≤ rC) (hbs : slots + bs ≤ rS) {S : wS} {H : Heap} {locs : List Loc} {ls : Array Slot} {a0 : Nat} {a1 : Nat} {a2 : Nat} {a3 : Nat} {a4 : Nat} {x5 : Int32}, k_28 bc bs S a0 a1 a2 a3 a4 x5 → wO D cy X A s.heap S H locs → wX D S0 S → lv_has ls 9 [(0, .ref a0), (1, .ref a1), (2, .ref a2), (3, .ref a3), (4, .ref a4), (5, .int x5)] → wM D S a0 → sK S a0 = 21 → wM D S a1 → sK S a1 = 16 → wM D S a2 → sK S a2 = 17 → wM D S a3 → sK S a3 = 22 → wM D S a4 → sK S a4 = 25 → W p l e (r_L_law rC rS) s m args below meth c H locs cells slots Q (F0 m 28 ls [])) : ∀ {bc bs cells slots : Nat} (hbc : cells + bc ≤ rC) (hbs : slots + bs ≤ rS) {S : wS} {H : Heap} {locs : List Loc} {ls : Array Slot} {a0 : Nat} {a1 : Nat} {a2 : Nat} {a3 : Nat} {a4 : Nat} {x5 : Int32}, wp_L_law_2669 D post k_28 bc bs S a0 a1 a2 a3 a4 x5 → wO D cy X A s.heap S H locs → wX D S0 S → lv_has ls 9 [(0, .ref a0), (1, .ref a1), (2, .ref a2), (3, .ref a3), (4, .ref a4), (5, .int x5)] → wM D S a0 → sK S a0 = 21 → wM D S a1 → sK S a1 = 16 → wM D S a2 → sK S a2 = 17 → wM D S a3 → sK S a3 = 22 → wM D S a4 → sK S a4 = 25 → W p l e (r_L_law rC rS) s m args below meth c H locs cells slots Q (F0 m 2669 ls []) := by
  obtain ⟨hx, hb, hml, hown, hts⟩ := id F
  have hwg : ∀ w ∈ WG, w.before args s = true := fun w h => hts w (List.mem_cons_of_mem _ h)
  intro bc bs cells slots hbc hbs S H locs ls a0 a1 a2 a3 a4 x5 hp hW hE hl hL_a0 hK_a0 hL_a1 hK_a1 hL_a2 hK_a2 hL_a3 hK_a3 hL_a4 hK_a4
  unfold wp_L_law_2669 at hp
  refine lv_goto (tgt := 3394) hx hb dL_law_2669 (by decide) ?_
  exact t_L_law_3394 F hr hlocks hK hl0 hQ q_28 hbc hbs hp hW hE (lv_sub hl [0, 1, 2, 3, 4, 5] rfl) hL_a0 hK_a0 hL_a1 hK_a1 hL_a2 hK_a2 hL_a3 hK_a3 hL_a4 hK_a4
set_option maxHeartbeats 4000000 in
set_option maxRecDepth 100000 in
theorem t_L_law_2601 {p : Program} {l : Launch} {e : Env} {s : State} {m : MethodId} {args : Array Value} {below : List Frame} {meth : Method} {c : Code} {D : wD} {cy : Nat → ClassId} {X : va_W} {A : Nat → Prop} {S0 : wS} {rC rS : Nat} {post : Int32 → wS → Prop} (F : CallFix p m c cL_law 9 s args wz_L_law RL) (hr : meth.sig.returnType = (some .boolean)) (hlocks : meth.locks = false) (hK : wK D cy A s) (hl0 : l.stackTraces = false) {Q : State → Prop} (hQ : ∀ {pc : Nat} {H : Heap} {locs : List Loc} {ls : Array Slot} {S : wS} {r : Int32}, post r S → decode cL_law pc = .ok (.ireturn, 1) → wO D cy X A s.heap S H locs → W p l e (r_L_law rC rS) s m args below meth c H locs rC rS Q (F0 m pc ls [.int r])) {k_28 : Nat → Nat → wS → Nat → Nat → Nat → Nat → Nat → Int32 → Prop} (q_28 : ∀ {bc bs cells slots : Nat} (hbc : cells + bc ≤ rC) (hbs : slots + bs ≤ rS) {S : wS} {H : Heap} {locs : List Loc} {ls : Array Slot} {a0 : Nat} {a1 : Nat} {a2 : Nat} {a3 : Nat} {a4 : Nat} {x5 : Int32}, k_28 bc bs S a0 a1 a2 a3 a4 x5 → wO D cy X A s.heap S H locs → wX D S0 S → lv_has ls 9 [(0, .ref a0), (1, .ref a1), (2, .ref a2), (3, .ref a3), (4, .ref a4), (5, .int x5)] → wM D S a0 → sK S a0 = 21 → wM D S a1 → sK S a1 = 16 → wM D S a2 → sK S a2 = 17 → wM D S a3 → sK S a3 = 22 → wM D S a4 → sK S a4 = 25 → W p l e (r_L_law rC rS) s m args below meth c H locs cells slots Q (F0 m 28 ls [])) : ∀ {bc bs cells slots : Nat} (hbc : cells + bc ≤ rC) (hbs : slots + bs ≤ rS) {S : wS} {H : Heap} {locs : List Loc} {ls : Array Slot} {a0 : Nat} {a1 : Nat} {a2 : Nat} {a3 : Nat} {a4 : Nat} {x5 : Int32}, wp_L_law_2601 D post k_28 bc bs S a0 a1 a2 a3 a4 x5 → wO D cy X A s.heap S H locs → wX D S0 S → lv_has ls 9 [(0, .ref a0), (1, .ref a1), (2, .ref a2), (3, .ref a3), (4, .ref a4), (5, .int x5)] → wM D S a0 → sK S a0 = 21 → wM D S a1 → sK S a1 = 16 → wM D S a2 → sK S a2 = 17 → wM D S a3 → sK S a3 = 22 → wM D S a4 → sK S a4 = 25 → W p l e (r_L_law rC rS) s m args below meth c H locs cells slots Q (F0 m 2601 ls []) := by
  obtain ⟨hx, hb, hml, hown, hts⟩ := id F
  have hwg : ∀ w ∈ WG, w.before args s = true := fun w h => hts w (List.mem_cons_of_mem _ h)
  intro bc bs cells slots hbc hbs S H locs ls a0 a1 a2 a3 a4 x5 hp hW hE hl hL_a0 hK_a0 hL_a1 hK_a1 hL_a2 hK_a2 hL_a3 hK_a3 hL_a4 hK_a4
  unfold wp_L_law_2601 at hp
  refine lv_goto (tgt := 3394) hx hb dL_law_2601 (by decide) ?_
  exact t_L_law_3394 F hr hlocks hK hl0 hQ q_28 hbc hbs hp hW hE (lv_sub hl [0, 1, 2, 3, 4, 5] rfl) hL_a0 hK_a0 hL_a1 hK_a1 hL_a2 hK_a2 hL_a3 hK_a3 hL_a4 hK_a4
set_option maxHeartbeats 4000000 in
set_option maxRecDepth 100000 in
theorem t_L_law_2533 {p : Program} {l : Launch} {e : Env} {s : State} {m : MethodId} {args : Array Value} {below : List Frame} {meth : Method} {c : Code} {D : wD} {cy : Nat → ClassId} {X : va_W} {A : Nat → Prop} {S0 : wS} {rC rS : Nat} {post : Int32 → wS → Prop} (F : CallFix p m c cL_law 9 s args wz_L_law RL) (hr : meth.sig.returnType = (some .boolean)) (hlocks : meth.locks = false) (hK : wK D cy A s) (hl0 : l.stackTraces = false) {Q : State → Prop} (hQ : ∀ {pc : Nat} {H : Heap} {locs : List Loc} {ls : Array Slot} {S : wS} {r : Int32}, post r S → decode cL_law pc = .ok (.ireturn, 1) → wO D cy X A s.heap S H locs → W p l e (r_L_law rC rS) s m args below meth c H locs rC rS Q (F0 m pc ls [.int r])) {k_28 : Nat → Nat → wS → Nat → Nat → Nat → Nat → Nat → Int32 → Prop} (q_28 : ∀ {bc bs cells slots : Nat} (hbc : cells + bc ≤ rC) (hbs : slots + bs ≤ rS) {S : wS} {H : Heap} {locs : List Loc} {ls : Array Slot} {a0 : Nat} {a1 : Nat} {a2 : Nat} {a3 : Nat} {a4 : Nat} {x5 : Int32}, k_28 bc bs S a0 a1 a2 a3 a4 x5 → wO D cy X A s.heap S H locs → wX D S0 S → lv_has ls 9 [(0, .ref a0), (1, .ref a1), (2, .ref a2), (3, .ref a3), (4, .ref a4), (5, .int x5)] → wM D S a0 → sK S a0 = 21 → wM D S a1 → sK S a1 = 16 → wM D S a2 → sK S a2 = 17 → wM D S a3 → sK S a3 = 22 → wM D S a4 → sK S a4 = 25 → W p l e (r_L_law rC rS) s m args below meth c H locs cells slots Q (F0 m 28 ls [])) : ∀ {bc bs cells slots : Nat} (hbc : cells + bc ≤ rC) (hbs : slots + bs ≤ rS) {S : wS} {H : Heap} {locs : List Loc} {ls : Array Slot} {a0 : Nat} {a1 : Nat} {a2 : Nat} {a3 : Nat} {a4 : Nat} {x5 : Int32}, wp_L_law_2533 D post k_28 bc bs S a0 a1 a2 a3 a4 x5 → wO D cy X A s.heap S H locs → wX D S0 S → lv_has ls 9 [(0, .ref a0), (1, .ref a1), (2, .ref a2), (3, .ref a3), (4, .ref a4), (5, .int x5)] → wM D S a0 → sK S a0 = 21 → wM D S a1 → sK S a1 = 16 → wM D S a2 → sK S a2 = 17 → wM D S a3 → sK S a3 = 22 → wM D S a4 → sK S a4 = 25 → W p l e (r_L_law rC rS) s m args below meth c H locs cells slots Q (F0 m 2533 ls []) := by
  obtain ⟨hx, hb, hml, hown, hts⟩ := id F
  have hwg : ∀ w ∈ WG, w.before args s = true := fun w h => hts w (List.mem_cons_of_mem _ h)
  intro bc bs cells slots hbc hbs S H locs ls a0 a1 a2 a3 a4 x5 hp hW hE hl hL_a0 hK_a0 hL_a1 hK_a1 hL_a2 hK_a2 hL_a3 hK_a3 hL_a4 hK_a4
  unfold wp_L_law_2533 at hp
  refine lv_goto (tgt := 3394) hx hb dL_law_2533 (by decide) ?_
  exact t_L_law_3394 F hr hlocks hK hl0 hQ q_28 hbc hbs hp hW hE (lv_sub hl [0, 1, 2, 3, 4, 5] rfl) hL_a0 hK_a0 hL_a1 hK_a1 hL_a2 hK_a2 hL_a3 hK_a3 hL_a4 hK_a4
set_option maxHeartbeats 4000000 in
set_option maxRecDepth 100000 in
theorem t_L_law_2465 {p : Program} {l : Launch} {e : Env} {s : State} {m : MethodId} {args : Array Value} {below : List Frame} {meth : Method} {c : Code} {D : wD} {cy : Nat → ClassId} {X : va_W} {A : Nat → Prop} {S0 : wS} {rC rS : Nat} {post : Int32 → wS → Prop} (F : CallFix p m c cL_law 9 s args wz_L_law RL) (hr : meth.sig.returnType = (some .boolean)) (hlocks : meth.locks = false) (hK : wK D cy A s) (hl0 : l.stackTraces = false) {Q : State → Prop} (hQ : ∀ {pc : Nat} {H : Heap} {locs : List Loc} {ls : Array Slot} {S : wS} {r : Int32}, post r S → decode cL_law pc = .ok (.ireturn, 1) → wO D cy X A s.heap S H locs → W p l e (r_L_law rC rS) s m args below meth c H locs rC rS Q (F0 m pc ls [.int r])) {k_28 : Nat → Nat → wS → Nat → Nat → Nat → Nat → Nat → Int32 → Prop} (q_28 : ∀ {bc bs cells slots : Nat} (hbc : cells + bc ≤ rC) (hbs : slots + bs ≤ rS) {S : wS} {H : Heap} {locs : List Loc} {ls : Array Slot} {a0 : Nat} {a1 : Nat} {a2 : Nat} {a3 : Nat} {a4 : Nat} {x5 : Int32}, k_28 bc bs S a0 a1 a2 a3 a4 x5 → wO D cy X A s.heap S H locs → wX D S0 S → lv_has ls 9 [(0, .ref a0), (1, .ref a1), (2, .ref a2), (3, .ref a3), (4, .ref a4), (5, .int x5)] → wM D S a0 → sK S a0 = 21 → wM D S a1 → sK S a1 = 16 → wM D S a2 → sK S a2 = 17 → wM D S a3 → sK S a3 = 22 → wM D S a4 → sK S a4 = 25 → W p l e (r_L_law rC rS) s m args below meth c H locs cells slots Q (F0 m 28 ls [])) : ∀ {bc bs cells slots : Nat} (hbc : cells + bc ≤ rC) (hbs : slots + bs ≤ rS) {S : wS} {H : Heap} {locs : List Loc} {ls : Array Slot} {a0 : Nat} {a1 : Nat} {a2 : Nat} {a3 : Nat} {a4 : Nat} {x5 : Int32}, wp_L_law_2465 D post k_28 bc bs S a0 a1 a2 a3 a4 x5 → wO D cy X A s.heap S H locs → wX D S0 S → lv_has ls 9 [(0, .ref a0), (1, .ref a1), (2, .ref a2), (3, .ref a3), (4, .ref a4), (5, .int x5)] → wM D S a0 → sK S a0 = 21 → wM D S a1 → sK S a1 = 16 → wM D S a2 → sK S a2 = 17 → wM D S a3 → sK S a3 = 22 → wM D S a4 → sK S a4 = 25 → W p l e (r_L_law rC rS) s m args below meth c H locs cells slots Q (F0 m 2465 ls []) := by
  obtain ⟨hx, hb, hml, hown, hts⟩ := id F
  have hwg : ∀ w ∈ WG, w.before args s = true := fun w h => hts w (List.mem_cons_of_mem _ h)
  intro bc bs cells slots hbc hbs S H locs ls a0 a1 a2 a3 a4 x5 hp hW hE hl hL_a0 hK_a0 hL_a1 hK_a1 hL_a2 hK_a2 hL_a3 hK_a3 hL_a4 hK_a4
  unfold wp_L_law_2465 at hp
  refine lv_goto (tgt := 3394) hx hb dL_law_2465 (by decide) ?_
  exact t_L_law_3394 F hr hlocks hK hl0 hQ q_28 hbc hbs hp hW hE (lv_sub hl [0, 1, 2, 3, 4, 5] rfl) hL_a0 hK_a0 hL_a1 hK_a1 hL_a2 hK_a2 hL_a3 hK_a3 hL_a4 hK_a4
set_option maxHeartbeats 4000000 in
set_option maxRecDepth 100000 in
theorem t_L_law_2397 {p : Program} {l : Launch} {e : Env} {s : State} {m : MethodId} {args : Array Value} {below : List Frame} {meth : Method} {c : Code} {D : wD} {cy : Nat → ClassId} {X : va_W} {A : Nat → Prop} {S0 : wS} {rC rS : Nat} {post : Int32 → wS → Prop} (F : CallFix p m c cL_law 9 s args wz_L_law RL) (hr : meth.sig.returnType = (some .boolean)) (hlocks : meth.locks = false) (hK : wK D cy A s) (hl0 : l.stackTraces = false) {Q : State → Prop} (hQ : ∀ {pc : Nat} {H : Heap} {locs : List Loc} {ls : Array Slot} {S : wS} {r : Int32}, post r S → decode cL_law pc = .ok (.ireturn, 1) → wO D cy X A s.heap S H locs → W p l e (r_L_law rC rS) s m args below meth c H locs rC rS Q (F0 m pc ls [.int r])) {k_28 : Nat → Nat → wS → Nat → Nat → Nat → Nat → Nat → Int32 → Prop} (q_28 : ∀ {bc bs cells slots : Nat} (hbc : cells + bc ≤ rC) (hbs : slots + bs ≤ rS) {S : wS} {H : Heap} {locs : List Loc} {ls : Array Slot} {a0 : Nat} {a1 : Nat} {a2 : Nat} {a3 : Nat} {a4 : Nat} {x5 : Int32}, k_28 bc bs S a0 a1 a2 a3 a4 x5 → wO D cy X A s.heap S H locs → wX D S0 S → lv_has ls 9 [(0, .ref a0), (1, .ref a1), (2, .ref a2), (3, .ref a3), (4, .ref a4), (5, .int x5)] → wM D S a0 → sK S a0 = 21 → wM D S a1 → sK S a1 = 16 → wM D S a2 → sK S a2 = 17 → wM D S a3 → sK S a3 = 22 → wM D S a4 → sK S a4 = 25 → W p l e (r_L_law rC rS) s m args below meth c H locs cells slots Q (F0 m 28 ls [])) : ∀ {bc bs cells slots : Nat} (hbc : cells + bc ≤ rC) (hbs : slots + bs ≤ rS) {S : wS} {H : Heap} {locs : List Loc} {ls : Array Slot} {a0 : Nat} {a1 : Nat} {a2 : Nat} {a3 : Nat} {a4 : Nat} {x5 : Int32}, wp_L_law_2397 D post k_28 bc bs S a0 a1 a2 a3 a4 x5 → wO D cy X A s.heap S H locs → wX D S0 S → lv_has ls 9 [(0, .ref a0), (1, .ref a1), (2, .ref a2), (3, .ref a3), (4, .ref a4), (5, .int x5)] → wM D S a0 → sK S a0 = 21 → wM D S a1 → sK S a1 = 16 → wM D S a2 → sK S a2 = 17 → wM D S a3 → sK S a3 = 22 → wM D S a4 → sK S a4 = 25 → W p l e (r_L_law rC rS) s m args below meth c H locs cells slots Q (F0 m 2397 ls []) := by
  obtain ⟨hx, hb, hml, hown, hts⟩ := id F
  have hwg : ∀ w ∈ WG, w.before args s = true := fun w h => hts w (List.mem_cons_of_mem _ h)
  intro bc bs cells slots hbc hbs S H locs ls a0 a1 a2 a3 a4 x5 hp hW hE hl hL_a0 hK_a0 hL_a1 hK_a1 hL_a2 hK_a2 hL_a3 hK_a3 hL_a4 hK_a4
  unfold wp_L_law_2397 at hp
  refine lv_goto (tgt := 3394) hx hb dL_law_2397 (by decide) ?_
  exact t_L_law_3394 F hr hlocks hK hl0 hQ q_28 hbc hbs hp hW hE (lv_sub hl [0, 1, 2, 3, 4, 5] rfl) hL_a0 hK_a0 hL_a1 hK_a1 hL_a2 hK_a2 hL_a3 hK_a3 hL_a4 hK_a4
set_option maxHeartbeats 4000000 in
set_option maxRecDepth 100000 in
theorem t_L_law_2341 {p : Program} {l : Launch} {e : Env} {s : State} {m : MethodId} {args : Array Value} {below : List Frame} {meth : Method} {c : Code} {D : wD} {cy : Nat → ClassId} {X : va_W} {A : Nat → Prop} {S0 : wS} {rC rS : Nat} {post : Int32 → wS → Prop} (F : CallFix p m c cL_law 9 s args wz_L_law RL) (hr : meth.sig.returnType = (some .boolean)) (hlocks : meth.locks = false) (hK : wK D cy A s) (hl0 : l.stackTraces = false) {Q : State → Prop} (hQ : ∀ {pc : Nat} {H : Heap} {locs : List Loc} {ls : Array Slot} {S : wS} {r : Int32}, post r S → decode cL_law pc = .ok (.ireturn, 1) → wO D cy X A s.heap S H locs → W p l e (r_L_law rC rS) s m args below meth c H locs rC rS Q (F0 m pc ls [.int r])) {k_28 : Nat → Nat → wS → Nat → Nat → Nat → Nat → Nat → Int32 → Prop} (q_28 : ∀ {bc bs cells slots : Nat} (hbc : cells + bc ≤ rC) (hbs : slots + bs ≤ rS) {S : wS} {H : Heap} {locs : List Loc} {ls : Array Slot} {a0 : Nat} {a1 : Nat} {a2 : Nat} {a3 : Nat} {a4 : Nat} {x5 : Int32}, k_28 bc bs S a0 a1 a2 a3 a4 x5 → wO D cy X A s.heap S H locs → wX D S0 S → lv_has ls 9 [(0, .ref a0), (1, .ref a1), (2, .ref a2), (3, .ref a3), (4, .ref a4), (5, .int x5)] → wM D S a0 → sK S a0 = 21 → wM D S a1 → sK S a1 = 16 → wM D S a2 → sK S a2 = 17 → wM D S a3 → sK S a3 = 22 → wM D S a4 → sK S a4 = 25 → W p l e (r_L_law rC rS) s m args below meth c H locs cells slots Q (F0 m 28 ls [])) : ∀ {bc bs cells slots : Nat} (hbc : cells + bc ≤ rC) (hbs : slots + bs ≤ rS) {S : wS} {H : Heap} {locs : List Loc} {ls : Array Slot} {a0 : Nat} {a1 : Nat} {a2 : Nat} {a3 : Nat} {a4 : Nat} {x5 : Int32}, wp_L_law_2341 D post k_28 bc bs S a0 a1 a2 a3 a4 x5 → wO D cy X A s.heap S H locs → wX D S0 S → lv_has ls 9 [(0, .ref a0), (1, .ref a1), (2, .ref a2), (3, .ref a3), (4, .ref a4), (5, .int x5)] → wM D S a0 → sK S a0 = 21 → wM D S a1 → sK S a1 = 16 → wM D S a2 → sK S a2 = 17 → wM D S a3 → sK S a3 = 22 → wM D S a4 → sK S a4 = 25 → W p l e (r_L_law rC rS) s m args below meth c H locs cells slots Q (F0 m 2341 ls []) := by
  obtain ⟨hx, hb, hml, hown, hts⟩ := id F
  have hwg : ∀ w ∈ WG, w.before args s = true := fun w h => hts w (List.mem_cons_of_mem _ h)
  intro bc bs cells slots hbc hbs S H locs ls a0 a1 a2 a3 a4 x5 hp hW hE hl hL_a0 hK_a0 hL_a1 hK_a1 hL_a2 hK_a2 hL_a3 hK_a3 hL_a4 hK_a4
  unfold wp_L_law_2341 at hp
  refine lv_goto (tgt := 3394) hx hb dL_law_2341 (by decide) ?_
  exact t_L_law_3394 F hr hlocks hK hl0 hQ q_28 hbc hbs hp hW hE (lv_sub hl [0, 1, 2, 3, 4, 5] rfl) hL_a0 hK_a0 hL_a1 hK_a1 hL_a2 hK_a2 hL_a3 hK_a3 hL_a4 hK_a4
set_option maxHeartbeats 4000000 in
set_option maxRecDepth 100000 in
theorem t_L_law_2308 {p : Program} {l : Launch} {e : Env} {s : State} {m : MethodId} {args : Array Value} {below : List Frame} {meth : Method} {c : Code} {D : wD} {cy : Nat → ClassId} {X : va_W} {A : Nat → Prop} {S0 : wS} {rC rS : Nat} {post : Int32 → wS → Prop} (F : CallFix p m c cL_law 9 s args wz_L_law RL) (hr : meth.sig.returnType = (some .boolean)) (hlocks : meth.locks = false) (hK : wK D cy A s) (hl0 : l.stackTraces = false) {Q : State → Prop} (hQ : ∀ {pc : Nat} {H : Heap} {locs : List Loc} {ls : Array Slot} {S : wS} {r : Int32}, post r S → decode cL_law pc = .ok (.ireturn, 1) → wO D cy X A s.heap S H locs → W p l e (r_L_law rC rS) s m args below meth c H locs rC rS Q (F0 m pc ls [.int r])) {k_28 : Nat → Nat → wS → Nat → Nat → Nat → Nat → Nat → Int32 → Prop} (q_28 : ∀ {bc bs cells slots : Nat} (hbc : cells + bc ≤ rC) (hbs : slots + bs ≤ rS) {S : wS} {H : Heap} {locs : List Loc} {ls : Array Slot} {a0 : Nat} {a1 : Nat} {a2 : Nat} {a3 : Nat} {a4 : Nat} {x5 : Int32}, k_28 bc bs S a0 a1 a2 a3 a4 x5 → wO D cy X A s.heap S H locs → wX D S0 S → lv_has ls 9 [(0, .ref a0), (1, .ref a1), (2, .ref a2), (3, .ref a3), (4, .ref a4), (5, .int x5)] → wM D S a0 → sK S a0 = 21 → wM D S a1 → sK S a1 = 16 → wM D S a2 → sK S a2 = 17 → wM D S a3 → sK S a3 = 22 → wM D S a4 → sK S a4 = 25 → W p l e (r_L_law rC rS) s m args below meth c H locs cells slots Q (F0 m 28 ls [])) : ∀ {bc bs cells slots : Nat} (hbc : cells + bc ≤ rC) (hbs : slots + bs ≤ rS) {S : wS} {H : Heap} {locs : List Loc} {ls : Array Slot} {a0 : Nat} {a1 : Nat} {a2 : Nat} {a3 : Nat} {a4 : Nat} {x5 : Int32} {x6 : Int32} {b0 : Nat} {t1 : Int32} {t2 : Int32}, wp_L_law_2308 D post k_28 bc bs S a0 a1 a2 a3 a4 x5 x6 b0 t1 t2 → wO D cy X A s.heap S H locs → wX D S0 S → lv_has ls 9 [(0, .ref a0), (1, .ref a1), (2, .ref a2), (3, .ref a3), (4, .ref a4), (5, .int x5), (6, .int x6)] → wM D S a0 → sK S a0 = 21 → wM D S a1 → sK S a1 = 16 → wM D S a2 → sK S a2 = 17 → wM D S a3 → sK S a3 = 22 → wM D S a4 → sK S a4 = 25 → wM D S b0 → sK S b0 = 17 → W p l e (r_L_law rC rS) s m args below meth c H locs cells slots Q (F0 m 2308 ls [.int t2, .int t1, .ref b0]) := by
  obtain ⟨hx, hb, hml, hown, hts⟩ := id F
  have hwg : ∀ w ∈ WG, w.before args s = true := fun w h => hts w (List.mem_cons_of_mem _ h)
  intro bc bs cells slots hbc hbs S H locs ls a0 a1 a2 a3 a4 x5 x6 b0 t1 t2 hp hW hE hl hL_a0 hK_a0 hL_a1 hK_a1 hL_a2 hK_a2 hL_a3 hK_a3 hL_a4 hK_a4 hL_b0 hK_b0
  unfold wp_L_law_2308 at hp
  refine w_callI (va_runV (As := [.int t1, .int t2]) (rest := []) F (c_X12_meanStrength l hL_b0 hK_b0 hp H.size) (cwV (C := RX12) 2 hts (wg_V wm_RL_324 wy_X12_meanStrength) rfl rfl rfl (by decide +kernel) ⟨Nat.le_of_ble_eq_true rfl, Nat.le_of_ble_eq_true rfl⟩) (w_preV hK hW hL_b0 hK_b0 (by decide) rfl) rfl rfl hl.1 rfl (lv_room (Nat.le_of_ble_eq_true rfl)) dL_law_2308 ⟨by show _ ≤ rC; exact Nat.le_trans (Nat.le_add_right _ _) hbc, by show _ ≤ rS; exact Nat.le_trans (Nat.le_add_right _ _) hbs⟩) hW (fun r_1 S_2 H locs hp hW => ?_)
  obtain ⟨hX_S_2, hp⟩ := hp
  refine w_same ?_
  have hE := hE.trans hX_S_2
  have hK_a0 : sK S_2 a0 = 21 := (hX_S_2.2 a0 hL_a0).1.trans hK_a0
  have hL_a0 : wM D S_2 a0 := hX_S_2.M hL_a0
  have hK_a1 : sK S_2 a1 = 16 := (hX_S_2.2 a1 hL_a1).1.trans hK_a1
  have hL_a1 : wM D S_2 a1 := hX_S_2.M hL_a1
  have hK_a2 : sK S_2 a2 = 17 := (hX_S_2.2 a2 hL_a2).1.trans hK_a2
  have hL_a2 : wM D S_2 a2 := hX_S_2.M hL_a2
  have hK_a3 : sK S_2 a3 = 22 := (hX_S_2.2 a3 hL_a3).1.trans hK_a3
  have hL_a3 : wM D S_2 a3 := hX_S_2.M hL_a3
  have hK_a4 : sK S_2 a4 = 25 := (hX_S_2.2 a4 hL_a4).1.trans hK_a4
  have hL_a4 : wM D S_2 a4 := hX_S_2.M hL_a4
  refine lv_istore (lv' := [(7, .int r_1), (0, .ref a0), (1, .ref a1), (2, .ref a2), (3, .ref a3), (4, .ref a4), (5, .int x5), (6, .int x6)]) hx hb dL_law_2311 hl (by decide) rfl (fun ls hl => ?_)
  refine lv_aload_n hx hb dL_law_2313 rfl (lv_at hl 3 rfl) ?_
  refine w_callI (va_runV (As := []) (rest := []) F (c_X12_thrown l hL_a2 hK_a2 hp H.size) (cwV (C := RX12) 0 hts (wg_V wm_RL_181 wy_X12_thrown) rfl rfl rfl (by decide +kernel) ⟨Nat.le_of_ble_eq_true rfl, Nat.le_of_ble_eq_true rfl⟩) (w_preV hK hW hL_a2 hK_a2 (by decide) rfl) rfl rfl hl.1 rfl (lv_room (Nat.le_of_ble_eq_true rfl)) dL_law_2314 ⟨by show _ ≤ rC; exact Nat.le_trans (Nat.le_add_right _ _) hbc, by show _ ≤ rS; exact Nat.le_trans (Nat.le_add_right _ _) hbs⟩) hW (fun r_3 S_4 H locs hp hW => ?_)
  obtain ⟨hX_S_4, hp⟩ := hp
  refine w_same ?_
  have hE := hE.trans hX_S_4
  have hK_a0 : sK S_4 a0 = 21 := (hX_S_4.2 a0 hL_a0).1.trans hK_a0
  have hL_a0 : wM D S_4 a0 := hX_S_4.M hL_a0
  have hK_a1 : sK S_4 a1 = 16 := (hX_S_4.2 a1 hL_a1).1.trans hK_a1
  have hL_a1 : wM D S_4 a1 := hX_S_4.M hL_a1
  have hK_a2 : sK S_4 a2 = 17 := (hX_S_4.2 a2 hL_a2).1.trans hK_a2
  have hL_a2 : wM D S_4 a2 := hX_S_4.M hL_a2
  have hK_a3 : sK S_4 a3 = 22 := (hX_S_4.2 a3 hL_a3).1.trans hK_a3
  have hL_a3 : wM D S_4 a3 := hX_S_4.M hL_a3
  have hK_a4 : sK S_4 a4 = 25 := (hX_S_4.2 a4 hL_a4).1.trans hK_a4
  have hL_a4 : wM D S_4 a4 := hX_S_4.M hL_a4
  refine lv_iload hx hb dL_law_2317 (lv_at hl 7 rfl) ?_
  refine lv_icmp_eq (tgt := 2324) hx hb dL_law_2319 (by decide) (fun c_5 => ?_) (fun c_5 => ?_)
  · replace hp := hp.1 c_5
    refine lv_iload hx hb dL_law_2324 (lv_at hl 7 rfl) ?_
    refine lv_if_ne (tgt := 2341) hx hb dL_law_2326 (by decide) (fun c_6 => ?_) (fun c_6 => ?_)
    · replace hp := hp.1 c_6
      exact t_L_law_2341 F hr hlocks hK hl0 hQ q_28 hbc hbs hp hW hE (lv_sub hl [1, 2, 3, 4, 5, 6] rfl) hL_a0 hK_a0 hL_a1 hK_a1 hL_a2 hK_a2 hL_a3 hK_a3 hL_a4 hK_a4
    · replace hp := hp.2 c_6
      refine lv_aload_n hx hb dL_law_2329 rfl (lv_at hl 4 rfl) ?_
      refine lv_iconst (v := 0) hx hb dL_law_2330 (by decide) ?_
      obtain ⟨h_7, hp⟩ := hp
      refine w_lld F hK hW hL_a3 hK_a3 h_7 dL_law_2331 ?_
      refine lv_iload hx hb dL_law_2332 (lv_at hl 0 rfl) ?_
      refine lv_i2l (v := (Int32.toInt64 r_1)) hx hb dL_law_2334 rfl ?_
      refine W.lcmp hx hb dL_law_2335 ?_
      refine lv_if_eq (tgt := 2341) hx hb dL_law_2336 (by decide) (fun c_8 => ?_) (fun c_8 => ?_)
      · replace hp := hp.1 c_8
        exact t_L_law_2341 F hr hlocks hK hl0 hQ q_28 hbc hbs hp hW hE (lv_sub hl [1, 2, 3, 4, 5, 6] rfl) hL_a0 hK_a0 hL_a1 hK_a1 hL_a2 hK_a2 hL_a3 hK_a3 hL_a4 hK_a4
      · replace hp := hp.2 c_8
        refine lv_iconst (v := 0) hx hb dL_law_2339 (by decide) ?_
        refine W.widen (k := rC) (n := rS) (Nat.le_trans (Nat.le_add_right _ _) hbc) (Nat.le_trans (Nat.le_add_right _ _) hbs) ?_
        exact hQ hp dL_law_2340 hW
  · replace hp := hp.2 c_5
    refine lv_iconst (v := 0) hx hb dL_law_2322 (by decide) ?_
    refine W.widen (k := rC) (n := rS) (Nat.le_trans (Nat.le_add_right _ _) hbc) (Nat.le_trans (Nat.le_add_right _ _) hbs) ?_
    exact hQ hp dL_law_2323 hW
set_option maxHeartbeats 4000000 in
set_option maxRecDepth 100000 in
theorem t_L_law_2281 {p : Program} {l : Launch} {e : Env} {s : State} {m : MethodId} {args : Array Value} {below : List Frame} {meth : Method} {c : Code} {D : wD} {cy : Nat → ClassId} {X : va_W} {A : Nat → Prop} {S0 : wS} {rC rS : Nat} {post : Int32 → wS → Prop} (F : CallFix p m c cL_law 9 s args wz_L_law RL) (hr : meth.sig.returnType = (some .boolean)) (hlocks : meth.locks = false) (hK : wK D cy A s) (hl0 : l.stackTraces = false) {Q : State → Prop} (hQ : ∀ {pc : Nat} {H : Heap} {locs : List Loc} {ls : Array Slot} {S : wS} {r : Int32}, post r S → decode cL_law pc = .ok (.ireturn, 1) → wO D cy X A s.heap S H locs → W p l e (r_L_law rC rS) s m args below meth c H locs rC rS Q (F0 m pc ls [.int r])) {k_28 : Nat → Nat → wS → Nat → Nat → Nat → Nat → Nat → Int32 → Prop} (q_28 : ∀ {bc bs cells slots : Nat} (hbc : cells + bc ≤ rC) (hbs : slots + bs ≤ rS) {S : wS} {H : Heap} {locs : List Loc} {ls : Array Slot} {a0 : Nat} {a1 : Nat} {a2 : Nat} {a3 : Nat} {a4 : Nat} {x5 : Int32}, k_28 bc bs S a0 a1 a2 a3 a4 x5 → wO D cy X A s.heap S H locs → wX D S0 S → lv_has ls 9 [(0, .ref a0), (1, .ref a1), (2, .ref a2), (3, .ref a3), (4, .ref a4), (5, .int x5)] → wM D S a0 → sK S a0 = 21 → wM D S a1 → sK S a1 = 16 → wM D S a2 → sK S a2 = 17 → wM D S a3 → sK S a3 = 22 → wM D S a4 → sK S a4 = 25 → W p l e (r_L_law rC rS) s m args below meth c H locs cells slots Q (F0 m 28 ls [])) : ∀ {bc bs cells slots : Nat} (hbc : cells + bc ≤ rC) (hbs : slots + bs ≤ rS) {S : wS} {H : Heap} {locs : List Loc} {ls : Array Slot} {a0 : Nat} {a1 : Nat} {a2 : Nat} {a3 : Nat} {a4 : Nat} {x5 : Int32} {b0 : Nat} {t1 : Int32} {t2 : Int32}, wp_L_law_2281 D post k_28 bc bs S a0 a1 a2 a3 a4 x5 b0 t1 t2 → wO D cy X A s.heap S H locs → wX D S0 S → lv_has ls 9 [(0, .ref a0), (1, .ref a1), (2, .ref a2), (3, .ref a3), (4, .ref a4), (5, .int x5)] → wM D S a0 → sK S a0 = 21 → wM D S a1 → sK S a1 = 16 → wM D S a2 → sK S a2 = 17 → wM D S a3 → sK S a3 = 22 → wM D S a4 → sK S a4 = 25 → wM D S b0 → sK S b0 = 16 → W p l e (r_L_law rC rS) s m args below meth c H locs cells slots Q (F0 m 2281 ls [.int t2, .int t1, .ref b0]) := by
  obtain ⟨hx, hb, hml, hown, hts⟩ := id F
  have hwg : ∀ w ∈ WG, w.before args s = true := fun w h => hts w (List.mem_cons_of_mem _ h)
  intro bc bs cells slots hbc hbs S H locs ls a0 a1 a2 a3 a4 x5 b0 t1 t2 hp hW hE hl hL_a0 hK_a0 hL_a1 hK_a1 hL_a2 hK_a2 hL_a3 hK_a3 hL_a4 hK_a4 hL_b0 hK_b0
  unfold wp_L_law_2281 at hp
  refine lv_aload_n hx hb dL_law_2281 rfl (lv_at hl 3 rfl) ?_
  obtain ⟨h_3, h_3z, hp⟩ := hp
  refine x_callI (vx_runSX (As := [.ref b0, .int t1, .int t2, .ref a3]) (rest := []) F (c_L_meanStrength l hl0 hL_b0 hK_b0 hL_a3 hK_a3 hp H.size) (vx_cwSW 4 hts (wg_S wm_RL_322 wy_L_meanStrength) rfl rfl rfl ⟨by decide, by decide, by decide +kernel⟩ ⟨Nat.le_of_ble_eq_true rfl, Nat.le_of_ble_eq_true rfl⟩) (w_preS hK hW) rfl rfl hl.1 rfl (lv_room (Nat.le_of_ble_eq_true rfl)) dL_law_2282 ⟨by show _ + 2 ≤ rC; omega, by show _ + 12 ≤ rS; omega⟩) hW (fun E ce q9 S9 H locs hp hW h1 h2 h3 => hp.elim) (fun r_1 S_2 H locs hp hW => ?_)
  obtain ⟨hX_S_2, hp⟩ := hp
  refine W.widen (k := _ + 2) (n := _ + 12) (Nat.le_refl _) (Nat.le_refl _) ?_
  replace hbc := w_spend hbc (show 2 ≤ bc by omega)
  replace hbs := w_spend hbs (show 12 ≤ bs by omega)
  have hE := hE.trans hX_S_2
  have hK_a0 : sK S_2 a0 = 21 := (hX_S_2.2 a0 hL_a0).1.trans hK_a0
  have hL_a0 : wM D S_2 a0 := hX_S_2.M hL_a0
  have hK_a1 : sK S_2 a1 = 16 := (hX_S_2.2 a1 hL_a1).1.trans hK_a1
  have hL_a1 : wM D S_2 a1 := hX_S_2.M hL_a1
  have hK_a2 : sK S_2 a2 = 17 := (hX_S_2.2 a2 hL_a2).1.trans hK_a2
  have hL_a2 : wM D S_2 a2 := hX_S_2.M hL_a2
  have hK_a3 : sK S_2 a3 = 22 := (hX_S_2.2 a3 hL_a3).1.trans hK_a3
  have hL_a3 : wM D S_2 a3 := hX_S_2.M hL_a3
  have hK_a4 : sK S_2 a4 = 25 := (hX_S_2.2 a4 hL_a4).1.trans hK_a4
  have hL_a4 : wM D S_2 a4 := hX_S_2.M hL_a4
  refine lv_istore (lv' := [(6, .int r_1), (0, .ref a0), (1, .ref a1), (2, .ref a2), (3, .ref a3), (4, .ref a4), (5, .int x5)]) hx hb dL_law_2285 hl (by decide) rfl (fun ls hl => ?_)
  refine lv_aload_n hx hb dL_law_2287 rfl (lv_at hl 3 rfl) ?_
  refine lv_aload_n hx hb dL_law_2288 rfl (lv_at hl 1 rfl) ?_
  refine lv_iload hx hb dL_law_2289 (lv_at hl 6 rfl) ?_
  refine lv_iconst (v := 1) hx hb dL_law_2291 (by decide) ?_
  refine lv_iadd hx hb dL_law_2292 ?_
  obtain ⟨h_4, hp⟩ := hp
  refine w_ild F hK hW hL_a0 hK_a0 h_4 dL_law_2293 ?_
  refine lv_aload_n hx hb dL_law_2294 rfl (lv_at hl 1 rfl) ?_
  refine lv_iload hx hb dL_law_2295 (lv_at hl 6 rfl) ?_
  refine lv_iconst (v := 2) hx hb dL_law_2297 (by decide) ?_
  refine lv_iadd hx hb dL_law_2298 ?_
  obtain ⟨h_5, hp⟩ := hp
  refine w_ild F hK hW hL_a0 hK_a0 h_5 dL_law_2299 ?_
  refine lv_if_eq (tgt := 2307) hx hb dL_law_2300 (by decide) (fun c_6 => ?_) (fun c_6 => ?_)
  · replace hp := hp.1 c_6
    refine lv_iconst (v := 0) hx hb dL_law_2307 (by decide) ?_
    exact t_L_law_2308 F hr hlocks hK hl0 hQ q_28 hbc hbs hp hW hE (lv_sub hl [1, 2, 3, 4, 5, 6, 0] rfl) hL_a0 hK_a0 hL_a1 hK_a1 hL_a2 hK_a2 hL_a3 hK_a3 hL_a4 hK_a4 hL_a2 hK_a2
  · replace hp := hp.2 c_6
    refine lv_iconst (v := 1) hx hb dL_law_2303 (by decide) ?_
    refine lv_goto (tgt := 2308) hx hb dL_law_2304 (by decide) ?_
    exact t_L_law_2308 F hr hlocks hK hl0 hQ q_28 hbc hbs hp hW hE (lv_sub hl [1, 2, 3, 4, 5, 6, 0] rfl) hL_a0 hK_a0 hL_a1 hK_a1 hL_a2 hK_a2 hL_a3 hK_a3 hL_a4 hK_a4 hL_a2 hK_a2
set_option maxHeartbeats 4000000 in
set_option maxRecDepth 100000 in
theorem t_L_law_2257 {p : Program} {l : Launch} {e : Env} {s : State} {m : MethodId} {args : Array Value} {below : List Frame} {meth : Method} {c : Code} {D : wD} {cy : Nat → ClassId} {X : va_W} {A : Nat → Prop} {S0 : wS} {rC rS : Nat} {post : Int32 → wS → Prop} (F : CallFix p m c cL_law 9 s args wz_L_law RL) (hr : meth.sig.returnType = (some .boolean)) (hlocks : meth.locks = false) (hK : wK D cy A s) (hl0 : l.stackTraces = false) {Q : State → Prop} (hQ : ∀ {pc : Nat} {H : Heap} {locs : List Loc} {ls : Array Slot} {S : wS} {r : Int32}, post r S → decode cL_law pc = .ok (.ireturn, 1) → wO D cy X A s.heap S H locs → W p l e (r_L_law rC rS) s m args below meth c H locs rC rS Q (F0 m pc ls [.int r])) {k_28 : Nat → Nat → wS → Nat → Nat → Nat → Nat → Nat → Int32 → Prop} (q_28 : ∀ {bc bs cells slots : Nat} (hbc : cells + bc ≤ rC) (hbs : slots + bs ≤ rS) {S : wS} {H : Heap} {locs : List Loc} {ls : Array Slot} {a0 : Nat} {a1 : Nat} {a2 : Nat} {a3 : Nat} {a4 : Nat} {x5 : Int32}, k_28 bc bs S a0 a1 a2 a3 a4 x5 → wO D cy X A s.heap S H locs → wX D S0 S → lv_has ls 9 [(0, .ref a0), (1, .ref a1), (2, .ref a2), (3, .ref a3), (4, .ref a4), (5, .int x5)] → wM D S a0 → sK S a0 = 21 → wM D S a1 → sK S a1 = 16 → wM D S a2 → sK S a2 = 17 → wM D S a3 → sK S a3 = 22 → wM D S a4 → sK S a4 = 25 → W p l e (r_L_law rC rS) s m args below meth c H locs cells slots Q (F0 m 28 ls [])) : ∀ {bc bs cells slots : Nat} (hbc : cells + bc ≤ rC) (hbs : slots + bs ≤ rS) {S : wS} {H : Heap} {locs : List Loc} {ls : Array Slot} {a0 : Nat} {a1 : Nat} {a2 : Nat} {a3 : Nat} {a4 : Nat} {x5 : Int32}, wp_L_law_2257 D post k_28 bc bs S a0 a1 a2 a3 a4 x5 → wO D cy X A s.heap S H locs → wX D S0 S → lv_has ls 9 [(0, .ref a0), (1, .ref a1), (2, .ref a2), (3, .ref a3), (4, .ref a4), (5, .int x5)] → wM D S a0 → sK S a0 = 21 → wM D S a1 → sK S a1 = 16 → wM D S a2 → sK S a2 = 17 → wM D S a3 → sK S a3 = 22 → wM D S a4 → sK S a4 = 25 → W p l e (r_L_law rC rS) s m args below meth c H locs cells slots Q (F0 m 2257 ls []) := by
  obtain ⟨hx, hb, hml, hown, hts⟩ := id F
  have hwg : ∀ w ∈ WG, w.before args s = true := fun w h => hts w (List.mem_cons_of_mem _ h)
  intro bc bs cells slots hbc hbs S H locs ls a0 a1 a2 a3 a4 x5 hp hW hE hl hL_a0 hK_a0 hL_a1 hK_a1 hL_a2 hK_a2 hL_a3 hK_a3 hL_a4 hK_a4
  unfold wp_L_law_2257 at hp
  refine lv_goto (tgt := 3394) hx hb dL_law_2257 (by decide) ?_
  exact t_L_law_3394 F hr hlocks hK hl0 hQ q_28 hbc hbs hp hW hE (lv_sub hl [0, 1, 2, 3, 4, 5] rfl) hL_a0 hK_a0 hL_a1 hK_a1 hL_a2 hK_a2 hL_a3 hK_a3 hL_a4 hK_a4
set_option maxHeartbeats 4000000 in
set_option maxRecDepth 100000 in
theorem t_L_law_2177 {p : Program} {l : Launch} {e : Env} {s : State} {m : MethodId} {args : Array Value} {below : List Frame} {meth : Method} {c : Code} {D : wD} {cy : Nat → ClassId} {X : va_W} {A : Nat → Prop} {S0 : wS} {rC rS : Nat} {post : Int32 → wS → Prop} (F : CallFix p m c cL_law 9 s args wz_L_law RL) (hr : meth.sig.returnType = (some .boolean)) (hlocks : meth.locks = false) (hK : wK D cy A s) (hl0 : l.stackTraces = false) {Q : State → Prop} (hQ : ∀ {pc : Nat} {H : Heap} {locs : List Loc} {ls : Array Slot} {S : wS} {r : Int32}, post r S → decode cL_law pc = .ok (.ireturn, 1) → wO D cy X A s.heap S H locs → W p l e (r_L_law rC rS) s m args below meth c H locs rC rS Q (F0 m pc ls [.int r])) {k_28 : Nat → Nat → wS → Nat → Nat → Nat → Nat → Nat → Int32 → Prop} (q_28 : ∀ {bc bs cells slots : Nat} (hbc : cells + bc ≤ rC) (hbs : slots + bs ≤ rS) {S : wS} {H : Heap} {locs : List Loc} {ls : Array Slot} {a0 : Nat} {a1 : Nat} {a2 : Nat} {a3 : Nat} {a4 : Nat} {x5 : Int32}, k_28 bc bs S a0 a1 a2 a3 a4 x5 → wO D cy X A s.heap S H locs → wX D S0 S → lv_has ls 9 [(0, .ref a0), (1, .ref a1), (2, .ref a2), (3, .ref a3), (4, .ref a4), (5, .int x5)] → wM D S a0 → sK S a0 = 21 → wM D S a1 → sK S a1 = 16 → wM D S a2 → sK S a2 = 17 → wM D S a3 → sK S a3 = 22 → wM D S a4 → sK S a4 = 25 → W p l e (r_L_law rC rS) s m args below meth c H locs cells slots Q (F0 m 28 ls [])) : ∀ {bc bs cells slots : Nat} (hbc : cells + bc ≤ rC) (hbs : slots + bs ≤ rS) {S : wS} {H : Heap} {locs : List Loc} {ls : Array Slot} {a0 : Nat} {a1 : Nat} {a2 : Nat} {a3 : Nat} {a4 : Nat} {x5 : Int32}, wp_L_law_2177 D post k_28 bc bs S a0 a1 a2 a3 a4 x5 → wO D cy X A s.heap S H locs → wX D S0 S → lv_has ls 9 [(0, .ref a0), (1, .ref a1), (2, .ref a2), (3, .ref a3), (4, .ref a4), (5, .int x5)] → wM D S a0 → sK S a0 = 21 → wM D S a1 → sK S a1 = 16 → wM D S a2 → sK S a2 = 17 → wM D S a3 → sK S a3 = 22 → wM D S a4 → sK S a4 = 25 → W p l e (r_L_law rC rS) s m args below meth c H locs cells slots Q (F0 m 2177 ls []) := by
  obtain ⟨hx, hb, hml, hown, hts⟩ := id F
  have hwg : ∀ w ∈ WG, w.before args s = true := fun w h => hts w (List.mem_cons_of_mem _ h)
  intro bc bs cells slots hbc hbs S H locs ls a0 a1 a2 a3 a4 x5 hp hW hE hl hL_a0 hK_a0 hL_a1 hK_a1 hL_a2 hK_a2 hL_a3 hK_a3 hL_a4 hK_a4
  unfold wp_L_law_2177 at hp
  refine lv_goto (tgt := 3394) hx hb dL_law_2177 (by decide) ?_
  exact t_L_law_3394 F hr hlocks hK hl0 hQ q_28 hbc hbs hp hW hE (lv_sub hl [0, 1, 2, 3, 4, 5] rfl) hL_a0 hK_a0 hL_a1 hK_a1 hL_a2 hK_a2 hL_a3 hK_a3 hL_a4 hK_a4
set_option maxHeartbeats 4000000 in
set_option maxRecDepth 100000 in
theorem t_L_law_2109 {p : Program} {l : Launch} {e : Env} {s : State} {m : MethodId} {args : Array Value} {below : List Frame} {meth : Method} {c : Code} {D : wD} {cy : Nat → ClassId} {X : va_W} {A : Nat → Prop} {S0 : wS} {rC rS : Nat} {post : Int32 → wS → Prop} (F : CallFix p m c cL_law 9 s args wz_L_law RL) (hr : meth.sig.returnType = (some .boolean)) (hlocks : meth.locks = false) (hK : wK D cy A s) (hl0 : l.stackTraces = false) {Q : State → Prop} (hQ : ∀ {pc : Nat} {H : Heap} {locs : List Loc} {ls : Array Slot} {S : wS} {r : Int32}, post r S → decode cL_law pc = .ok (.ireturn, 1) → wO D cy X A s.heap S H locs → W p l e (r_L_law rC rS) s m args below meth c H locs rC rS Q (F0 m pc ls [.int r])) {k_28 : Nat → Nat → wS → Nat → Nat → Nat → Nat → Nat → Int32 → Prop} (q_28 : ∀ {bc bs cells slots : Nat} (hbc : cells + bc ≤ rC) (hbs : slots + bs ≤ rS) {S : wS} {H : Heap} {locs : List Loc} {ls : Array Slot} {a0 : Nat} {a1 : Nat} {a2 : Nat} {a3 : Nat} {a4 : Nat} {x5 : Int32}, k_28 bc bs S a0 a1 a2 a3 a4 x5 → wO D cy X A s.heap S H locs → wX D S0 S → lv_has ls 9 [(0, .ref a0), (1, .ref a1), (2, .ref a2), (3, .ref a3), (4, .ref a4), (5, .int x5)] → wM D S a0 → sK S a0 = 21 → wM D S a1 → sK S a1 = 16 → wM D S a2 → sK S a2 = 17 → wM D S a3 → sK S a3 = 22 → wM D S a4 → sK S a4 = 25 → W p l e (r_L_law rC rS) s m args below meth c H locs cells slots Q (F0 m 28 ls [])) : ∀ {bc bs cells slots : Nat} (hbc : cells + bc ≤ rC) (hbs : slots + bs ≤ rS) {S : wS} {H : Heap} {locs : List Loc} {ls : Array Slot} {a0 : Nat} {a1 : Nat} {a2 : Nat} {a3 : Nat} {a4 : Nat} {x5 : Int32}, wp_L_law_2109 D post k_28 bc bs S a0 a1 a2 a3 a4 x5 → wO D cy X A s.heap S H locs → wX D S0 S → lv_has ls 9 [(0, .ref a0), (1, .ref a1), (2, .ref a2), (3, .ref a3), (4, .ref a4), (5, .int x5)] → wM D S a0 → sK S a0 = 21 → wM D S a1 → sK S a1 = 16 → wM D S a2 → sK S a2 = 17 → wM D S a3 → sK S a3 = 22 → wM D S a4 → sK S a4 = 25 → W p l e (r_L_law rC rS) s m args below meth c H locs cells slots Q (F0 m 2109 ls []) := by
  obtain ⟨hx, hb, hml, hown, hts⟩ := id F
  have hwg : ∀ w ∈ WG, w.before args s = true := fun w h => hts w (List.mem_cons_of_mem _ h)
  intro bc bs cells slots hbc hbs S H locs ls a0 a1 a2 a3 a4 x5 hp hW hE hl hL_a0 hK_a0 hL_a1 hK_a1 hL_a2 hK_a2 hL_a3 hK_a3 hL_a4 hK_a4
  unfold wp_L_law_2109 at hp
  refine lv_goto (tgt := 3394) hx hb dL_law_2109 (by decide) ?_
  exact t_L_law_3394 F hr hlocks hK hl0 hQ q_28 hbc hbs hp hW hE (lv_sub hl [0, 1, 2, 3, 4, 5] rfl) hL_a0 hK_a0 hL_a1 hK_a1 hL_a2 hK_a2 hL_a3 hK_a3 hL_a4 hK_a4
set_option maxHeartbeats 4000000 in
set_option maxRecDepth 100000 in
theorem t_L_law_2053 {p : Program} {l : Launch} {e : Env} {s : State} {m : MethodId} {args : Array Value} {below : List Frame} {meth : Method} {c : Code} {D : wD} {cy : Nat → ClassId} {X : va_W} {A : Nat → Prop} {S0 : wS} {rC rS : Nat} {post : Int32 → wS → Prop} (F : CallFix p m c cL_law 9 s args wz_L_law RL) (hr : meth.sig.returnType = (some .boolean)) (hlocks : meth.locks = false) (hK : wK D cy A s) (hl0 : l.stackTraces = false) {Q : State → Prop} (hQ : ∀ {pc : Nat} {H : Heap} {locs : List Loc} {ls : Array Slot} {S : wS} {r : Int32}, post r S → decode cL_law pc = .ok (.ireturn, 1) → wO D cy X A s.heap S H locs → W p l e (r_L_law rC rS) s m args below meth c H locs rC rS Q (F0 m pc ls [.int r])) {k_28 : Nat → Nat → wS → Nat → Nat → Nat → Nat → Nat → Int32 → Prop} (q_28 : ∀ {bc bs cells slots : Nat} (hbc : cells + bc ≤ rC) (hbs : slots + bs ≤ rS) {S : wS} {H : Heap} {locs : List Loc} {ls : Array Slot} {a0 : Nat} {a1 : Nat} {a2 : Nat} {a3 : Nat} {a4 : Nat} {x5 : Int32}, k_28 bc bs S a0 a1 a2 a3 a4 x5 → wO D cy X A s.heap S H locs → wX D S0 S → lv_has ls 9 [(0, .ref a0), (1, .ref a1), (2, .ref a2), (3, .ref a3), (4, .ref a4), (5, .int x5)] → wM D S a0 → sK S a0 = 21 → wM D S a1 → sK S a1 = 16 → wM D S a2 → sK S a2 = 17 → wM D S a3 → sK S a3 = 22 → wM D S a4 → sK S a4 = 25 → W p l e (r_L_law rC rS) s m args below meth c H locs cells slots Q (F0 m 28 ls [])) : ∀ {bc bs cells slots : Nat} (hbc : cells + bc ≤ rC) (hbs : slots + bs ≤ rS) {S : wS} {H : Heap} {locs : List Loc} {ls : Array Slot} {a0 : Nat} {a1 : Nat} {a2 : Nat} {a3 : Nat} {a4 : Nat} {x5 : Int32}, wp_L_law_2053 D post k_28 bc bs S a0 a1 a2 a3 a4 x5 → wO D cy X A s.heap S H locs → wX D S0 S → lv_has ls 9 [(0, .ref a0), (1, .ref a1), (2, .ref a2), (3, .ref a3), (4, .ref a4), (5, .int x5)] → wM D S a0 → sK S a0 = 21 → wM D S a1 → sK S a1 = 16 → wM D S a2 → sK S a2 = 17 → wM D S a3 → sK S a3 = 22 → wM D S a4 → sK S a4 = 25 → W p l e (r_L_law rC rS) s m args below meth c H locs cells slots Q (F0 m 2053 ls []) := by
  obtain ⟨hx, hb, hml, hown, hts⟩ := id F
  have hwg : ∀ w ∈ WG, w.before args s = true := fun w h => hts w (List.mem_cons_of_mem _ h)
  intro bc bs cells slots hbc hbs S H locs ls a0 a1 a2 a3 a4 x5 hp hW hE hl hL_a0 hK_a0 hL_a1 hK_a1 hL_a2 hK_a2 hL_a3 hK_a3 hL_a4 hK_a4
  unfold wp_L_law_2053 at hp
  refine lv_goto (tgt := 3394) hx hb dL_law_2053 (by decide) ?_
  exact t_L_law_3394 F hr hlocks hK hl0 hQ q_28 hbc hbs hp hW hE (lv_sub hl [0, 1, 2, 3, 4, 5] rfl) hL_a0 hK_a0 hL_a1 hK_a1 hL_a2 hK_a2 hL_a3 hK_a3 hL_a4 hK_a4
set_option maxHeartbeats 4000000 in
set_option maxRecDepth 100000 in
theorem t_L_law_1997 {p : Program} {l : Launch} {e : Env} {s : State} {m : MethodId} {args : Array Value} {below : List Frame} {meth : Method} {c : Code} {D : wD} {cy : Nat → ClassId} {X : va_W} {A : Nat → Prop} {S0 : wS} {rC rS : Nat} {post : Int32 → wS → Prop} (F : CallFix p m c cL_law 9 s args wz_L_law RL) (hr : meth.sig.returnType = (some .boolean)) (hlocks : meth.locks = false) (hK : wK D cy A s) (hl0 : l.stackTraces = false) {Q : State → Prop} (hQ : ∀ {pc : Nat} {H : Heap} {locs : List Loc} {ls : Array Slot} {S : wS} {r : Int32}, post r S → decode cL_law pc = .ok (.ireturn, 1) → wO D cy X A s.heap S H locs → W p l e (r_L_law rC rS) s m args below meth c H locs rC rS Q (F0 m pc ls [.int r])) {k_28 : Nat → Nat → wS → Nat → Nat → Nat → Nat → Nat → Int32 → Prop} (q_28 : ∀ {bc bs cells slots : Nat} (hbc : cells + bc ≤ rC) (hbs : slots + bs ≤ rS) {S : wS} {H : Heap} {locs : List Loc} {ls : Array Slot} {a0 : Nat} {a1 : Nat} {a2 : Nat} {a3 : Nat} {a4 : Nat} {x5 : Int32}, k_28 bc bs S a0 a1 a2 a3 a4 x5 → wO D cy X A s.heap S H locs → wX D S0 S → lv_has ls 9 [(0, .ref a0), (1, .ref a1), (2, .ref a2), (3, .ref a3), (4, .ref a4), (5, .int x5)] → wM D S a0 → sK S a0 = 21 → wM D S a1 → sK S a1 = 16 → wM D S a2 → sK S a2 = 17 → wM D S a3 → sK S a3 = 22 → wM D S a4 → sK S a4 = 25 → W p l e (r_L_law rC rS) s m args below meth c H locs cells slots Q (F0 m 28 ls [])) : ∀ {bc bs cells slots : Nat} (hbc : cells + bc ≤ rC) (hbs : slots + bs ≤ rS) {S : wS} {H : Heap} {locs : List Loc} {ls : Array Slot} {a0 : Nat} {a1 : Nat} {a2 : Nat} {a3 : Nat} {a4 : Nat} {x5 : Int32}, wp_L_law_1997 D post k_28 bc bs S a0 a1 a2 a3 a4 x5 → wO D cy X A s.heap S H locs → wX D S0 S → lv_has ls 9 [(0, .ref a0), (1, .ref a1), (2, .ref a2), (3, .ref a3), (4, .ref a4), (5, .int x5)] → wM D S a0 → sK S a0 = 21 → wM D S a1 → sK S a1 = 16 → wM D S a2 → sK S a2 = 17 → wM D S a3 → sK S a3 = 22 → wM D S a4 → sK S a4 = 25 → W p l e (r_L_law rC rS) s m args below meth c H locs cells slots Q (F0 m 1997 ls []) := by
  obtain ⟨hx, hb, hml, hown, hts⟩ := id F
  have hwg : ∀ w ∈ WG, w.before args s = true := fun w h => hts w (List.mem_cons_of_mem _ h)
  intro bc bs cells slots hbc hbs S H locs ls a0 a1 a2 a3 a4 x5 hp hW hE hl hL_a0 hK_a0 hL_a1 hK_a1 hL_a2 hK_a2 hL_a3 hK_a3 hL_a4 hK_a4
  unfold wp_L_law_1997 at hp
  refine lv_goto (tgt := 3394) hx hb dL_law_1997 (by decide) ?_
  exact t_L_law_3394 F hr hlocks hK hl0 hQ q_28 hbc hbs hp hW hE (lv_sub hl [0, 1, 2, 3, 4, 5] rfl) hL_a0 hK_a0 hL_a1 hK_a1 hL_a2 hK_a2 hL_a3 hK_a3 hL_a4 hK_a4
set_option maxHeartbeats 4000000 in
set_option maxRecDepth 100000 in
theorem t_L_law_1929 {p : Program} {l : Launch} {e : Env} {s : State} {m : MethodId} {args : Array Value} {below : List Frame} {meth : Method} {c : Code} {D : wD} {cy : Nat → ClassId} {X : va_W} {A : Nat → Prop} {S0 : wS} {rC rS : Nat} {post : Int32 → wS → Prop} (F : CallFix p m c cL_law 9 s args wz_L_law RL) (hr : meth.sig.returnType = (some .boolean)) (hlocks : meth.locks = false) (hK : wK D cy A s) (hl0 : l.stackTraces = false) {Q : State → Prop} (hQ : ∀ {pc : Nat} {H : Heap} {locs : List Loc} {ls : Array Slot} {S : wS} {r : Int32}, post r S → decode cL_law pc = .ok (.ireturn, 1) → wO D cy X A s.heap S H locs → W p l e (r_L_law rC rS) s m args below meth c H locs rC rS Q (F0 m pc ls [.int r])) {k_28 : Nat → Nat → wS → Nat → Nat → Nat → Nat → Nat → Int32 → Prop} (q_28 : ∀ {bc bs cells slots : Nat} (hbc : cells + bc ≤ rC) (hbs : slots + bs ≤ rS) {S : wS} {H : Heap} {locs : List Loc} {ls : Array Slot} {a0 : Nat} {a1 : Nat} {a2 : Nat} {a3 : Nat} {a4 : Nat} {x5 : Int32}, k_28 bc bs S a0 a1 a2 a3 a4 x5 → wO D cy X A s.heap S H locs → wX D S0 S → lv_has ls 9 [(0, .ref a0), (1, .ref a1), (2, .ref a2), (3, .ref a3), (4, .ref a4), (5, .int x5)] → wM D S a0 → sK S a0 = 21 → wM D S a1 → sK S a1 = 16 → wM D S a2 → sK S a2 = 17 → wM D S a3 → sK S a3 = 22 → wM D S a4 → sK S a4 = 25 → W p l e (r_L_law rC rS) s m args below meth c H locs cells slots Q (F0 m 28 ls [])) : ∀ {bc bs cells slots : Nat} (hbc : cells + bc ≤ rC) (hbs : slots + bs ≤ rS) {S : wS} {H : Heap} {locs : List Loc} {ls : Array Slot} {a0 : Nat} {a1 : Nat} {a2 : Nat} {a3 : Nat} {a4 : Nat} {x5 : Int32}, wp_L_law_1929 D post k_28 bc bs S a0 a1 a2 a3 a4 x5 → wO D cy X A s.heap S H locs → wX D S0 S → lv_has ls 9 [(0, .ref a0), (1, .ref a1), (2, .ref a2), (3, .ref a3), (4, .ref a4), (5, .int x5)] → wM D S a0 → sK S a0 = 21 → wM D S a1 → sK S a1 = 16 → wM D S a2 → sK S a2 = 17 → wM D S a3 → sK S a3 = 22 → wM D S a4 → sK S a4 = 25 → W p l e (r_L_law rC rS) s m args below meth c H locs cells slots Q (F0 m 1929 ls []) := by
  obtain ⟨hx, hb, hml, hown, hts⟩ := id F
  have hwg : ∀ w ∈ WG, w.before args s = true := fun w h => hts w (List.mem_cons_of_mem _ h)
  intro bc bs cells slots hbc hbs S H locs ls a0 a1 a2 a3 a4 x5 hp hW hE hl hL_a0 hK_a0 hL_a1 hK_a1 hL_a2 hK_a2 hL_a3 hK_a3 hL_a4 hK_a4
  unfold wp_L_law_1929 at hp
  refine lv_goto (tgt := 3394) hx hb dL_law_1929 (by decide) ?_
  exact t_L_law_3394 F hr hlocks hK hl0 hQ q_28 hbc hbs hp hW hE (lv_sub hl [0, 1, 2, 3, 4, 5] rfl) hL_a0 hK_a0 hL_a1 hK_a1 hL_a2 hK_a2 hL_a3 hK_a3 hL_a4 hK_a4
set_option maxHeartbeats 4000000 in
set_option maxRecDepth 100000 in
theorem t_L_law_1873 {p : Program} {l : Launch} {e : Env} {s : State} {m : MethodId} {args : Array Value} {below : List Frame} {meth : Method} {c : Code} {D : wD} {cy : Nat → ClassId} {X : va_W} {A : Nat → Prop} {S0 : wS} {rC rS : Nat} {post : Int32 → wS → Prop} (F : CallFix p m c cL_law 9 s args wz_L_law RL) (hr : meth.sig.returnType = (some .boolean)) (hlocks : meth.locks = false) (hK : wK D cy A s) (hl0 : l.stackTraces = false) {Q : State → Prop} (hQ : ∀ {pc : Nat} {H : Heap} {locs : List Loc} {ls : Array Slot} {S : wS} {r : Int32}, post r S → decode cL_law pc = .ok (.ireturn, 1) → wO D cy X A s.heap S H locs → W p l e (r_L_law rC rS) s m args below meth c H locs rC rS Q (F0 m pc ls [.int r])) {k_28 : Nat → Nat → wS → Nat → Nat → Nat → Nat → Nat → Int32 → Prop} (q_28 : ∀ {bc bs cells slots : Nat} (hbc : cells + bc ≤ rC) (hbs : slots + bs ≤ rS) {S : wS} {H : Heap} {locs : List Loc} {ls : Array Slot} {a0 : Nat} {a1 : Nat} {a2 : Nat} {a3 : Nat} {a4 : Nat} {x5 : Int32}, k_28 bc bs S a0 a1 a2 a3 a4 x5 → wO D cy X A s.heap S H locs → wX D S0 S → lv_has ls 9 [(0, .ref a0), (1, .ref a1), (2, .ref a2), (3, .ref a3), (4, .ref a4), (5, .int x5)] → wM D S a0 → sK S a0 = 21 → wM D S a1 → sK S a1 = 16 → wM D S a2 → sK S a2 = 17 → wM D S a3 → sK S a3 = 22 → wM D S a4 → sK S a4 = 25 → W p l e (r_L_law rC rS) s m args below meth c H locs cells slots Q (F0 m 28 ls [])) : ∀ {bc bs cells slots : Nat} (hbc : cells + bc ≤ rC) (hbs : slots + bs ≤ rS) {S : wS} {H : Heap} {locs : List Loc} {ls : Array Slot} {a0 : Nat} {a1 : Nat} {a2 : Nat} {a3 : Nat} {a4 : Nat} {x5 : Int32}, wp_L_law_1873 D post k_28 bc bs S a0 a1 a2 a3 a4 x5 → wO D cy X A s.heap S H locs → wX D S0 S → lv_has ls 9 [(0, .ref a0), (1, .ref a1), (2, .ref a2), (3, .ref a3), (4, .ref a4), (5, .int x5)] → wM D S a0 → sK S a0 = 21 → wM D S a1 → sK S a1 = 16 → wM D S a2 → sK S a2 = 17 → wM D S a3 → sK S a3 = 22 → wM D S a4 → sK S a4 = 25 → W p l e (r_L_law rC rS) s m args below meth c H locs cells slots Q (F0 m 1873 ls []) := by
  obtain ⟨hx, hb, hml, hown, hts⟩ := id F
  have hwg : ∀ w ∈ WG, w.before args s = true := fun w h => hts w (List.mem_cons_of_mem _ h)
  intro bc bs cells slots hbc hbs S H locs ls a0 a1 a2 a3 a4 x5 hp hW hE hl hL_a0 hK_a0 hL_a1 hK_a1 hL_a2 hK_a2 hL_a3 hK_a3 hL_a4 hK_a4
  unfold wp_L_law_1873 at hp
  refine lv_goto (tgt := 3394) hx hb dL_law_1873 (by decide) ?_
  exact t_L_law_3394 F hr hlocks hK hl0 hQ q_28 hbc hbs hp hW hE (lv_sub hl [0, 1, 2, 3, 4, 5] rfl) hL_a0 hK_a0 hL_a1 hK_a1 hL_a2 hK_a2 hL_a3 hK_a3 hL_a4 hK_a4
set_option maxHeartbeats 4000000 in
set_option maxRecDepth 100000 in
theorem t_L_law_1768 {p : Program} {l : Launch} {e : Env} {s : State} {m : MethodId} {args : Array Value} {below : List Frame} {meth : Method} {c : Code} {D : wD} {cy : Nat → ClassId} {X : va_W} {A : Nat → Prop} {S0 : wS} {rC rS : Nat} {post : Int32 → wS → Prop} (F : CallFix p m c cL_law 9 s args wz_L_law RL) (hr : meth.sig.returnType = (some .boolean)) (hlocks : meth.locks = false) (hK : wK D cy A s) (hl0 : l.stackTraces = false) {Q : State → Prop} (hQ : ∀ {pc : Nat} {H : Heap} {locs : List Loc} {ls : Array Slot} {S : wS} {r : Int32}, post r S → decode cL_law pc = .ok (.ireturn, 1) → wO D cy X A s.heap S H locs → W p l e (r_L_law rC rS) s m args below meth c H locs rC rS Q (F0 m pc ls [.int r])) {k_28 : Nat → Nat → wS → Nat → Nat → Nat → Nat → Nat → Int32 → Prop} (q_28 : ∀ {bc bs cells slots : Nat} (hbc : cells + bc ≤ rC) (hbs : slots + bs ≤ rS) {S : wS} {H : Heap} {locs : List Loc} {ls : Array Slot} {a0 : Nat} {a1 : Nat} {a2 : Nat} {a3 : Nat} {a4 : Nat} {x5 : Int32}, k_28 bc bs S a0 a1 a2 a3 a4 x5 → wO D cy X A s.heap S H locs → wX D S0 S → lv_has ls 9 [(0, .ref a0), (1, .ref a1), (2, .ref a2), (3, .ref a3), (4, .ref a4), (5, .int x5)] → wM D S a0 → sK S a0 = 21 → wM D S a1 → sK S a1 = 16 → wM D S a2 → sK S a2 = 17 → wM D S a3 → sK S a3 = 22 → wM D S a4 → sK S a4 = 25 → W p l e (r_L_law rC rS) s m args below meth c H locs cells slots Q (F0 m 28 ls [])) : ∀ {bc bs cells slots : Nat} (hbc : cells + bc ≤ rC) (hbs : slots + bs ≤ rS) {S : wS} {H : Heap} {locs : List Loc} {ls : Array Slot} {a0 : Nat} {a1 : Nat} {a2 : Nat} {a3 : Nat} {a4 : Nat} {x5 : Int32}, wp_L_law_1768 D post k_28 bc bs S a0 a1 a2 a3 a4 x5 → wO D cy X A s.heap S H locs → wX D S0 S → lv_has ls 9 [(0, .ref a0), (1, .ref a1), (2, .ref a2), (3, .ref a3), (4, .ref a4), (5, .int x5)] → wM D S a0 → sK S a0 = 21 → wM D S a1 → sK S a1 = 16 → wM D S a2 → sK S a2 = 17 → wM D S a3 → sK S a3 = 22 → wM D S a4 → sK S a4 = 25 → W p l e (r_L_law rC rS) s m args below meth c H locs cells slots Q (F0 m 1768 ls []) := by
  obtain ⟨hx, hb, hml, hown, hts⟩ := id F
  have hwg : ∀ w ∈ WG, w.before args s = true := fun w h => hts w (List.mem_cons_of_mem _ h)
  intro bc bs cells slots hbc hbs S H locs ls a0 a1 a2 a3 a4 x5 hp hW hE hl hL_a0 hK_a0 hL_a1 hK_a1 hL_a2 hK_a2 hL_a3 hK_a3 hL_a4 hK_a4
  unfold wp_L_law_1768 at hp
  refine lv_goto (tgt := 3394) hx hb dL_law_1768 (by decide) ?_
  exact t_L_law_3394 F hr hlocks hK hl0 hQ q_28 hbc hbs hp hW hE (lv_sub hl [0, 1, 2, 3, 4, 5] rfl) hL_a0 hK_a0 hL_a1 hK_a1 hL_a2 hK_a2 hL_a3 hK_a3 hL_a4 hK_a4
set_option maxHeartbeats 4000000 in
set_option maxRecDepth 100000 in
theorem t_L_law_1724 {p : Program} {l : Launch} {e : Env} {s : State} {m : MethodId} {args : Array Value} {below : List Frame} {meth : Method} {c : Code} {D : wD} {cy : Nat → ClassId} {X : va_W} {A : Nat → Prop} {S0 : wS} {rC rS : Nat} {post : Int32 → wS → Prop} (F : CallFix p m c cL_law 9 s args wz_L_law RL) (hr : meth.sig.returnType = (some .boolean)) (hlocks : meth.locks = false) (hK : wK D cy A s) (hl0 : l.stackTraces = false) {Q : State → Prop} (hQ : ∀ {pc : Nat} {H : Heap} {locs : List Loc} {ls : Array Slot} {S : wS} {r : Int32}, post r S → decode cL_law pc = .ok (.ireturn, 1) → wO D cy X A s.heap S H locs → W p l e (r_L_law rC rS) s m args below meth c H locs rC rS Q (F0 m pc ls [.int r])) {k_28 : Nat → Nat → wS → Nat → Nat → Nat → Nat → Nat → Int32 → Prop} (q_28 : ∀ {bc bs cells slots : Nat} (hbc : cells + bc ≤ rC) (hbs : slots + bs ≤ rS) {S : wS} {H : Heap} {locs : List Loc} {ls : Array Slot} {a0 : Nat} {a1 : Nat} {a2 : Nat} {a3 : Nat} {a4 : Nat} {x5 : Int32}, k_28 bc bs S a0 a1 a2 a3 a4 x5 → wO D cy X A s.heap S H locs → wX D S0 S → lv_has ls 9 [(0, .ref a0), (1, .ref a1), (2, .ref a2), (3, .ref a3), (4, .ref a4), (5, .int x5)] → wM D S a0 → sK S a0 = 21 → wM D S a1 → sK S a1 = 16 → wM D S a2 → sK S a2 = 17 → wM D S a3 → sK S a3 = 22 → wM D S a4 → sK S a4 = 25 → W p l e (r_L_law rC rS) s m args below meth c H locs cells slots Q (F0 m 28 ls [])) : ∀ {bc bs cells slots : Nat} (hbc : cells + bc ≤ rC) (hbs : slots + bs ≤ rS) {S : wS} {H : Heap} {locs : List Loc} {ls : Array Slot} {a0 : Nat} {a1 : Nat} {a2 : Nat} {a3 : Nat} {a4 : Nat} {x5 : Int32}, wp_L_law_1724 D post k_28 bc bs S a0 a1 a2 a3 a4 x5 → wO D cy X A s.heap S H locs → wX D S0 S → lv_has ls 9 [(0, .ref a0), (1, .ref a1), (2, .ref a2), (3, .ref a3), (4, .ref a4), (5, .int x5)] → wM D S a0 → sK S a0 = 21 → wM D S a1 → sK S a1 = 16 → wM D S a2 → sK S a2 = 17 → wM D S a3 → sK S a3 = 22 → wM D S a4 → sK S a4 = 25 → W p l e (r_L_law rC rS) s m args below meth c H locs cells slots Q (F0 m 1724 ls []) := by
  obtain ⟨hx, hb, hml, hown, hts⟩ := id F
  have hwg : ∀ w ∈ WG, w.before args s = true := fun w h => hts w (List.mem_cons_of_mem _ h)
  intro bc bs cells slots hbc hbs S H locs ls a0 a1 a2 a3 a4 x5 hp hW hE hl hL_a0 hK_a0 hL_a1 hK_a1 hL_a2 hK_a2 hL_a3 hK_a3 hL_a4 hK_a4
  unfold wp_L_law_1724 at hp
  refine lv_goto (tgt := 3394) hx hb dL_law_1724 (by decide) ?_
  exact t_L_law_3394 F hr hlocks hK hl0 hQ q_28 hbc hbs hp hW hE (lv_sub hl [0, 1, 2, 3, 4, 5] rfl) hL_a0 hK_a0 hL_a1 hK_a1 hL_a2 hK_a2 hL_a3 hK_a3 hL_a4 hK_a4
set_option maxHeartbeats 4000000 in
set_option maxRecDepth 100000 in
theorem t_L_law_1667 {p : Program} {l : Launch} {e : Env} {s : State} {m : MethodId} {args : Array Value} {below : List Frame} {meth : Method} {c : Code} {D : wD} {cy : Nat → ClassId} {X : va_W} {A : Nat → Prop} {S0 : wS} {rC rS : Nat} {post : Int32 → wS → Prop} (F : CallFix p m c cL_law 9 s args wz_L_law RL) (hr : meth.sig.returnType = (some .boolean)) (hlocks : meth.locks = false) (hK : wK D cy A s) (hl0 : l.stackTraces = false) {Q : State → Prop} (hQ : ∀ {pc : Nat} {H : Heap} {locs : List Loc} {ls : Array Slot} {S : wS} {r : Int32}, post r S → decode cL_law pc = .ok (.ireturn, 1) → wO D cy X A s.heap S H locs → W p l e (r_L_law rC rS) s m args below meth c H locs rC rS Q (F0 m pc ls [.int r])) {k_28 : Nat → Nat → wS → Nat → Nat → Nat → Nat → Nat → Int32 → Prop} (q_28 : ∀ {bc bs cells slots : Nat} (hbc : cells + bc ≤ rC) (hbs : slots + bs ≤ rS) {S : wS} {H : Heap} {locs : List Loc} {ls : Array Slot} {a0 : Nat} {a1 : Nat} {a2 : Nat} {a3 : Nat} {a4 : Nat} {x5 : Int32}, k_28 bc bs S a0 a1 a2 a3 a4 x5 → wO D cy X A s.heap S H locs → wX D S0 S → lv_has ls 9 [(0, .ref a0), (1, .ref a1), (2, .ref a2), (3, .ref a3), (4, .ref a4), (5, .int x5)] → wM D S a0 → sK S a0 = 21 → wM D S a1 → sK S a1 = 16 → wM D S a2 → sK S a2 = 17 → wM D S a3 → sK S a3 = 22 → wM D S a4 → sK S a4 = 25 → W p l e (r_L_law rC rS) s m args below meth c H locs cells slots Q (F0 m 28 ls [])) : ∀ {bc bs cells slots : Nat} (hbc : cells + bc ≤ rC) (hbs : slots + bs ≤ rS) {S : wS} {H : Heap} {locs : List Loc} {ls : Array Slot} {a0 : Nat} {a1 : Nat} {a2 : Nat} {a3 : Nat} {a4 : Nat} {x5 : Int32}, wp_L_law_1667 D post k_28 bc bs S a0 a1 a2 a3 a4 x5 → wO D cy X A s.heap S H locs → wX D S0 S → lv_has ls 9 [(0, .ref a0), (1, .ref a1), (2, .ref a2), (3, .ref a3), (4, .ref a4), (5, .int x5)] → wM D S a0 → sK S a0 = 21 → wM D S a1 → sK S a1 = 16 → wM D S a2 → sK S a2 = 17 → wM D S a3 → sK S a3 = 22 → wM D S a4 → sK S a4 = 25 → W p l e (r_L_law rC rS) s m args below meth c H locs cells slots Q (F0 m 1667 ls []) := by
  obtain ⟨hx, hb, hml, hown, hts⟩ := id F
  have hwg : ∀ w ∈ WG, w.before args s = true := fun w h => hts w (List.mem_cons_of_mem _ h)
  intro bc bs cells slots hbc hbs S H locs ls a0 a1 a2 a3 a4 x5 hp hW hE hl hL_a0 hK_a0 hL_a1 hK_a1 hL_a2 hK_a2 hL_a3 hK_a3 hL_a4 hK_a4
  unfold wp_L_law_1667 at hp
  refine lv_goto (tgt := 3394) hx hb dL_law_1667 (by decide) ?_
  exact t_L_law_3394 F hr hlocks hK hl0 hQ q_28 hbc hbs hp hW hE (lv_sub hl [0, 1, 2, 3, 4, 5] rfl) hL_a0 hK_a0 hL_a1 hK_a1 hL_a2 hK_a2 hL_a3 hK_a3 hL_a4 hK_a4
set_option maxHeartbeats 4000000 in
set_option maxRecDepth 100000 in
theorem t_L_law_1579 {p : Program} {l : Launch} {e : Env} {s : State} {m : MethodId} {args : Array Value} {below : List Frame} {meth : Method} {c : Code} {D : wD} {cy : Nat → ClassId} {X : va_W} {A : Nat → Prop} {S0 : wS} {rC rS : Nat} {post : Int32 → wS → Prop} (F : CallFix p m c cL_law 9 s args wz_L_law RL) (hr : meth.sig.returnType = (some .boolean)) (hlocks : meth.locks = false) (hK : wK D cy A s) (hl0 : l.stackTraces = false) {Q : State → Prop} (hQ : ∀ {pc : Nat} {H : Heap} {locs : List Loc} {ls : Array Slot} {S : wS} {r : Int32}, post r S → decode cL_law pc = .ok (.ireturn, 1) → wO D cy X A s.heap S H locs → W p l e (r_L_law rC rS) s m args below meth c H locs rC rS Q (F0 m pc ls [.int r])) {k_28 : Nat → Nat → wS → Nat → Nat → Nat → Nat → Nat → Int32 → Prop} (q_28 : ∀ {bc bs cells slots : Nat} (hbc : cells + bc ≤ rC) (hbs : slots + bs ≤ rS) {S : wS} {H : Heap} {locs : List Loc} {ls : Array Slot} {a0 : Nat} {a1 : Nat} {a2 : Nat} {a3 : Nat} {a4 : Nat} {x5 : Int32}, k_28 bc bs S a0 a1 a2 a3 a4 x5 → wO D cy X A s.heap S H locs → wX D S0 S → lv_has ls 9 [(0, .ref a0), (1, .ref a1), (2, .ref a2), (3, .ref a3), (4, .ref a4), (5, .int x5)] → wM D S a0 → sK S a0 = 21 → wM D S a1 → sK S a1 = 16 → wM D S a2 → sK S a2 = 17 → wM D S a3 → sK S a3 = 22 → wM D S a4 → sK S a4 = 25 → W p l e (r_L_law rC rS) s m args below meth c H locs cells slots Q (F0 m 28 ls [])) : ∀ {bc bs cells slots : Nat} (hbc : cells + bc ≤ rC) (hbs : slots + bs ≤ rS) {S : wS} {H : Heap} {locs : List Loc} {ls : Array Slot} {a0 : Nat} {a1 : Nat} {a2 : Nat} {a3 : Nat} {a4 : Nat} {x5 : Int32}, wp_L_law_1579 D post k_28 bc bs S a0 a1 a2 a3 a4 x5 → wO D cy X A s.heap S H locs → wX D S0 S → lv_has ls 9 [(0, .ref a0), (1, .ref a1), (2, .ref a2), (3, .ref a3), (4, .ref a4), (5, .int x5)] → wM D S a0 → sK S a0 = 21 → wM D S a1 → sK S a1 = 16 → wM D S a2 → sK S a2 = 17 → wM D S a3 → sK S a3 = 22 → wM D S a4 → sK S a4 = 25 → W p l e (r_L_law rC rS) s m args below meth c H locs cells slots Q (F0 m 1579 ls []) := by
  obtain ⟨hx, hb, hml, hown, hts⟩ := id F
  have hwg : ∀ w ∈ WG, w.before args s = true := fun w h => hts w (List.mem_cons_of_mem _ h)
  intro bc bs cells slots hbc hbs S H locs ls a0 a1 a2 a3 a4 x5 hp hW hE hl hL_a0 hK_a0 hL_a1 hK_a1 hL_a2 hK_a2 hL_a3 hK_a3 hL_a4 hK_a4
  unfold wp_L_law_1579 at hp
  refine lv_goto (tgt := 3394) hx hb dL_law_1579 (by decide) ?_
  exact t_L_law_3394 F hr hlocks hK hl0 hQ q_28 hbc hbs hp hW hE (lv_sub hl [0, 1, 2, 3, 4, 5] rfl) hL_a0 hK_a0 hL_a1 hK_a1 hL_a2 hK_a2 hL_a3 hK_a3 hL_a4 hK_a4
set_option maxHeartbeats 4000000 in
set_option maxRecDepth 100000 in
theorem t_L_law_1546 {p : Program} {l : Launch} {e : Env} {s : State} {m : MethodId} {args : Array Value} {below : List Frame} {meth : Method} {c : Code} {D : wD} {cy : Nat → ClassId} {X : va_W} {A : Nat → Prop} {S0 : wS} {rC rS : Nat} {post : Int32 → wS → Prop} (F : CallFix p m c cL_law 9 s args wz_L_law RL) (hr : meth.sig.returnType = (some .boolean)) (hlocks : meth.locks = false) (hK : wK D cy A s) (hl0 : l.stackTraces = false) {Q : State → Prop} (hQ : ∀ {pc : Nat} {H : Heap} {locs : List Loc} {ls : Array Slot} {S : wS} {r : Int32}, post r S → decode cL_law pc = .ok (.ireturn, 1) → wO D cy X A s.heap S H locs → W p l e (r_L_law rC rS) s m args below meth c H locs rC rS Q (F0 m pc ls [.int r])) {k_28 : Nat → Nat → wS → Nat → Nat → Nat → Nat → Nat → Int32 → Prop} (q_28 : ∀ {bc bs cells slots : Nat} (hbc : cells + bc ≤ rC) (hbs : slots + bs ≤ rS) {S : wS} {H : Heap} {locs : List Loc} {ls : Array Slot} {a0 : Nat} {a1 : Nat} {a2 : Nat} {a3 : Nat} {a4 : Nat} {x5 : Int32}, k_28 bc bs S a0 a1 a2 a3 a4 x5 → wO D cy X A s.heap S H locs → wX D S0 S → lv_has ls 9 [(0, .ref a0), (1, .ref a1), (2, .ref a2), (3, .ref a3), (4, .ref a4), (5, .int x5)] → wM D S a0 → sK S a0 = 21 → wM D S a1 → sK S a1 = 16 → wM D S a2 → sK S a2 = 17 → wM D S a3 → sK S a3 = 22 → wM D S a4 → sK S a4 = 25 → W p l e (r_L_law rC rS) s m args below meth c H locs cells slots Q (F0 m 28 ls [])) : ∀ {bc bs cells slots : Nat} (hbc : cells + bc ≤ rC) (hbs : slots + bs ≤ rS) {S : wS} {H : Heap} {locs : List Loc} {ls : Array Slot} {a0 : Nat} {a1 : Nat} {a2 : Nat} {a3 : Nat} {a4 : Nat} {x5 : Int32} {x6 : Int32} {b0 : Nat} {t1 : Int32} {t2 : Int32}, wp_L_law_1546 D post k_28 bc bs S a0 a1 a2 a3 a4 x5 x6 b0 t1 t2 → wO D cy X A s.heap S H locs → wX D S0 S → lv_has ls 9 [(0, .ref a0), (1, .ref a1), (2, .ref a2), (3, .ref a3), (4, .ref a4), (5, .int x5), (6, .int x6)] → wM D S a0 → sK S a0 = 21 → wM D S a1 → sK S a1 = 16 → wM D S a2 → sK S a2 = 17 → wM D S a3 → sK S a3 = 22 → wM D S a4 → sK S a4 = 25 → wM D S b0 → sK S b0 = 17 → W p l e (r_L_law rC rS) s m args below meth c H locs cells slots Q (F0 m 1546 ls [.int t2, .int t1, .ref b0]) := by
  obtain ⟨hx, hb, hml, hown, hts⟩ := id F
  have hwg : ∀ w ∈ WG, w.before args s = true := fun w h => hts w (List.mem_cons_of_mem _ h)
  intro bc bs cells slots hbc hbs S H locs ls a0 a1 a2 a3 a4 x5 x6 b0 t1 t2 hp hW hE hl hL_a0 hK_a0 hL_a1 hK_a1 hL_a2 hK_a2 hL_a3 hK_a3 hL_a4 hK_a4 hL_b0 hK_b0
  unfold wp_L_law_1546 at hp
  refine w_callI (va_runV (As := [.int t1, .int t2]) (rest := []) F (c_X12_countMoves l hL_b0 hK_b0 hp H.size) (cwV (C := RX12) 2 hts (wg_V wm_RL_278 wy_X12_countMoves) rfl rfl rfl (by decide +kernel) ⟨Nat.le_of_ble_eq_true rfl, Nat.le_of_ble_eq_true rfl⟩) (w_preV hK hW hL_b0 hK_b0 (by decide) rfl) rfl rfl hl.1 rfl (lv_room (Nat.le_of_ble_eq_true rfl)) dL_law_1546 ⟨by show _ ≤ rC; exact Nat.le_trans (Nat.le_add_right _ _) hbc, by show _ ≤ rS; exact Nat.le_trans (Nat.le_add_right _ _) hbs⟩) hW (fun r_1 S_2 H locs hp hW => ?_)
  obtain ⟨hX_S_2, hp⟩ := hp
  refine w_same ?_
  have hE := hE.trans hX_S_2
  have hK_a0 : sK S_2 a0 = 21 := (hX_S_2.2 a0 hL_a0).1.trans hK_a0
  have hL_a0 : wM D S_2 a0 := hX_S_2.M hL_a0
  have hK_a1 : sK S_2 a1 = 16 := (hX_S_2.2 a1 hL_a1).1.trans hK_a1
  have hL_a1 : wM D S_2 a1 := hX_S_2.M hL_a1
  have hK_a2 : sK S_2 a2 = 17 := (hX_S_2.2 a2 hL_a2).1.trans hK_a2
  have hL_a2 : wM D S_2 a2 := hX_S_2.M hL_a2
  have hK_a3 : sK S_2 a3 = 22 := (hX_S_2.2 a3 hL_a3).1.trans hK_a3
  have hL_a3 : wM D S_2 a3 := hX_S_2.M hL_a3
  have hK_a4 : sK S_2 a4 = 25 := (hX_S_2.2 a4 hL_a4).1.trans hK_a4
  have hL_a4 : wM D S_2 a4 := hX_S_2.M hL_a4
  refine lv_istore (lv' := [(7, .int r_1), (0, .ref a0), (1, .ref a1), (2, .ref a2), (3, .ref a3), (4, .ref a4), (5, .int x5), (6, .int x6)]) hx hb dL_law_1549 hl (by decide) rfl (fun ls hl => ?_)
  refine lv_aload_n hx hb dL_law_1551 rfl (lv_at hl 3 rfl) ?_
  refine w_callI (va_runV (As := []) (rest := []) F (c_X12_thrown l hL_a2 hK_a2 hp H.size) (cwV (C := RX12) 0 hts (wg_V wm_RL_181 wy_X12_thrown) rfl rfl rfl (by decide +kernel) ⟨Nat.le_of_ble_eq_true rfl, Nat.le_of_ble_eq_true rfl⟩) (w_preV hK hW hL_a2 hK_a2 (by decide) rfl) rfl rfl hl.1 rfl (lv_room (Nat.le_of_ble_eq_true rfl)) dL_law_1552 ⟨by show _ ≤ rC; exact Nat.le_trans (Nat.le_add_right _ _) hbc, by show _ ≤ rS; exact Nat.le_trans (Nat.le_add_right _ _) hbs⟩) hW (fun r_3 S_4 H locs hp hW => ?_)
  obtain ⟨hX_S_4, hp⟩ := hp
  refine w_same ?_
  have hE := hE.trans hX_S_4
  have hK_a0 : sK S_4 a0 = 21 := (hX_S_4.2 a0 hL_a0).1.trans hK_a0
  have hL_a0 : wM D S_4 a0 := hX_S_4.M hL_a0
  have hK_a1 : sK S_4 a1 = 16 := (hX_S_4.2 a1 hL_a1).1.trans hK_a1
  have hL_a1 : wM D S_4 a1 := hX_S_4.M hL_a1
  have hK_a2 : sK S_4 a2 = 17 := (hX_S_4.2 a2 hL_a2).1.trans hK_a2
  have hL_a2 : wM D S_4 a2 := hX_S_4.M hL_a2
  have hK_a3 : sK S_4 a3 = 22 := (hX_S_4.2 a3 hL_a3).1.trans hK_a3
  have hL_a3 : wM D S_4 a3 := hX_S_4.M hL_a3
  have hK_a4 : sK S_4 a4 = 25 := (hX_S_4.2 a4 hL_a4).1.trans hK_a4
  have hL_a4 : wM D S_4 a4 := hX_S_4.M hL_a4
  refine lv_iload hx hb dL_law_1555 (lv_at hl 7 rfl) ?_
  refine lv_icmp_eq (tgt := 1562) hx hb dL_law_1557 (by decide) (fun c_5 => ?_) (fun c_5 => ?_)
  · replace hp := hp.1 c_5
    refine lv_iload hx hb dL_law_1562 (lv_at hl 7 rfl) ?_
    refine lv_if_ne (tgt := 1579) hx hb dL_law_1564 (by decide) (fun c_6 => ?_) (fun c_6 => ?_)
    · replace hp := hp.1 c_6
      exact t_L_law_1579 F hr hlocks hK hl0 hQ q_28 hbc hbs hp hW hE (lv_sub hl [1, 2, 3, 4, 5, 6] rfl) hL_a0 hK_a0 hL_a1 hK_a1 hL_a2 hK_a2 hL_a3 hK_a3 hL_a4 hK_a4
    · replace hp := hp.2 c_6
      refine lv_aload_n hx hb dL_law_1567 rfl (lv_at hl 4 rfl) ?_
      refine lv_iconst (v := 0) hx hb dL_law_1568 (by decide) ?_
      obtain ⟨h_7, hp⟩ := hp
      refine w_lld F hK hW hL_a3 hK_a3 h_7 dL_law_1569 ?_
      refine lv_iload hx hb dL_law_1570 (lv_at hl 0 rfl) ?_
      refine lv_i2l (v := (Int32.toInt64 r_1)) hx hb dL_law_1572 rfl ?_
      refine W.lcmp hx hb dL_law_1573 ?_
      refine lv_if_eq (tgt := 1579) hx hb dL_law_1574 (by decide) (fun c_8 => ?_) (fun c_8 => ?_)
      · replace hp := hp.1 c_8
        exact t_L_law_1579 F hr hlocks hK hl0 hQ q_28 hbc hbs hp hW hE (lv_sub hl [1, 2, 3, 4, 5, 6] rfl) hL_a0 hK_a0 hL_a1 hK_a1 hL_a2 hK_a2 hL_a3 hK_a3 hL_a4 hK_a4
      · replace hp := hp.2 c_8
        refine lv_iconst (v := 0) hx hb dL_law_1577 (by decide) ?_
        refine W.widen (k := rC) (n := rS) (Nat.le_trans (Nat.le_add_right _ _) hbc) (Nat.le_trans (Nat.le_add_right _ _) hbs) ?_
        exact hQ hp dL_law_1578 hW
  · replace hp := hp.2 c_5
    refine lv_iconst (v := 0) hx hb dL_law_1560 (by decide) ?_
    refine W.widen (k := rC) (n := rS) (Nat.le_trans (Nat.le_add_right _ _) hbc) (Nat.le_trans (Nat.le_add_right _ _) hbs) ?_
    exact hQ hp dL_law_1561 hW
set_option maxHeartbeats 4000000 in
set_option maxRecDepth 100000 in
theorem t_L_law_1519 {p : Program} {l : Launch} {e : Env} {s : State} {m : MethodId} {args : Array Value} {below : List Frame} {meth : Method} {c : Code} {D : wD} {cy : Nat → ClassId} {X : va_W} {A : Nat → Prop} {S0 : wS} {rC rS : Nat} {post : Int32 → wS → Prop} (F : CallFix p m c cL_law 9 s args wz_L_law RL) (hr : meth.sig.returnType = (some .boolean)) (hlocks : meth.locks = false) (hK : wK D cy A s) (hl0 : l.stackTraces = false) {Q : State → Prop} (hQ : ∀ {pc : Nat} {H : Heap} {locs : List Loc} {ls : Array Slot} {S : wS} {r : Int32}, post r S → decode cL_law pc = .ok (.ireturn, 1) → wO D cy X A s.heap S H locs → W p l e (r_L_law rC rS) s m args below meth c H locs rC rS Q (F0 m pc ls [.int r])) {k_28 : Nat → Nat → wS → Nat → Nat → Nat → Nat → Nat → Int32 → Prop} (q_28 : ∀ {bc bs cells slots : Nat} (hbc : cells + bc ≤ rC) (hbs : slots + bs ≤ rS) {S : wS} {H : Heap} {locs : List Loc} {ls : Array Slot} {a0 : Nat} {a1 : Nat} {a2 : Nat} {a3 : Nat} {a4 : Nat} {x5 : Int32}, k_28 bc bs S a0 a1 a2 a3 a4 x5 → wO D cy X A s.heap S H locs → wX D S0 S → lv_has ls 9 [(0, .ref a0), (1, .ref a1), (2, .ref a2), (3, .ref a3), (4, .ref a4), (5, .int x5)] → wM D S a0 → sK S a0 = 21 → wM D S a1 → sK S a1 = 16 → wM D S a2 → sK S a2 = 17 → wM D S a3 → sK S a3 = 22 → wM D S a4 → sK S a4 = 25 → W p l e (r_L_law rC rS) s m args below meth c H locs cells slots Q (F0 m 28 ls [])) : ∀ {bc bs cells slots : Nat} (hbc : cells + bc ≤ rC) (hbs : slots + bs ≤ rS) {S : wS} {H : Heap} {locs : List Loc} {ls : Array Slot} {a0 : Nat} {a1 : Nat} {a2 : Nat} {a3 : Nat} {a4 : Nat} {x5 : Int32} {b0 : Nat} {t1 : Int32} {t2 : Int32}, wp_L_law_1519 D post k_28 bc bs S a0 a1 a2 a3 a4 x5 b0 t1 t2 → wO D cy X A s.heap S H locs → wX D S0 S → lv_has ls 9 [(0, .ref a0), (1, .ref a1), (2, .ref a2), (3, .ref a3), (4, .ref a4), (5, .int x5)] → wM D S a0 → sK S a0 = 21 → wM D S a1 → sK S a1 = 16 → wM D S a2 → sK S a2 = 17 → wM D S a3 → sK S a3 = 22 → wM D S a4 → sK S a4 = 25 → wM D S b0 → sK S b0 = 16 → W p l e (r_L_law rC rS) s m args below meth c H locs cells slots Q (F0 m 1519 ls [.int t2, .int t1, .ref b0]) := by
  obtain ⟨hx, hb, hml, hown, hts⟩ := id F
  have hwg : ∀ w ∈ WG, w.before args s = true := fun w h => hts w (List.mem_cons_of_mem _ h)
  intro bc bs cells slots hbc hbs S H locs ls a0 a1 a2 a3 a4 x5 b0 t1 t2 hp hW hE hl hL_a0 hK_a0 hL_a1 hK_a1 hL_a2 hK_a2 hL_a3 hK_a3 hL_a4 hK_a4 hL_b0 hK_b0
  unfold wp_L_law_1519 at hp
  refine lv_aload_n hx hb dL_law_1519 rfl (lv_at hl 3 rfl) ?_
  obtain ⟨h_3, h_3z, hp⟩ := hp
  refine x_callI (vx_runSX (As := [.ref b0, .int t1, .int t2, .ref a3]) (rest := []) F (c_L_countMoves l hl0 hL_b0 hK_b0 hL_a3 hK_a3 hp H.size) (vx_cwSW 4 hts (wg_S wm_RL_276 wy_L_countMoves) rfl rfl rfl ⟨by decide, by decide, by decide +kernel⟩ ⟨Nat.le_of_ble_eq_true rfl, Nat.le_of_ble_eq_true rfl⟩) (w_preS hK hW) rfl rfl hl.1 rfl (lv_room (Nat.le_of_ble_eq_true rfl)) dL_law_1520 ⟨by show _ + 1 ≤ rC; omega, by show _ + 6 ≤ rS; omega⟩) hW (fun E ce q9 S9 H locs hp hW h1 h2 h3 => hp.elim) (fun r_1 S_2 H locs hp hW => ?_)
  obtain ⟨hX_S_2, hp⟩ := hp
  refine W.widen (k := _ + 1) (n := _ + 6) (Nat.le_refl _) (Nat.le_refl _) ?_
  replace hbc := w_spend hbc (show 1 ≤ bc by omega)
  replace hbs := w_spend hbs (show 6 ≤ bs by omega)
  have hE := hE.trans hX_S_2
  have hK_a0 : sK S_2 a0 = 21 := (hX_S_2.2 a0 hL_a0).1.trans hK_a0
  have hL_a0 : wM D S_2 a0 := hX_S_2.M hL_a0
  have hK_a1 : sK S_2 a1 = 16 := (hX_S_2.2 a1 hL_a1).1.trans hK_a1
  have hL_a1 : wM D S_2 a1 := hX_S_2.M hL_a1
  have hK_a2 : sK S_2 a2 = 17 := (hX_S_2.2 a2 hL_a2).1.trans hK_a2
  have hL_a2 : wM D S_2 a2 := hX_S_2.M hL_a2
  have hK_a3 : sK S_2 a3 = 22 := (hX_S_2.2 a3 hL_a3).1.trans hK_a3
  have hL_a3 : wM D S_2 a3 := hX_S_2.M hL_a3
  have hK_a4 : sK S_2 a4 = 25 := (hX_S_2.2 a4 hL_a4).1.trans hK_a4
  have hL_a4 : wM D S_2 a4 := hX_S_2.M hL_a4
  refine lv_istore (lv' := [(6, .int r_1), (0, .ref a0), (1, .ref a1), (2, .ref a2), (3, .ref a3), (4, .ref a4), (5, .int x5)]) hx hb dL_law_1523 hl (by decide) rfl (fun ls hl => ?_)
  refine lv_aload_n hx hb dL_law_1525 rfl (lv_at hl 3 rfl) ?_
  refine lv_aload_n hx hb dL_law_1526 rfl (lv_at hl 1 rfl) ?_
  refine lv_iload hx hb dL_law_1527 (lv_at hl 6 rfl) ?_
  refine lv_iconst (v := 1) hx hb dL_law_1529 (by decide) ?_
  refine lv_iadd hx hb dL_law_1530 ?_
  obtain ⟨h_4, hp⟩ := hp
  refine w_ild F hK hW hL_a0 hK_a0 h_4 dL_law_1531 ?_
  refine lv_aload_n hx hb dL_law_1532 rfl (lv_at hl 1 rfl) ?_
  refine lv_iload hx hb dL_law_1533 (lv_at hl 6 rfl) ?_
  refine lv_iconst (v := 2) hx hb dL_law_1535 (by decide) ?_
  refine lv_iadd hx hb dL_law_1536 ?_
  obtain ⟨h_5, hp⟩ := hp
  refine w_ild F hK hW hL_a0 hK_a0 h_5 dL_law_1537 ?_
  refine lv_if_eq (tgt := 1545) hx hb dL_law_1538 (by decide) (fun c_6 => ?_) (fun c_6 => ?_)
  · replace hp := hp.1 c_6
    refine lv_iconst (v := 0) hx hb dL_law_1545 (by decide) ?_
    exact t_L_law_1546 F hr hlocks hK hl0 hQ q_28 hbc hbs hp hW hE (lv_sub hl [1, 2, 3, 4, 5, 6, 0] rfl) hL_a0 hK_a0 hL_a1 hK_a1 hL_a2 hK_a2 hL_a3 hK_a3 hL_a4 hK_a4 hL_a2 hK_a2
  · replace hp := hp.2 c_6
    refine lv_iconst (v := 1) hx hb dL_law_1541 (by decide) ?_
    refine lv_goto (tgt := 1546) hx hb dL_law_1542 (by decide) ?_
    exact t_L_law_1546 F hr hlocks hK hl0 hQ q_28 hbc hbs hp hW hE (lv_sub hl [1, 2, 3, 4, 5, 6, 0] rfl) hL_a0 hK_a0 hL_a1 hK_a1 hL_a2 hK_a2 hL_a3 hK_a3 hL_a4 hK_a4 hL_a2 hK_a2
set_option maxHeartbeats 4000000 in
set_option maxRecDepth 100000 in
theorem t_L_law_1482 {p : Program} {l : Launch} {e : Env} {s : State} {m : MethodId} {args : Array Value} {below : List Frame} {meth : Method} {c : Code} {D : wD} {cy : Nat → ClassId} {X : va_W} {A : Nat → Prop} {S0 : wS} {rC rS : Nat} {post : Int32 → wS → Prop} (F : CallFix p m c cL_law 9 s args wz_L_law RL) (hr : meth.sig.returnType = (some .boolean)) (hlocks : meth.locks = false) (hK : wK D cy A s) (hl0 : l.stackTraces = false) {Q : State → Prop} (hQ : ∀ {pc : Nat} {H : Heap} {locs : List Loc} {ls : Array Slot} {S : wS} {r : Int32}, post r S → decode cL_law pc = .ok (.ireturn, 1) → wO D cy X A s.heap S H locs → W p l e (r_L_law rC rS) s m args below meth c H locs rC rS Q (F0 m pc ls [.int r])) {k_28 : Nat → Nat → wS → Nat → Nat → Nat → Nat → Nat → Int32 → Prop} (q_28 : ∀ {bc bs cells slots : Nat} (hbc : cells + bc ≤ rC) (hbs : slots + bs ≤ rS) {S : wS} {H : Heap} {locs : List Loc} {ls : Array Slot} {a0 : Nat} {a1 : Nat} {a2 : Nat} {a3 : Nat} {a4 : Nat} {x5 : Int32}, k_28 bc bs S a0 a1 a2 a3 a4 x5 → wO D cy X A s.heap S H locs → wX D S0 S → lv_has ls 9 [(0, .ref a0), (1, .ref a1), (2, .ref a2), (3, .ref a3), (4, .ref a4), (5, .int x5)] → wM D S a0 → sK S a0 = 21 → wM D S a1 → sK S a1 = 16 → wM D S a2 → sK S a2 = 17 → wM D S a3 → sK S a3 = 22 → wM D S a4 → sK S a4 = 25 → W p l e (r_L_law rC rS) s m args below meth c H locs cells slots Q (F0 m 28 ls [])) : ∀ {bc bs cells slots : Nat} (hbc : cells + bc ≤ rC) (hbs : slots + bs ≤ rS) {S : wS} {H : Heap} {locs : List Loc} {ls : Array Slot} {a0 : Nat} {a1 : Nat} {a2 : Nat} {a3 : Nat} {a4 : Nat} {x5 : Int32}, wp_L_law_1482 D post k_28 bc bs S a0 a1 a2 a3 a4 x5 → wO D cy X A s.heap S H locs → wX D S0 S → lv_has ls 9 [(0, .ref a0), (1, .ref a1), (2, .ref a2), (3, .ref a3), (4, .ref a4), (5, .int x5)] → wM D S a0 → sK S a0 = 21 → wM D S a1 → sK S a1 = 16 → wM D S a2 → sK S a2 = 17 → wM D S a3 → sK S a3 = 22 → wM D S a4 → sK S a4 = 25 → W p l e (r_L_law rC rS) s m args below meth c H locs cells slots Q (F0 m 1482 ls []) := by
  obtain ⟨hx, hb, hml, hown, hts⟩ := id F
  have hwg : ∀ w ∈ WG, w.before args s = true := fun w h => hts w (List.mem_cons_of_mem _ h)
  intro bc bs cells slots hbc hbs S H locs ls a0 a1 a2 a3 a4 x5 hp hW hE hl hL_a0 hK_a0 hL_a1 hK_a1 hL_a2 hK_a2 hL_a3 hK_a3 hL_a4 hK_a4
  unfold wp_L_law_1482 at hp
  refine lv_goto (tgt := 3394) hx hb dL_law_1482 (by decide) ?_
  exact t_L_law_3394 F hr hlocks hK hl0 hQ q_28 hbc hbs hp hW hE (lv_sub hl [0, 1, 2, 3, 4, 5] rfl) hL_a0 hK_a0 hL_a1 hK_a1 hL_a2 hK_a2 hL_a3 hK_a3 hL_a4 hK_a4
set_option maxHeartbeats 4000000 in
set_option maxRecDepth 100000 in
theorem t_L_law_1425 {p : Program} {l : Launch} {e : Env} {s : State} {m : MethodId} {args : Array Value} {below : List Frame} {meth : Method} {c : Code} {D : wD} {cy : Nat → ClassId} {X : va_W} {A : Nat → Prop} {S0 : wS} {rC rS : Nat} {post : Int32 → wS → Prop} (F : CallFix p m c cL_law 9 s args wz_L_law RL) (hr : meth.sig.returnType = (some .boolean)) (hlocks : meth.locks = false) (hK : wK D cy A s) (hl0 : l.stackTraces = false) {Q : State → Prop} (hQ : ∀ {pc : Nat} {H : Heap} {locs : List Loc} {ls : Array Slot} {S : wS} {r : Int32}, post r S → decode cL_law pc = .ok (.ireturn, 1) → wO D cy X A s.heap S H locs → W p l e (r_L_law rC rS) s m args below meth c H locs rC rS Q (F0 m pc ls [.int r])) {k_28 : Nat → Nat → wS → Nat → Nat → Nat → Nat → Nat → Int32 → Prop} (q_28 : ∀ {bc bs cells slots : Nat} (hbc : cells + bc ≤ rC) (hbs : slots + bs ≤ rS) {S : wS} {H : Heap} {locs : List Loc} {ls : Array Slot} {a0 : Nat} {a1 : Nat} {a2 : Nat} {a3 : Nat} {a4 : Nat} {x5 : Int32}, k_28 bc bs S a0 a1 a2 a3 a4 x5 → wO D cy X A s.heap S H locs → wX D S0 S → lv_has ls 9 [(0, .ref a0), (1, .ref a1), (2, .ref a2), (3, .ref a3), (4, .ref a4), (5, .int x5)] → wM D S a0 → sK S a0 = 21 → wM D S a1 → sK S a1 = 16 → wM D S a2 → sK S a2 = 17 → wM D S a3 → sK S a3 = 22 → wM D S a4 → sK S a4 = 25 → W p l e (r_L_law rC rS) s m args below meth c H locs cells slots Q (F0 m 28 ls [])) : ∀ {bc bs cells slots : Nat} (hbc : cells + bc ≤ rC) (hbs : slots + bs ≤ rS) {S : wS} {H : Heap} {locs : List Loc} {ls : Array Slot} {a0 : Nat} {a1 : Nat} {a2 : Nat} {a3 : Nat} {a4 : Nat} {x5 : Int32}, wp_L_law_1425 D post k_28 bc bs S a0 a1 a2 a3 a4 x5 → wO D cy X A s.heap S H locs → wX D S0 S → lv_has ls 9 [(0, .ref a0), (1, .ref a1), (2, .ref a2), (3, .ref a3), (4, .ref a4), (5, .int x5)] → wM D S a0 → sK S a0 = 21 → wM D S a1 → sK S a1 = 16 → wM D S a2 → sK S a2 = 17 → wM D S a3 → sK S a3 = 22 → wM D S a4 → sK S a4 = 25 → W p l e (r_L_law rC rS) s m args below meth c H locs cells slots Q (F0 m 1425 ls []) := by
  obtain ⟨hx, hb, hml, hown, hts⟩ := id F
  have hwg : ∀ w ∈ WG, w.before args s = true := fun w h => hts w (List.mem_cons_of_mem _ h)
  intro bc bs cells slots hbc hbs S H locs ls a0 a1 a2 a3 a4 x5 hp hW hE hl hL_a0 hK_a0 hL_a1 hK_a1 hL_a2 hK_a2 hL_a3 hK_a3 hL_a4 hK_a4
  unfold wp_L_law_1425 at hp
  refine lv_goto (tgt := 3394) hx hb dL_law_1425 (by decide) ?_
  exact t_L_law_3394 F hr hlocks hK hl0 hQ q_28 hbc hbs hp hW hE (lv_sub hl [0, 1, 2, 3, 4, 5] rfl) hL_a0 hK_a0 hL_a1 hK_a1 hL_a2 hK_a2 hL_a3 hK_a3 hL_a4 hK_a4
set_option maxHeartbeats 4000000 in
set_option maxRecDepth 100000 in
theorem t_L_law_1381 {p : Program} {l : Launch} {e : Env} {s : State} {m : MethodId} {args : Array Value} {below : List Frame} {meth : Method} {c : Code} {D : wD} {cy : Nat → ClassId} {X : va_W} {A : Nat → Prop} {S0 : wS} {rC rS : Nat} {post : Int32 → wS → Prop} (F : CallFix p m c cL_law 9 s args wz_L_law RL) (hr : meth.sig.returnType = (some .boolean)) (hlocks : meth.locks = false) (hK : wK D cy A s) (hl0 : l.stackTraces = false) {Q : State → Prop} (hQ : ∀ {pc : Nat} {H : Heap} {locs : List Loc} {ls : Array Slot} {S : wS} {r : Int32}, post r S → decode cL_law pc = .ok (.ireturn, 1) → wO D cy X A s.heap S H locs → W p l e (r_L_law rC rS) s m args below meth c H locs rC rS Q (F0 m pc ls [.int r])) {k_28 : Nat → Nat → wS → Nat → Nat → Nat → Nat → Nat → Int32 → Prop} (q_28 : ∀ {bc bs cells slots : Nat} (hbc : cells + bc ≤ rC) (hbs : slots + bs ≤ rS) {S : wS} {H : Heap} {locs : List Loc} {ls : Array Slot} {a0 : Nat} {a1 : Nat} {a2 : Nat} {a3 : Nat} {a4 : Nat} {x5 : Int32}, k_28 bc bs S a0 a1 a2 a3 a4 x5 → wO D cy X A s.heap S H locs → wX D S0 S → lv_has ls 9 [(0, .ref a0), (1, .ref a1), (2, .ref a2), (3, .ref a3), (4, .ref a4), (5, .int x5)] → wM D S a0 → sK S a0 = 21 → wM D S a1 → sK S a1 = 16 → wM D S a2 → sK S a2 = 17 → wM D S a3 → sK S a3 = 22 → wM D S a4 → sK S a4 = 25 → W p l e (r_L_law rC rS) s m args below meth c H locs cells slots Q (F0 m 28 ls [])) : ∀ {bc bs cells slots : Nat} (hbc : cells + bc ≤ rC) (hbs : slots + bs ≤ rS) {S : wS} {H : Heap} {locs : List Loc} {ls : Array Slot} {a0 : Nat} {a1 : Nat} {a2 : Nat} {a3 : Nat} {a4 : Nat} {x5 : Int32}, wp_L_law_1381 D post k_28 bc bs S a0 a1 a2 a3 a4 x5 → wO D cy X A s.heap S H locs → wX D S0 S → lv_has ls 9 [(0, .ref a0), (1, .ref a1), (2, .ref a2), (3, .ref a3), (4, .ref a4), (5, .int x5)] → wM D S a0 → sK S a0 = 21 → wM D S a1 → sK S a1 = 16 → wM D S a2 → sK S a2 = 17 → wM D S a3 → sK S a3 = 22 → wM D S a4 → sK S a4 = 25 → W p l e (r_L_law rC rS) s m args below meth c H locs cells slots Q (F0 m 1381 ls []) := by
  obtain ⟨hx, hb, hml, hown, hts⟩ := id F
  have hwg : ∀ w ∈ WG, w.before args s = true := fun w h => hts w (List.mem_cons_of_mem _ h)
  intro bc bs cells slots hbc hbs S H locs ls a0 a1 a2 a3 a4 x5 hp hW hE hl hL_a0 hK_a0 hL_a1 hK_a1 hL_a2 hK_a2 hL_a3 hK_a3 hL_a4 hK_a4
  unfold wp_L_law_1381 at hp
  refine lv_goto (tgt := 3394) hx hb dL_law_1381 (by decide) ?_
  exact t_L_law_3394 F hr hlocks hK hl0 hQ q_28 hbc hbs hp hW hE (lv_sub hl [0, 1, 2, 3, 4, 5] rfl) hL_a0 hK_a0 hL_a1 hK_a1 hL_a2 hK_a2 hL_a3 hK_a3 hL_a4 hK_a4
set_option maxHeartbeats 4000000 in
set_option maxRecDepth 100000 in
theorem t_L_law_1325 {p : Program} {l : Launch} {e : Env} {s : State} {m : MethodId} {args : Array Value} {below : List Frame} {meth : Method} {c : Code} {D : wD} {cy : Nat → ClassId} {X : va_W} {A : Nat → Prop} {S0 : wS} {rC rS : Nat} {post : Int32 → wS → Prop} (F : CallFix p m c cL_law 9 s args wz_L_law RL) (hr : meth.sig.returnType = (some .boolean)) (hlocks : meth.locks = false) (hK : wK D cy A s) (hl0 : l.stackTraces = false) {Q : State → Prop} (hQ : ∀ {pc : Nat} {H : Heap} {locs : List Loc} {ls : Array Slot} {S : wS} {r : Int32}, post r S → decode cL_law pc = .ok (.ireturn, 1) → wO D cy X A s.heap S H locs → W p l e (r_L_law rC rS) s m args below meth c H locs rC rS Q (F0 m pc ls [.int r])) {k_28 : Nat → Nat → wS → Nat → Nat → Nat → Nat → Nat → Int32 → Prop} (q_28 : ∀ {bc bs cells slots : Nat} (hbc : cells + bc ≤ rC) (hbs : slots + bs ≤ rS) {S : wS} {H : Heap} {locs : List Loc} {ls : Array Slot} {a0 : Nat} {a1 : Nat} {a2 : Nat} {a3 : Nat} {a4 : Nat} {x5 : Int32}, k_28 bc bs S a0 a1 a2 a3 a4 x5 → wO D cy X A s.heap S H locs → wX D S0 S → lv_has ls 9 [(0, .ref a0), (1, .ref a1), (2, .ref a2), (3, .ref a3), (4, .ref a4), (5, .int x5)] → wM D S a0 → sK S a0 = 21 → wM D S a1 → sK S a1 = 16 → wM D S a2 → sK S a2 = 17 → wM D S a3 → sK S a3 = 22 → wM D S a4 → sK S a4 = 25 → W p l e (r_L_law rC rS) s m args below meth c H locs cells slots Q (F0 m 28 ls [])) : ∀ {bc bs cells slots : Nat} (hbc : cells + bc ≤ rC) (hbs : slots + bs ≤ rS) {S : wS} {H : Heap} {locs : List Loc} {ls : Array Slot} {a0 : Nat} {a1 : Nat} {a2 : Nat} {a3 : Nat} {a4 : Nat} {x5 : Int32}, wp_L_law_1325 D post k_28 bc bs S a0 a1 a2 a3 a4 x5 → wO D cy X A s.heap S H locs → wX D S0 S → lv_has ls 9 [(0, .ref a0), (1, .ref a1), (2, .ref a2), (3, .ref a3), (4, .ref a4), (5, .int x5)] → wM D S a0 → sK S a0 = 21 → wM D S a1 → sK S a1 = 16 → wM D S a2 → sK S a2 = 17 → wM D S a3 → sK S a3 = 22 → wM D S a4 → sK S a4 = 25 → W p l e (r_L_law rC rS) s m args below meth c H locs cells slots Q (F0 m 1325 ls []) := by
  obtain ⟨hx, hb, hml, hown, hts⟩ := id F
  have hwg : ∀ w ∈ WG, w.before args s = true := fun w h => hts w (List.mem_cons_of_mem _ h)
  intro bc bs cells slots hbc hbs S H locs ls a0 a1 a2 a3 a4 x5 hp hW hE hl hL_a0 hK_a0 hL_a1 hK_a1 hL_a2 hK_a2 hL_a3 hK_a3 hL_a4 hK_a4
  unfold wp_L_law_1325 at hp
  refine lv_goto (tgt := 3394) hx hb dL_law_1325 (by decide) ?_
  exact t_L_law_3394 F hr hlocks hK hl0 hQ q_28 hbc hbs hp hW hE (lv_sub hl [0, 1, 2, 3, 4, 5] rfl) hL_a0 hK_a0 hL_a1 hK_a1 hL_a2 hK_a2 hL_a3 hK_a3 hL_a4 hK_a4
set_option maxHeartbeats 4000000 in
set_option maxRecDepth 100000 in
theorem t_L_law_1269 {p : Program} {l : Launch} {e : Env} {s : State} {m : MethodId} {args : Array Value} {below : List Frame} {meth : Method} {c : Code} {D : wD} {cy : Nat → ClassId} {X : va_W} {A : Nat → Prop} {S0 : wS} {rC rS : Nat} {post : Int32 → wS → Prop} (F : CallFix p m c cL_law 9 s args wz_L_law RL) (hr : meth.sig.returnType = (some .boolean)) (hlocks : meth.locks = false) (hK : wK D cy A s) (hl0 : l.stackTraces = false) {Q : State → Prop} (hQ : ∀ {pc : Nat} {H : Heap} {locs : List Loc} {ls : Array Slot} {S : wS} {r : Int32}, post r S → decode cL_law pc = .ok (.ireturn, 1) → wO D cy X A s.heap S H locs → W p l e (r_L_law rC rS) s m args below meth c H locs rC rS Q (F0 m pc ls [.int r])) {k_28 : Nat → Nat → wS → Nat → Nat → Nat → Nat → Nat → Int32 → Prop} (q_28 : ∀ {bc bs cells slots : Nat} (hbc : cells + bc ≤ rC) (hbs : slots + bs ≤ rS) {S : wS} {H : Heap} {locs : List Loc} {ls : Array Slot} {a0 : Nat} {a1 : Nat} {a2 : Nat} {a3 : Nat} {a4 : Nat} {x5 : Int32}, k_28 bc bs S a0 a1 a2 a3 a4 x5 → wO D cy X A s.heap S H locs → wX D S0 S → lv_has ls 9 [(0, .ref a0), (1, .ref a1), (2, .ref a2), (3, .ref a3), (4, .ref a4), (5, .int x5)] → wM D S a0 → sK S a0 = 21 → wM D S a1 → sK S a1 = 16 → wM D S a2 → sK S a2 = 17 → wM D S a3 → sK S a3 = 22 → wM D S a4 → sK S a4 = 25 → W p l e (r_L_law rC rS) s m args below meth c H locs cells slots Q (F0 m 28 ls [])) : ∀ {bc bs cells slots : Nat} (hbc : cells + bc ≤ rC) (hbs : slots + bs ≤ rS) {S : wS} {H : Heap} {locs : List Loc} {ls : Array Slot} {a0 : Nat} {a1 : Nat} {a2 : Nat} {a3 : Nat} {a4 : Nat} {x5 : Int32}, wp_L_law_1269 D post k_28 bc bs S a0 a1 a2 a3 a4 x5 → wO D cy X A s.heap S H locs → wX D S0 S → lv_has ls 9 [(0, .ref a0), (1, .ref a1), (2, .ref a2), (3, .ref a3), (4, .ref a4), (5, .int x5)] → wM D S a0 → sK S a0 = 21 → wM D S a1 → sK S a1 = 16 → wM D S a2 → sK S a2 = 17 → wM D S a3 → sK S a3 = 22 → wM D S a4 → sK S a4 = 25 → W p l e (r_L_law rC rS) s m args below meth c H locs cells slots Q (F0 m 1269 ls []) := by
  obtain ⟨hx, hb, hml, hown, hts⟩ := id F
  have hwg : ∀ w ∈ WG, w.before args s = true := fun w h => hts w (List.mem_cons_of_mem _ h)
  intro bc bs cells slots hbc hbs S H locs ls a0 a1 a2 a3 a4 x5 hp hW hE hl hL_a0 hK_a0 hL_a1 hK_a1 hL_a2 hK_a2 hL_a3 hK_a3 hL_a4 hK_a4
  unfold wp_L_law_1269 at hp
  refine lv_goto (tgt := 3394) hx hb dL_law_1269 (by decide) ?_
  exact t_L_law_3394 F hr hlocks hK hl0 hQ q_28 hbc hbs hp hW hE (lv_sub hl [0, 1, 2, 3, 4, 5] rfl) hL_a0 hK_a0 hL_a1 hK_a1 hL_a2 hK_a2 hL_a3 hK_a3 hL_a4 hK_a4
set_option maxHeartbeats 4000000 in
set_option maxRecDepth 100000 in
theorem t_L_law_1213 {p : Program} {l : Launch} {e : Env} {s : State} {m : MethodId} {args : Array Value} {below : List Frame} {meth : Method} {c : Code} {D : wD} {cy : Nat → ClassId} {X : va_W} {A : Nat → Prop} {S0 : wS} {rC rS : Nat} {post : Int32 → wS → Prop} (F : CallFix p m c cL_law 9 s args wz_L_law RL) (hr : meth.sig.returnType = (some .boolean)) (hlocks : meth.locks = false) (hK : wK D cy A s) (hl0 : l.stackTraces = false) {Q : State → Prop} (hQ : ∀ {pc : Nat} {H : Heap} {locs : List Loc} {ls : Array Slot} {S : wS} {r : Int32}, post r S → decode cL_law pc = .ok (.ireturn, 1) → wO D cy X A s.heap S H locs → W p l e (r_L_law rC rS) s m args below meth c H locs rC rS Q (F0 m pc ls [.int r])) {k_28 : Nat → Nat → wS → Nat → Nat → Nat → Nat → Nat → Int32 → Prop} (q_28 : ∀ {bc bs cells slots : Nat} (hbc : cells + bc ≤ rC) (hbs : slots + bs ≤ rS) {S : wS} {H : Heap} {locs : List Loc} {ls : Array Slot} {a0 : Nat} {a1 : Nat} {a2 : Nat} {a3 : Nat} {a4 : Nat} {x5 : Int32}, k_28 bc bs S a0 a1 a2 a3 a4 x5 → wO D cy X A s.heap S H locs → wX D S0 S → lv_has ls 9 [(0, .ref a0), (1, .ref a1), (2, .ref a2), (3, .ref a3), (4, .ref a4), (5, .int x5)] → wM D S a0 → sK S a0 = 21 → wM D S a1 → sK S a1 = 16 → wM D S a2 → sK S a2 = 17 → wM D S a3 → sK S a3 = 22 → wM D S a4 → sK S a4 = 25 → W p l e (r_L_law rC rS) s m args below meth c H locs cells slots Q (F0 m 28 ls [])) : ∀ {bc bs cells slots : Nat} (hbc : cells + bc ≤ rC) (hbs : slots + bs ≤ rS) {S : wS} {H : Heap} {locs : List Loc} {ls : Array Slot} {a0 : Nat} {a1 : Nat} {a2 : Nat} {a3 : Nat} {a4 : Nat} {x5 : Int32}, wp_L_law_1213 D post k_28 bc bs S a0 a1 a2 a3 a4 x5 → wO D cy X A s.heap S H locs → wX D S0 S → lv_has ls 9 [(0, .ref a0), (1, .ref a1), (2, .ref a2), (3, .ref a3), (4, .ref a4), (5, .int x5)] → wM D S a0 → sK S a0 = 21 → wM D S a1 → sK S a1 = 16 → wM D S a2 → sK S a2 = 17 → wM D S a3 → sK S a3 = 22 → wM D S a4 → sK S a4 = 25 → W p l e (r_L_law rC rS) s m args below meth c H locs cells slots Q (F0 m 1213 ls []) := by
  obtain ⟨hx, hb, hml, hown, hts⟩ := id F
  have hwg : ∀ w ∈ WG, w.before args s = true := fun w h => hts w (List.mem_cons_of_mem _ h)
  intro bc bs cells slots hbc hbs S H locs ls a0 a1 a2 a3 a4 x5 hp hW hE hl hL_a0 hK_a0 hL_a1 hK_a1 hL_a2 hK_a2 hL_a3 hK_a3 hL_a4 hK_a4
  unfold wp_L_law_1213 at hp
  refine lv_goto (tgt := 3394) hx hb dL_law_1213 (by decide) ?_
  exact t_L_law_3394 F hr hlocks hK hl0 hQ q_28 hbc hbs hp hW hE (lv_sub hl [0, 1, 2, 3, 4, 5] rfl) hL_a0 hK_a0 hL_a1 hK_a1 hL_a2 hK_a2 hL_a3 hK_a3 hL_a4 hK_a4
set_option maxHeartbeats 4000000 in
set_option maxRecDepth 100000 in
theorem t_L_law_1157 {p : Program} {l : Launch} {e : Env} {s : State} {m : MethodId} {args : Array Value} {below : List Frame} {meth : Method} {c : Code} {D : wD} {cy : Nat → ClassId} {X : va_W} {A : Nat → Prop} {S0 : wS} {rC rS : Nat} {post : Int32 → wS → Prop} (F : CallFix p m c cL_law 9 s args wz_L_law RL) (hr : meth.sig.returnType = (some .boolean)) (hlocks : meth.locks = false) (hK : wK D cy A s) (hl0 : l.stackTraces = false) {Q : State → Prop} (hQ : ∀ {pc : Nat} {H : Heap} {locs : List Loc} {ls : Array Slot} {S : wS} {r : Int32}, post r S → decode cL_law pc = .ok (.ireturn, 1) → wO D cy X A s.heap S H locs → W p l e (r_L_law rC rS) s m args below meth c H locs rC rS Q (F0 m pc ls [.int r])) {k_28 : Nat → Nat → wS → Nat → Nat → Nat → Nat → Nat → Int32 → Prop} (q_28 : ∀ {bc bs cells slots : Nat} (hbc : cells + bc ≤ rC) (hbs : slots + bs ≤ rS) {S : wS} {H : Heap} {locs : List Loc} {ls : Array Slot} {a0 : Nat} {a1 : Nat} {a2 : Nat} {a3 : Nat} {a4 : Nat} {x5 : Int32}, k_28 bc bs S a0 a1 a2 a3 a4 x5 → wO D cy X A s.heap S H locs → wX D S0 S → lv_has ls 9 [(0, .ref a0), (1, .ref a1), (2, .ref a2), (3, .ref a3), (4, .ref a4), (5, .int x5)] → wM D S a0 → sK S a0 = 21 → wM D S a1 → sK S a1 = 16 → wM D S a2 → sK S a2 = 17 → wM D S a3 → sK S a3 = 22 → wM D S a4 → sK S a4 = 25 → W p l e (r_L_law rC rS) s m args below meth c H locs cells slots Q (F0 m 28 ls [])) : ∀ {bc bs cells slots : Nat} (hbc : cells + bc ≤ rC) (hbs : slots + bs ≤ rS) {S : wS} {H : Heap} {locs : List Loc} {ls : Array Slot} {a0 : Nat} {a1 : Nat} {a2 : Nat} {a3 : Nat} {a4 : Nat} {x5 : Int32}, wp_L_law_1157 D post k_28 bc bs S a0 a1 a2 a3 a4 x5 → wO D cy X A s.heap S H locs → wX D S0 S → lv_has ls 9 [(0, .ref a0), (1, .ref a1), (2, .ref a2), (3, .ref a3), (4, .ref a4), (5, .int x5)] → wM D S a0 → sK S a0 = 21 → wM D S a1 → sK S a1 = 16 → wM D S a2 → sK S a2 = 17 → wM D S a3 → sK S a3 = 22 → wM D S a4 → sK S a4 = 25 → W p l e (r_L_law rC rS) s m args below meth c H locs cells slots Q (F0 m 1157 ls []) := by
  obtain ⟨hx, hb, hml, hown, hts⟩ := id F
  have hwg : ∀ w ∈ WG, w.before args s = true := fun w h => hts w (List.mem_cons_of_mem _ h)
  intro bc bs cells slots hbc hbs S H locs ls a0 a1 a2 a3 a4 x5 hp hW hE hl hL_a0 hK_a0 hL_a1 hK_a1 hL_a2 hK_a2 hL_a3 hK_a3 hL_a4 hK_a4
  unfold wp_L_law_1157 at hp
  refine lv_goto (tgt := 3394) hx hb dL_law_1157 (by decide) ?_
  exact t_L_law_3394 F hr hlocks hK hl0 hQ q_28 hbc hbs hp hW hE (lv_sub hl [0, 1, 2, 3, 4, 5] rfl) hL_a0 hK_a0 hL_a1 hK_a1 hL_a2 hK_a2 hL_a3 hK_a3 hL_a4 hK_a4
set_option maxHeartbeats 4000000 in
set_option maxRecDepth 100000 in
theorem t_L_law_1101 {p : Program} {l : Launch} {e : Env} {s : State} {m : MethodId} {args : Array Value} {below : List Frame} {meth : Method} {c : Code} {D : wD} {cy : Nat → ClassId} {X : va_W} {A : Nat → Prop} {S0 : wS} {rC rS : Nat} {post : Int32 → wS → Prop} (F : CallFix p m c cL_law 9 s args wz_L_law RL) (hr : meth.sig.returnType = (some .boolean)) (hlocks : meth.locks = false) (hK : wK D cy A s) (hl0 : l.stackTraces = false) {Q : State → Prop} (hQ : ∀ {pc : Nat} {H : Heap} {locs : List Loc} {ls : Array Slot} {S : wS} {r : Int32}, post r S → decode cL_law pc = .ok (.ireturn, 1) → wO D cy X A s.heap S H locs → W p l e (r_L_law rC rS) s m args below meth c H locs rC rS Q (F0 m pc ls [.int r])) {k_28 : Nat → Nat → wS → Nat → Nat → Nat → Nat → Nat → Int32 → Prop} (q_28 : ∀ {bc bs cells slots : Nat} (hbc : cells + bc ≤ rC) (hbs : slots + bs ≤ rS) {S : wS} {H : Heap} {locs : List Loc} {ls : Array Slot} {a0 : Nat} {a1 : Nat} {a2 : Nat} {a3 : Nat} {a4 : Nat} {x5 : Int32}, k_28 bc bs S a0 a1 a2 a3 a4 x5 → wO D cy X A s.heap S H locs → wX D S0 S → lv_has ls 9 [(0, .ref a0), (1, .ref a1), (2, .ref a2), (3, .ref a3), (4, .ref a4), (5, .int x5)] → wM D S a0 → sK S a0 = 21 → wM D S a1 → sK S a1 = 16 → wM D S a2 → sK S a2 = 17 → wM D S a3 → sK S a3 = 22 → wM D S a4 → sK S a4 = 25 → W p l e (r_L_law rC rS) s m args below meth c H locs cells slots Q (F0 m 28 ls [])) : ∀ {bc bs cells slots : Nat} (hbc : cells + bc ≤ rC) (hbs : slots + bs ≤ rS) {S : wS} {H : Heap} {locs : List Loc} {ls : Array Slot} {a0 : Nat} {a1 : Nat} {a2 : Nat} {a3 : Nat} {a4 : Nat} {x5 : Int32}, wp_L_law_1101 D post k_28 bc bs S a0 a1 a2 a3 a4 x5 → wO D cy X A s.heap S H locs → wX D S0 S → lv_has ls 9 [(0, .ref a0), (1, .ref a1), (2, .ref a2), (3, .ref a3), (4, .ref a4), (5, .int x5)] → wM D S a0 → sK S a0 = 21 → wM D S a1 → sK S a1 = 16 → wM D S a2 → sK S a2 = 17 → wM D S a3 → sK S a3 = 22 → wM D S a4 → sK S a4 = 25 → W p l e (r_L_law rC rS) s m args below meth c H locs cells slots Q (F0 m 1101 ls []) := by
  obtain ⟨hx, hb, hml, hown, hts⟩ := id F
  have hwg : ∀ w ∈ WG, w.before args s = true := fun w h => hts w (List.mem_cons_of_mem _ h)
  intro bc bs cells slots hbc hbs S H locs ls a0 a1 a2 a3 a4 x5 hp hW hE hl hL_a0 hK_a0 hL_a1 hK_a1 hL_a2 hK_a2 hL_a3 hK_a3 hL_a4 hK_a4
  unfold wp_L_law_1101 at hp
  refine lv_goto (tgt := 3394) hx hb dL_law_1101 (by decide) ?_
  exact t_L_law_3394 F hr hlocks hK hl0 hQ q_28 hbc hbs hp hW hE (lv_sub hl [0, 1, 2, 3, 4, 5] rfl) hL_a0 hK_a0 hL_a1 hK_a1 hL_a2 hK_a2 hL_a3 hK_a3 hL_a4 hK_a4
set_option maxHeartbeats 4000000 in
set_option maxRecDepth 100000 in
theorem t_L_law_1057 {p : Program} {l : Launch} {e : Env} {s : State} {m : MethodId} {args : Array Value} {below : List Frame} {meth : Method} {c : Code} {D : wD} {cy : Nat → ClassId} {X : va_W} {A : Nat → Prop} {S0 : wS} {rC rS : Nat} {post : Int32 → wS → Prop} (F : CallFix p m c cL_law 9 s args wz_L_law RL) (hr : meth.sig.returnType = (some .boolean)) (hlocks : meth.locks = false) (hK : wK D cy A s) (hl0 : l.stackTraces = false) {Q : State → Prop} (hQ : ∀ {pc : Nat} {H : Heap} {locs : List Loc} {ls : Array Slot} {S : wS} {r : Int32}, post r S → decode cL_law pc = .ok (.ireturn, 1) → wO D cy X A s.heap S H locs → W p l e (r_L_law rC rS) s m args below meth c H locs rC rS Q (F0 m pc ls [.int r])) {k_28 : Nat → Nat → wS → Nat → Nat → Nat → Nat → Nat → Int32 → Prop} (q_28 : ∀ {bc bs cells slots : Nat} (hbc : cells + bc ≤ rC) (hbs : slots + bs ≤ rS) {S : wS} {H : Heap} {locs : List Loc} {ls : Array Slot} {a0 : Nat} {a1 : Nat} {a2 : Nat} {a3 : Nat} {a4 : Nat} {x5 : Int32}, k_28 bc bs S a0 a1 a2 a3 a4 x5 → wO D cy X A s.heap S H locs → wX D S0 S → lv_has ls 9 [(0, .ref a0), (1, .ref a1), (2, .ref a2), (3, .ref a3), (4, .ref a4), (5, .int x5)] → wM D S a0 → sK S a0 = 21 → wM D S a1 → sK S a1 = 16 → wM D S a2 → sK S a2 = 17 → wM D S a3 → sK S a3 = 22 → wM D S a4 → sK S a4 = 25 → W p l e (r_L_law rC rS) s m args below meth c H locs cells slots Q (F0 m 28 ls [])) : ∀ {bc bs cells slots : Nat} (hbc : cells + bc ≤ rC) (hbs : slots + bs ≤ rS) {S : wS} {H : Heap} {locs : List Loc} {ls : Array Slot} {a0 : Nat} {a1 : Nat} {a2 : Nat} {a3 : Nat} {a4 : Nat} {x5 : Int32}, wp_L_law_1057 D post k_28 bc bs S a0 a1 a2 a3 a4 x5 → wO D cy X A s.heap S H locs → wX D S0 S → lv_has ls 9 [(0, .ref a0), (1, .ref a1), (2, .ref a2), (3, .ref a3), (4, .ref a4), (5, .int x5)] → wM D S a0 → sK S a0 = 21 → wM D S a1 → sK S a1 = 16 → wM D S a2 → sK S a2 = 17 → wM D S a3 → sK S a3 = 22 → wM D S a4 → sK S a4 = 25 → W p l e (r_L_law rC rS) s m args below meth c H locs cells slots Q (F0 m 1057 ls []) := by
  obtain ⟨hx, hb, hml, hown, hts⟩ := id F
  have hwg : ∀ w ∈ WG, w.before args s = true := fun w h => hts w (List.mem_cons_of_mem _ h)
  intro bc bs cells slots hbc hbs S H locs ls a0 a1 a2 a3 a4 x5 hp hW hE hl hL_a0 hK_a0 hL_a1 hK_a1 hL_a2 hK_a2 hL_a3 hK_a3 hL_a4 hK_a4
  unfold wp_L_law_1057 at hp
  refine lv_goto (tgt := 3394) hx hb dL_law_1057 (by decide) ?_
  exact t_L_law_3394 F hr hlocks hK hl0 hQ q_28 hbc hbs hp hW hE (lv_sub hl [0, 1, 2, 3, 4, 5] rfl) hL_a0 hK_a0 hL_a1 hK_a1 hL_a2 hK_a2 hL_a3 hK_a3 hL_a4 hK_a4
set_option maxHeartbeats 4000000 in
set_option maxRecDepth 100000 in
theorem t_L_law_1051 {p : Program} {l : Launch} {e : Env} {s : State} {m : MethodId} {args : Array Value} {below : List Frame} {meth : Method} {c : Code} {D : wD} {cy : Nat → ClassId} {X : va_W} {A : Nat → Prop} {S0 : wS} {rC rS : Nat} {post : Int32 → wS → Prop} (F : CallFix p m c cL_law 9 s args wz_L_law RL) (hr : meth.sig.returnType = (some .boolean)) (hlocks : meth.locks = false) (hK : wK D cy A s) (hl0 : l.stackTraces = false) {Q : State → Prop} (hQ : ∀ {pc : Nat} {H : Heap} {locs : List Loc} {ls : Array Slot} {S : wS} {r : Int32}, post r S → decode cL_law pc = .ok (.ireturn, 1) → wO D cy X A s.heap S H locs → W p l e (r_L_law rC rS) s m args below meth c H locs rC rS Q (F0 m pc ls [.int r])) {k_28 : Nat → Nat → wS → Nat → Nat → Nat → Nat → Nat → Int32 → Prop} (q_28 : ∀ {bc bs cells slots : Nat} (hbc : cells + bc ≤ rC) (hbs : slots + bs ≤ rS) {S : wS} {H : Heap} {locs : List Loc} {ls : Array Slot} {a0 : Nat} {a1 : Nat} {a2 : Nat} {a3 : Nat} {a4 : Nat} {x5 : Int32}, k_28 bc bs S a0 a1 a2 a3 a4 x5 → wO D cy X A s.heap S H locs → wX D S0 S → lv_has ls 9 [(0, .ref a0), (1, .ref a1), (2, .ref a2), (3, .ref a3), (4, .ref a4), (5, .int x5)] → wM D S a0 → sK S a0 = 21 → wM D S a1 → sK S a1 = 16 → wM D S a2 → sK S a2 = 17 → wM D S a3 → sK S a3 = 22 → wM D S a4 → sK S a4 = 25 → W p l e (r_L_law rC rS) s m args below meth c H locs cells slots Q (F0 m 28 ls [])) : ∀ {bc bs cells slots : Nat} (hbc : cells + bc ≤ rC) (hbs : slots + bs ≤ rS) {S : wS} {H : Heap} {locs : List Loc} {ls : Array Slot} {a0 : Nat} {a1 : Nat} {a2 : Nat} {a3 : Nat} {a4 : Nat} {x5 : Int32} {t0 : Int64} {t1 : Int64}, wp_L_law_1051 D post k_28 bc bs S a0 a1 a2 a3 a4 x5 t0 t1 → wO D cy X A s.heap S H locs → wX D S0 S → lv_has ls 9 [(0, .ref a0), (1, .ref a1), (2, .ref a2), (3, .ref a3), (4, .ref a4), (5, .int x5)] → wM D S a0 → sK S a0 = 21 → wM D S a1 → sK S a1 = 16 → wM D S a2 → sK S a2 = 17 → wM D S a3 → sK S a3 = 22 → wM D S a4 → sK S a4 = 25 → W p l e (r_L_law rC rS) s m args below meth c H locs cells slots Q (F0 m 1051 ls [.long t1, .long t0]) := by
  obtain ⟨hx, hb, hml, hown, hts⟩ := id F
  have hwg : ∀ w ∈ WG, w.before args s = true := fun w h => hts w (List.mem_cons_of_mem _ h)
  intro bc bs cells slots hbc hbs S H locs ls a0 a1 a2 a3 a4 x5 t0 t1 hp hW hE hl hL_a0 hK_a0 hL_a1 hK_a1 hL_a2 hK_a2 hL_a3 hK_a3 hL_a4 hK_a4
  unfold wp_L_law_1051 at hp
  refine W.lcmp hx hb dL_law_1051 ?_
  refine lv_if_eq (tgt := 1057) hx hb dL_law_1052 (by decide) (fun c_1 => ?_) (fun c_1 => ?_)
  · replace hp := hp.1 c_1
    exact t_L_law_1057 F hr hlocks hK hl0 hQ q_28 hbc hbs hp hW hE (lv_sub hl [0, 1, 2, 3, 4, 5] rfl) hL_a0 hK_a0 hL_a1 hK_a1 hL_a2 hK_a2 hL_a3 hK_a3 hL_a4 hK_a4
  · replace hp := hp.2 c_1
    refine lv_iconst (v := 0) hx hb dL_law_1055 (by decide) ?_
    refine W.widen (k := rC) (n := rS) (Nat.le_trans (Nat.le_add_right _ _) hbc) (Nat.le_trans (Nat.le_add_right _ _) hbs) ?_
    exact hQ hp dL_law_1056 hW
set_option maxHeartbeats 4000000 in
set_option maxRecDepth 100000 in
theorem t_L_law_989 {p : Program} {l : Launch} {e : Env} {s : State} {m : MethodId} {args : Array Value} {below : List Frame} {meth : Method} {c : Code} {D : wD} {cy : Nat → ClassId} {X : va_W} {A : Nat → Prop} {S0 : wS} {rC rS : Nat} {post : Int32 → wS → Prop} (F : CallFix p m c cL_law 9 s args wz_L_law RL) (hr : meth.sig.returnType = (some .boolean)) (hlocks : meth.locks = false) (hK : wK D cy A s) (hl0 : l.stackTraces = false) {Q : State → Prop} (hQ : ∀ {pc : Nat} {H : Heap} {locs : List Loc} {ls : Array Slot} {S : wS} {r : Int32}, post r S → decode cL_law pc = .ok (.ireturn, 1) → wO D cy X A s.heap S H locs → W p l e (r_L_law rC rS) s m args below meth c H locs rC rS Q (F0 m pc ls [.int r])) {k_28 : Nat → Nat → wS → Nat → Nat → Nat → Nat → Nat → Int32 → Prop} (q_28 : ∀ {bc bs cells slots : Nat} (hbc : cells + bc ≤ rC) (hbs : slots + bs ≤ rS) {S : wS} {H : Heap} {locs : List Loc} {ls : Array Slot} {a0 : Nat} {a1 : Nat} {a2 : Nat} {a3 : Nat} {a4 : Nat} {x5 : Int32}, k_28 bc bs S a0 a1 a2 a3 a4 x5 → wO D cy X A s.heap S H locs → wX D S0 S → lv_has ls 9 [(0, .ref a0), (1, .ref a1), (2, .ref a2), (3, .ref a3), (4, .ref a4), (5, .int x5)] → wM D S a0 → sK S a0 = 21 → wM D S a1 → sK S a1 = 16 → wM D S a2 → sK S a2 = 17 → wM D S a3 → sK S a3 = 22 → wM D S a4 → sK S a4 = 25 → W p l e (r_L_law rC rS) s m args below meth c H locs cells slots Q (F0 m 28 ls [])) : ∀ {bc bs cells slots : Nat} (hbc : cells + bc ≤ rC) (hbs : slots + bs ≤ rS) {S : wS} {H : Heap} {locs : List Loc} {ls : Array Slot} {a0 : Nat} {a1 : Nat} {a2 : Nat} {a3 : Nat} {a4 : Nat} {x5 : Int32} {t0 : Int32} {b1 : Nat} {t2 : Int32}, wp_L_law_989 D post k_28 bc bs S a0 a1 a2 a3 a4 x5 t0 b1 t2 → wO D cy X A s.heap S H locs → wX D S0 S → lv_has ls 9 [(0, .ref a0), (1, .ref a1), (2, .ref a2), (3, .ref a3), (4, .ref a4), (5, .int x5)] → wM D S a0 → sK S a0 = 21 → wM D S a1 → sK S a1 = 16 → wM D S a2 → sK S a2 = 17 → wM D S a3 → sK S a3 = 22 → wM D S a4 → sK S a4 = 25 → wM D S b1 → sK S b1 = 17 → W p l e (r_L_law rC rS) s m args below meth c H locs cells slots Q (F0 m 989 ls [.int t2, .ref b1, .int t0]) := by
  obtain ⟨hx, hb, hml, hown, hts⟩ := id F
  have hwg : ∀ w ∈ WG, w.before args s = true := fun w h => hts w (List.mem_cons_of_mem _ h)
  intro bc bs cells slots hbc hbs S H locs ls a0 a1 a2 a3 a4 x5 t0 b1 t2 hp hW hE hl hL_a0 hK_a0 hL_a1 hK_a1 hL_a2 hK_a2 hL_a3 hK_a3 hL_a4 hK_a4 hL_b1 hK_b1
  unfold wp_L_law_989 at hp
  refine w_callI (va_runV (As := [.int t2]) (rest := [.int t0]) F (c_X12_material l hL_b1 hK_b1 hp H.size) (cwV (C := RX12) 1 hts (wg_V wm_RL_240 wy_X12_material) rfl rfl rfl (by decide +kernel) ⟨Nat.le_of_ble_eq_true rfl, Nat.le_of_ble_eq_true rfl⟩) (w_preV hK hW hL_b1 hK_b1 (by decide) rfl) rfl rfl hl.1 rfl (lv_room (Nat.le_of_ble_eq_true rfl)) dL_law_989 ⟨by show _ ≤ rC; exact Nat.le_trans (Nat.le_add_right _ _) hbc, by show _ ≤ rS; exact Nat.le_trans (Nat.le_add_right _ _) hbs⟩) hW (fun r_1 S_2 H locs hp hW => ?_)
  obtain ⟨hX_S_2, hp⟩ := hp
  refine w_same ?_
  have hE := hE.trans hX_S_2
  have hK_a0 : sK S_2 a0 = 21 := (hX_S_2.2 a0 hL_a0).1.trans hK_a0
  have hL_a0 : wM D S_2 a0 := hX_S_2.M hL_a0
  have hK_a1 : sK S_2 a1 = 16 := (hX_S_2.2 a1 hL_a1).1.trans hK_a1
  have hL_a1 : wM D S_2 a1 := hX_S_2.M hL_a1
  have hK_a2 : sK S_2 a2 = 17 := (hX_S_2.2 a2 hL_a2).1.trans hK_a2
  have hL_a2 : wM D S_2 a2 := hX_S_2.M hL_a2
  have hK_a3 : sK S_2 a3 = 22 := (hX_S_2.2 a3 hL_a3).1.trans hK_a3
  have hL_a3 : wM D S_2 a3 := hX_S_2.M hL_a3
  have hK_a4 : sK S_2 a4 = 25 := (hX_S_2.2 a4 hL_a4).1.trans hK_a4
  have hL_a4 : wM D S_2 a4 := hX_S_2.M hL_a4
  refine lv_icmp_eq (tgt := 3394) hx hb dL_law_992 (by decide) (fun c_3 => ?_) (fun c_3 => ?_)
  · replace hp := hp.1 c_3
    exact t_L_law_3394 F hr hlocks hK hl0 hQ q_28 hbc hbs hp hW hE (lv_sub hl [0, 1, 2, 3, 4, 5] rfl) hL_a0 hK_a0 hL_a1 hK_a1 hL_a2 hK_a2 hL_a3 hK_a3 hL_a4 hK_a4
  · replace hp := hp.2 c_3
    refine lv_iconst (v := 0) hx hb dL_law_995 (by decide) ?_
    refine W.widen (k := rC) (n := rS) (Nat.le_trans (Nat.le_add_right _ _) hbc) (Nat.le_trans (Nat.le_add_right _ _) hbs) ?_
    exact hQ hp dL_law_996 hW
set_option maxHeartbeats 4000000 in
set_option maxRecDepth 100000 in
theorem t_L_law_971 {p : Program} {l : Launch} {e : Env} {s : State} {m : MethodId} {args : Array Value} {below : List Frame} {meth : Method} {c : Code} {D : wD} {cy : Nat → ClassId} {X : va_W} {A : Nat → Prop} {S0 : wS} {rC rS : Nat} {post : Int32 → wS → Prop} (F : CallFix p m c cL_law 9 s args wz_L_law RL) (hr : meth.sig.returnType = (some .boolean)) (hlocks : meth.locks = false) (hK : wK D cy A s) (hl0 : l.stackTraces = false) {Q : State → Prop} (hQ : ∀ {pc : Nat} {H : Heap} {locs : List Loc} {ls : Array Slot} {S : wS} {r : Int32}, post r S → decode cL_law pc = .ok (.ireturn, 1) → wO D cy X A s.heap S H locs → W p l e (r_L_law rC rS) s m args below meth c H locs rC rS Q (F0 m pc ls [.int r])) {k_28 : Nat → Nat → wS → Nat → Nat → Nat → Nat → Nat → Int32 → Prop} (q_28 : ∀ {bc bs cells slots : Nat} (hbc : cells + bc ≤ rC) (hbs : slots + bs ≤ rS) {S : wS} {H : Heap} {locs : List Loc} {ls : Array Slot} {a0 : Nat} {a1 : Nat} {a2 : Nat} {a3 : Nat} {a4 : Nat} {x5 : Int32}, k_28 bc bs S a0 a1 a2 a3 a4 x5 → wO D cy X A s.heap S H locs → wX D S0 S → lv_has ls 9 [(0, .ref a0), (1, .ref a1), (2, .ref a2), (3, .ref a3), (4, .ref a4), (5, .int x5)] → wM D S a0 → sK S a0 = 21 → wM D S a1 → sK S a1 = 16 → wM D S a2 → sK S a2 = 17 → wM D S a3 → sK S a3 = 22 → wM D S a4 → sK S a4 = 25 → W p l e (r_L_law rC rS) s m args below meth c H locs cells slots Q (F0 m 28 ls [])) : ∀ {bc bs cells slots : Nat} (hbc : cells + bc ≤ rC) (hbs : slots + bs ≤ rS) {S : wS} {H : Heap} {locs : List Loc} {ls : Array Slot} {a0 : Nat} {a1 : Nat} {a2 : Nat} {a3 : Nat} {a4 : Nat} {x5 : Int32} {b0 : Nat} {t1 : Int32}, wp_L_law_971 D post k_28 bc bs S a0 a1 a2 a3 a4 x5 b0 t1 → wO D cy X A s.heap S H locs → wX D S0 S → lv_has ls 9 [(0, .ref a0), (1, .ref a1), (2, .ref a2), (3, .ref a3), (4, .ref a4), (5, .int x5)] → wM D S a0 → sK S a0 = 21 → wM D S a1 → sK S a1 = 16 → wM D S a2 → sK S a2 = 17 → wM D S a3 → sK S a3 = 22 → wM D S a4 → sK S a4 = 25 → wM D S b0 → sK S b0 = 16 → W p l e (r_L_law rC rS) s m args below meth c H locs cells slots Q (F0 m 971 ls [.int t1, .ref b0]) := by
  obtain ⟨hx, hb, hml, hown, hts⟩ := id F
  have hwg : ∀ w ∈ WG, w.before args s = true := fun w h => hts w (List.mem_cons_of_mem _ h)
  intro bc bs cells slots hbc hbs S H locs ls a0 a1 a2 a3 a4 x5 b0 t1 hp hW hE hl hL_a0 hK_a0 hL_a1 hK_a1 hL_a2 hK_a2 hL_a3 hK_a3 hL_a4 hK_a4 hL_b0 hK_b0
  unfold wp_L_law_971 at hp
  refine w_callI (va_runV (As := [.int t1]) (rest := []) F (c_X11_material l hL_b0 hK_b0 hp H.size) (cwV (C := RX11) 1 hts (wg_V wm_RL_237 wy_X11_material) rfl rfl rfl (by decide +kernel) ⟨Nat.le_of_ble_eq_true rfl, Nat.le_of_ble_eq_true rfl⟩) (w_preV hK hW hL_b0 hK_b0 (by decide) rfl) rfl rfl hl.1 rfl (lv_room (Nat.le_of_ble_eq_true rfl)) dL_law_971 ⟨by show _ ≤ rC; exact Nat.le_trans (Nat.le_add_right _ _) hbc, by show _ ≤ rS; exact Nat.le_trans (Nat.le_add_right _ _) hbs⟩) hW (fun r_1 S_2 H locs hp hW => ?_)
  obtain ⟨hX_S_2, hp⟩ := hp
  refine w_same ?_
  have hE := hE.trans hX_S_2
  have hK_a0 : sK S_2 a0 = 21 := (hX_S_2.2 a0 hL_a0).1.trans hK_a0
  have hL_a0 : wM D S_2 a0 := hX_S_2.M hL_a0
  have hK_a1 : sK S_2 a1 = 16 := (hX_S_2.2 a1 hL_a1).1.trans hK_a1
  have hL_a1 : wM D S_2 a1 := hX_S_2.M hL_a1
  have hK_a2 : sK S_2 a2 = 17 := (hX_S_2.2 a2 hL_a2).1.trans hK_a2
  have hL_a2 : wM D S_2 a2 := hX_S_2.M hL_a2
  have hK_a3 : sK S_2 a3 = 22 := (hX_S_2.2 a3 hL_a3).1.trans hK_a3
  have hL_a3 : wM D S_2 a3 := hX_S_2.M hL_a3
  have hK_a4 : sK S_2 a4 = 25 := (hX_S_2.2 a4 hL_a4).1.trans hK_a4
  have hL_a4 : wM D S_2 a4 := hX_S_2.M hL_a4
  refine lv_aload_n hx hb dL_law_974 rfl (lv_at hl 2 rfl) ?_
  refine lv_aload_n hx hb dL_law_975 rfl (lv_at hl 0 rfl) ?_
  refine lv_iload hx hb dL_law_976 (lv_at hl 5 rfl) ?_
  refine lv_iconst (v := 1) hx hb dL_law_978 (by decide) ?_
  refine lv_iadd hx hb dL_law_979 ?_
  obtain ⟨h_3, hp⟩ := hp
  refine w_ild F hK hW hL_a0 hK_a0 h_3 dL_law_980 ?_
  refine lv_if_eq (tgt := 988) hx hb dL_law_981 (by decide) (fun c_4 => ?_) (fun c_4 => ?_)
  · replace hp := hp.1 c_4
    refine lv_iconst (v := 0) hx hb dL_law_988 (by decide) ?_
    exact t_L_law_989 F hr hlocks hK hl0 hQ q_28 hbc hbs hp hW hE (lv_sub hl [0, 1, 2, 3, 4, 5] rfl) hL_a0 hK_a0 hL_a1 hK_a1 hL_a2 hK_a2 hL_a3 hK_a3 hL_a4 hK_a4 hL_a2 hK_a2
  · replace hp := hp.2 c_4
    refine lv_iconst (v := 1) hx hb dL_law_984 (by decide) ?_
    refine lv_goto (tgt := 989) hx hb dL_law_985 (by decide) ?_
    exact t_L_law_989 F hr hlocks hK hl0 hQ q_28 hbc hbs hp hW hE (lv_sub hl [0, 1, 2, 3, 4, 5] rfl) hL_a0 hK_a0 hL_a1 hK_a1 hL_a2 hK_a2 hL_a3 hK_a3 hL_a4 hK_a4 hL_a2 hK_a2
set_option maxHeartbeats 4000000 in
set_option maxRecDepth 100000 in
theorem t_L_law_953 {p : Program} {l : Launch} {e : Env} {s : State} {m : MethodId} {args : Array Value} {below : List Frame} {meth : Method} {c : Code} {D : wD} {cy : Nat → ClassId} {X : va_W} {A : Nat → Prop} {S0 : wS} {rC rS : Nat} {post : Int32 → wS → Prop} (F : CallFix p m c cL_law 9 s args wz_L_law RL) (hr : meth.sig.returnType = (some .boolean)) (hlocks : meth.locks = false) (hK : wK D cy A s) (hl0 : l.stackTraces = false) {Q : State → Prop} (hQ : ∀ {pc : Nat} {H : Heap} {locs : List Loc} {ls : Array Slot} {S : wS} {r : Int32}, post r S → decode cL_law pc = .ok (.ireturn, 1) → wO D cy X A s.heap S H locs → W p l e (r_L_law rC rS) s m args below meth c H locs rC rS Q (F0 m pc ls [.int r])) {k_28 : Nat → Nat → wS → Nat → Nat → Nat → Nat → Nat → Int32 → Prop} (q_28 : ∀ {bc bs cells slots : Nat} (hbc : cells + bc ≤ rC) (hbs : slots + bs ≤ rS) {S : wS} {H : Heap} {locs : List Loc} {ls : Array Slot} {a0 : Nat} {a1 : Nat} {a2 : Nat} {a3 : Nat} {a4 : Nat} {x5 : Int32}, k_28 bc bs S a0 a1 a2 a3 a4 x5 → wO D cy X A s.heap S H locs → wX D S0 S → lv_has ls 9 [(0, .ref a0), (1, .ref a1), (2, .ref a2), (3, .ref a3), (4, .ref a4), (5, .int x5)] → wM D S a0 → sK S a0 = 21 → wM D S a1 → sK S a1 = 16 → wM D S a2 → sK S a2 = 17 → wM D S a3 → sK S a3 = 22 → wM D S a4 → sK S a4 = 25 → W p l e (r_L_law rC rS) s m args below meth c H locs cells slots Q (F0 m 28 ls [])) : ∀ {bc bs cells slots : Nat} (hbc : cells + bc ≤ rC) (hbs : slots + bs ≤ rS) {S : wS} {H : Heap} {locs : List Loc} {ls : Array Slot} {a0 : Nat} {a1 : Nat} {a2 : Nat} {a3 : Nat} {a4 : Nat} {x5 : Int32}, wp_L_law_953 D post k_28 bc bs S a0 a1 a2 a3 a4 x5 → wO D cy X A s.heap S H locs → wX D S0 S → lv_has ls 9 [(0, .ref a0), (1, .ref a1), (2, .ref a2), (3, .ref a3), (4, .ref a4), (5, .int x5)] → wM D S a0 → sK S a0 = 21 → wM D S a1 → sK S a1 = 16 → wM D S a2 → sK S a2 = 17 → wM D S a3 → sK S a3 = 22 → wM D S a4 → sK S a4 = 25 → W p l e (r_L_law rC rS) s m args below meth c H locs cells slots Q (F0 m 953 ls []) := by
  obtain ⟨hx, hb, hml, hown, hts⟩ := id F
  have hwg : ∀ w ∈ WG, w.before args s = true := fun w h => hts w (List.mem_cons_of_mem _ h)
  intro bc bs cells slots hbc hbs S H locs ls a0 a1 a2 a3 a4 x5 hp hW hE hl hL_a0 hK_a0 hL_a1 hK_a1 hL_a2 hK_a2 hL_a3 hK_a3 hL_a4 hK_a4
  unfold wp_L_law_953 at hp
  refine lv_goto (tgt := 3394) hx hb dL_law_953 (by decide) ?_
  exact t_L_law_3394 F hr hlocks hK hl0 hQ q_28 hbc hbs hp hW hE (lv_sub hl [0, 1, 2, 3, 4, 5] rfl) hL_a0 hK_a0 hL_a1 hK_a1 hL_a2 hK_a2 hL_a3 hK_a3 hL_a4 hK_a4
set_option maxHeartbeats 4000000 in
set_option maxRecDepth 100000 in
theorem t_L_law_884 {p : Program} {l : Launch} {e : Env} {s : State} {m : MethodId} {args : Array Value} {below : List Frame} {meth : Method} {c : Code} {D : wD} {cy : Nat → ClassId} {X : va_W} {A : Nat → Prop} {S0 : wS} {rC rS : Nat} {post : Int32 → wS → Prop} (F : CallFix p m c cL_law 9 s args wz_L_law RL) (hr : meth.sig.returnType = (some .boolean)) (hlocks : meth.locks = false) (hK : wK D cy A s) (hl0 : l.stackTraces = false) {Q : State → Prop} (hQ : ∀ {pc : Nat} {H : Heap} {locs : List Loc} {ls : Array Slot} {S : wS} {r : Int32}, post r S → decode cL_law pc = .ok (.ireturn, 1) → wO D cy X A s.heap S H locs → W p l e (r_L_law rC rS) s m args below meth c H locs rC rS Q (F0 m pc ls [.int r])) {k_28 : Nat → Nat → wS → Nat → Nat → Nat → Nat → Nat → Int32 → Prop} (q_28 : ∀ {bc bs cells slots : Nat} (hbc : cells + bc ≤ rC) (hbs : slots + bs ≤ rS) {S : wS} {H : Heap} {locs : List Loc} {ls : Array Slot} {a0 : Nat} {a1 : Nat} {a2 : Nat} {a3 : Nat} {a4 : Nat} {x5 : Int32}, k_28 bc bs S a0 a1 a2 a3 a4 x5 → wO D cy X A s.heap S H locs → wX D S0 S → lv_has ls 9 [(0, .ref a0), (1, .ref a1), (2, .ref a2), (3, .ref a3), (4, .ref a4), (5, .int x5)] → wM D S a0 → sK S a0 = 21 → wM D S a1 → sK S a1 = 16 → wM D S a2 → sK S a2 = 17 → wM D S a3 → sK S a3 = 22 → wM D S a4 → sK S a4 = 25 → W p l e (r_L_law rC rS) s m args below meth c H locs cells slots Q (F0 m 28 ls [])) : ∀ {bc bs cells slots : Nat} (hbc : cells + bc ≤ rC) (hbs : slots + bs ≤ rS) {S : wS} {H : Heap} {locs : List Loc} {ls : Array Slot} {a0 : Nat} {a1 : Nat} {a2 : Nat} {a3 : Nat} {a4 : Nat} {x5 : Int32}, wp_L_law_884 D post k_28 bc bs S a0 a1 a2 a3 a4 x5 → wO D cy X A s.heap S H locs → wX D S0 S → lv_has ls 9 [(0, .ref a0), (1, .ref a1), (2, .ref a2), (3, .ref a3), (4, .ref a4), (5, .int x5)] → wM D S a0 → sK S a0 = 21 → wM D S a1 → sK S a1 = 16 → wM D S a2 → sK S a2 = 17 → wM D S a3 → sK S a3 = 22 → wM D S a4 → sK S a4 = 25 → W p l e (r_L_law rC rS) s m args below meth c H locs cells slots Q (F0 m 884 ls []) := by
  obtain ⟨hx, hb, hml, hown, hts⟩ := id F
  have hwg : ∀ w ∈ WG, w.before args s = true := fun w h => hts w (List.mem_cons_of_mem _ h)
  intro bc bs cells slots hbc hbs S H locs ls a0 a1 a2 a3 a4 x5 hp hW hE hl hL_a0 hK_a0 hL_a1 hK_a1 hL_a2 hK_a2 hL_a3 hK_a3 hL_a4 hK_a4
  unfold wp_L_law_884 at hp
  refine lv_goto (tgt := 3394) hx hb dL_law_884 (by decide) ?_
  exact t_L_law_3394 F hr hlocks hK hl0 hQ q_28 hbc hbs hp hW hE (lv_sub hl [0, 1, 2, 3, 4, 5] rfl) hL_a0 hK_a0 hL_a1 hK_a1 hL_a2 hK_a2 hL_a3 hK_a3 hL_a4 hK_a4
set_option maxHeartbeats 4000000 in
set_option maxRecDepth 100000 in
theorem t_L_law_878 {p : Program} {l : Launch} {e : Env} {s : State} {m : MethodId} {args : Array Value} {below : List Frame} {meth : Method} {c : Code} {D : wD} {cy : Nat → ClassId} {X : va_W} {A : Nat → Prop} {S0 : wS} {rC rS : Nat} {post : Int32 → wS → Prop} (F : CallFix p m c cL_law 9 s args wz_L_law RL) (hr : meth.sig.returnType = (some .boolean)) (hlocks : meth.locks = false) (hK : wK D cy A s) (hl0 : l.stackTraces = false) {Q : State → Prop} (hQ : ∀ {pc : Nat} {H : Heap} {locs : List Loc} {ls : Array Slot} {S : wS} {r : Int32}, post r S → decode cL_law pc = .ok (.ireturn, 1) → wO D cy X A s.heap S H locs → W p l e (r_L_law rC rS) s m args below meth c H locs rC rS Q (F0 m pc ls [.int r])) {k_28 : Nat → Nat → wS → Nat → Nat → Nat → Nat → Nat → Int32 → Prop} (q_28 : ∀ {bc bs cells slots : Nat} (hbc : cells + bc ≤ rC) (hbs : slots + bs ≤ rS) {S : wS} {H : Heap} {locs : List Loc} {ls : Array Slot} {a0 : Nat} {a1 : Nat} {a2 : Nat} {a3 : Nat} {a4 : Nat} {x5 : Int32}, k_28 bc bs S a0 a1 a2 a3 a4 x5 → wO D cy X A s.heap S H locs → wX D S0 S → lv_has ls 9 [(0, .ref a0), (1, .ref a1), (2, .ref a2), (3, .ref a3), (4, .ref a4), (5, .int x5)] → wM D S a0 → sK S a0 = 21 → wM D S a1 → sK S a1 = 16 → wM D S a2 → sK S a2 = 17 → wM D S a3 → sK S a3 = 22 → wM D S a4 → sK S a4 = 25 → W p l e (r_L_law rC rS) s m args below meth c H locs cells slots Q (F0 m 28 ls [])) : ∀ {bc bs cells slots : Nat} (hbc : cells + bc ≤ rC) (hbs : slots + bs ≤ rS) {S : wS} {H : Heap} {locs : List Loc} {ls : Array Slot} {a0 : Nat} {a1 : Nat} {a2 : Nat} {a3 : Nat} {a4 : Nat} {x5 : Int32} {t0 : Int64} {t1 : Int64}, wp_L_law_878 D post k_28 bc bs S a0 a1 a2 a3 a4 x5 t0 t1 → wO D cy X A s.heap S H locs → wX D S0 S → lv_has ls 9 [(0, .ref a0), (1, .ref a1), (2, .ref a2), (3, .ref a3), (4, .ref a4), (5, .int x5)] → wM D S a0 → sK S a0 = 21 → wM D S a1 → sK S a1 = 16 → wM D S a2 → sK S a2 = 17 → wM D S a3 → sK S a3 = 22 → wM D S a4 → sK S a4 = 25 → W p l e (r_L_law rC rS) s m args below meth c H locs cells slots Q (F0 m 878 ls [.long t1, .long t0]) := by
  obtain ⟨hx, hb, hml, hown, hts⟩ := id F
  have hwg : ∀ w ∈ WG, w.before args s = true := fun w h => hts w (List.mem_cons_of_mem _ h)
  intro bc bs cells slots hbc hbs S H locs ls a0 a1 a2 a3 a4 x5 t0 t1 hp hW hE hl hL_a0 hK_a0 hL_a1 hK_a1 hL_a2 hK_a2 hL_a3 hK_a3 hL_a4 hK_a4
  unfold wp_L_law_878 at hp
  refine W.lcmp hx hb dL_law_878 ?_
  refine lv_if_eq (tgt := 884) hx hb dL_law_879 (by decide) (fun c_1 => ?_) (fun c_1 => ?_)
  · replace hp := hp.1 c_1
    exact t_L_law_884 F hr hlocks hK hl0 hQ q_28 hbc hbs hp hW hE (lv_sub hl [0, 1, 2, 3, 4, 5] rfl) hL_a0 hK_a0 hL_a1 hK_a1 hL_a2 hK_a2 hL_a3 hK_a3 hL_a4 hK_a4
  · replace hp := hp.2 c_1
    refine lv_iconst (v := 0) hx hb dL_law_882 (by decide) ?_
    refine W.widen (k := rC) (n := rS) (Nat.le_trans (Nat.le_add_right _ _) hbc) (Nat.le_trans (Nat.le_add_right _ _) hbs) ?_
    exact hQ hp dL_law_883 hW
set_option maxHeartbeats 4000000 in
set_option maxRecDepth 100000 in
theorem t_L_law_821 {p : Program} {l : Launch} {e : Env} {s : State} {m : MethodId} {args : Array Value} {below : List Frame} {meth : Method} {c : Code} {D : wD} {cy : Nat → ClassId} {X : va_W} {A : Nat → Prop} {S0 : wS} {rC rS : Nat} {post : Int32 → wS → Prop} (F : CallFix p m c cL_law 9 s args wz_L_law RL) (hr : meth.sig.returnType = (some .boolean)) (hlocks : meth.locks = false) (hK : wK D cy A s) (hl0 : l.stackTraces = false) {Q : State → Prop} (hQ : ∀ {pc : Nat} {H : Heap} {locs : List Loc} {ls : Array Slot} {S : wS} {r : Int32}, post r S → decode cL_law pc = .ok (.ireturn, 1) → wO D cy X A s.heap S H locs → W p l e (r_L_law rC rS) s m args below meth c H locs rC rS Q (F0 m pc ls [.int r])) {k_28 : Nat → Nat → wS → Nat → Nat → Nat → Nat → Nat → Int32 → Prop} (q_28 : ∀ {bc bs cells slots : Nat} (hbc : cells + bc ≤ rC) (hbs : slots + bs ≤ rS) {S : wS} {H : Heap} {locs : List Loc} {ls : Array Slot} {a0 : Nat} {a1 : Nat} {a2 : Nat} {a3 : Nat} {a4 : Nat} {x5 : Int32}, k_28 bc bs S a0 a1 a2 a3 a4 x5 → wO D cy X A s.heap S H locs → wX D S0 S → lv_has ls 9 [(0, .ref a0), (1, .ref a1), (2, .ref a2), (3, .ref a3), (4, .ref a4), (5, .int x5)] → wM D S a0 → sK S a0 = 21 → wM D S a1 → sK S a1 = 16 → wM D S a2 → sK S a2 = 17 → wM D S a3 → sK S a3 = 22 → wM D S a4 → sK S a4 = 25 → W p l e (r_L_law rC rS) s m args below meth c H locs cells slots Q (F0 m 28 ls [])) : ∀ {bc bs cells slots : Nat} (hbc : cells + bc ≤ rC) (hbs : slots + bs ≤ rS) {S : wS} {H : Heap} {locs : List Loc} {ls : Array Slot} {a0 : Nat} {a1 : Nat} {a2 : Nat} {a3 : Nat} {a4 : Nat} {x5 : Int32}, wp_L_law_821 D post k_28 bc bs S a0 a1 a2 a3 a4 x5 → wO D cy X A s.heap S H locs → wX D S0 S → lv_has ls 9 [(0, .ref a0), (1, .ref a1), (2, .ref a2), (3, .ref a3), (4, .ref a4), (5, .int x5)] → wM D S a0 → sK S a0 = 21 → wM D S a1 → sK S a1 = 16 → wM D S a2 → sK S a2 = 17 → wM D S a3 → sK S a3 = 22 → wM D S a4 → sK S a4 = 25 → W p l e (r_L_law rC rS) s m args below meth c H locs cells slots Q (F0 m 821 ls []) := by
  obtain ⟨hx, hb, hml, hown, hts⟩ := id F
  have hwg : ∀ w ∈ WG, w.before args s = true := fun w h => hts w (List.mem_cons_of_mem _ h)
  intro bc bs cells slots hbc hbs S H locs ls a0 a1 a2 a3 a4 x5 hp hW hE hl hL_a0 hK_a0 hL_a1 hK_a1 hL_a2 hK_a2 hL_a3 hK_a3 hL_a4 hK_a4
  unfold wp_L_law_821 at hp
  refine lv_goto (tgt := 3394) hx hb dL_law_821 (by decide) ?_
  exact t_L_law_3394 F hr hlocks hK hl0 hQ q_28 hbc hbs hp hW hE (lv_sub hl [0, 1, 2, 3, 4, 5] rfl) hL_a0 hK_a0 hL_a1 hK_a1 hL_a2 hK_a2 hL_a3 hK_a3 hL_a4 hK_a4
set_option maxHeartbeats 4000000 in
set_option maxRecDepth 100000 in
theorem t_L_law_777 {p : Program} {l : Launch} {e : Env} {s : State} {m : MethodId} {args : Array Value} {below : List Frame} {meth : Method} {c : Code} {D : wD} {cy : Nat → ClassId} {X : va_W} {A : Nat → Prop} {S0 : wS} {rC rS : Nat} {post : Int32 → wS → Prop} (F : CallFix p m c cL_law 9 s args wz_L_law RL) (hr : meth.sig.returnType = (some .boolean)) (hlocks : meth.locks = false) (hK : wK D cy A s) (hl0 : l.stackTraces = false) {Q : State → Prop} (hQ : ∀ {pc : Nat} {H : Heap} {locs : List Loc} {ls : Array Slot} {S : wS} {r : Int32}, post r S → decode cL_law pc = .ok (.ireturn, 1) → wO D cy X A s.heap S H locs → W p l e (r_L_law rC rS) s m args below meth c H locs rC rS Q (F0 m pc ls [.int r])) {k_28 : Nat → Nat → wS → Nat → Nat → Nat → Nat → Nat → Int32 → Prop} (q_28 : ∀ {bc bs cells slots : Nat} (hbc : cells + bc ≤ rC) (hbs : slots + bs ≤ rS) {S : wS} {H : Heap} {locs : List Loc} {ls : Array Slot} {a0 : Nat} {a1 : Nat} {a2 : Nat} {a3 : Nat} {a4 : Nat} {x5 : Int32}, k_28 bc bs S a0 a1 a2 a3 a4 x5 → wO D cy X A s.heap S H locs → wX D S0 S → lv_has ls 9 [(0, .ref a0), (1, .ref a1), (2, .ref a2), (3, .ref a3), (4, .ref a4), (5, .int x5)] → wM D S a0 → sK S a0 = 21 → wM D S a1 → sK S a1 = 16 → wM D S a2 → sK S a2 = 17 → wM D S a3 → sK S a3 = 22 → wM D S a4 → sK S a4 = 25 → W p l e (r_L_law rC rS) s m args below meth c H locs cells slots Q (F0 m 28 ls [])) : ∀ {bc bs cells slots : Nat} (hbc : cells + bc ≤ rC) (hbs : slots + bs ≤ rS) {S : wS} {H : Heap} {locs : List Loc} {ls : Array Slot} {a0 : Nat} {a1 : Nat} {a2 : Nat} {a3 : Nat} {a4 : Nat} {x5 : Int32}, wp_L_law_777 D post k_28 bc bs S a0 a1 a2 a3 a4 x5 → wO D cy X A s.heap S H locs → wX D S0 S → lv_has ls 9 [(0, .ref a0), (1, .ref a1), (2, .ref a2), (3, .ref a3), (4, .ref a4), (5, .int x5)] → wM D S a0 → sK S a0 = 21 → wM D S a1 → sK S a1 = 16 → wM D S a2 → sK S a2 = 17 → wM D S a3 → sK S a3 = 22 → wM D S a4 → sK S a4 = 25 → W p l e (r_L_law rC rS) s m args below meth c H locs cells slots Q (F0 m 777 ls []) := by
  obtain ⟨hx, hb, hml, hown, hts⟩ := id F
  have hwg : ∀ w ∈ WG, w.before args s = true := fun w h => hts w (List.mem_cons_of_mem _ h)
  intro bc bs cells slots hbc hbs S H locs ls a0 a1 a2 a3 a4 x5 hp hW hE hl hL_a0 hK_a0 hL_a1 hK_a1 hL_a2 hK_a2 hL_a3 hK_a3 hL_a4 hK_a4
  unfold wp_L_law_777 at hp
  refine lv_goto (tgt := 3394) hx hb dL_law_777 (by decide) ?_
  exact t_L_law_3394 F hr hlocks hK hl0 hQ q_28 hbc hbs hp hW hE (lv_sub hl [0, 1, 2, 3, 4, 5] rfl) hL_a0 hK_a0 hL_a1 hK_a1 hL_a2 hK_a2 hL_a3 hK_a3 hL_a4 hK_a4
set_option maxHeartbeats 4000000 in
set_option maxRecDepth 100000 in
theorem t_L_law_771 {p : Program} {l : Launch} {e : Env} {s : State} {m : MethodId} {args : Array Value} {below : List Frame} {meth : Method} {c : Code} {D : wD} {cy : Nat → ClassId} {X : va_W} {A : Nat → Prop} {S0 : wS} {rC rS : Nat} {post : Int32 → wS → Prop} (F : CallFix p m c cL_law 9 s args wz_L_law RL) (hr : meth.sig.returnType = (some .boolean)) (hlocks : meth.locks = false) (hK : wK D cy A s) (hl0 : l.stackTraces = false) {Q : State → Prop} (hQ : ∀ {pc : Nat} {H : Heap} {locs : List Loc} {ls : Array Slot} {S : wS} {r : Int32}, post r S → decode cL_law pc = .ok (.ireturn, 1) → wO D cy X A s.heap S H locs → W p l e (r_L_law rC rS) s m args below meth c H locs rC rS Q (F0 m pc ls [.int r])) {k_28 : Nat → Nat → wS → Nat → Nat → Nat → Nat → Nat → Int32 → Prop} (q_28 : ∀ {bc bs cells slots : Nat} (hbc : cells + bc ≤ rC) (hbs : slots + bs ≤ rS) {S : wS} {H : Heap} {locs : List Loc} {ls : Array Slot} {a0 : Nat} {a1 : Nat} {a2 : Nat} {a3 : Nat} {a4 : Nat} {x5 : Int32}, k_28 bc bs S a0 a1 a2 a3 a4 x5 → wO D cy X A s.heap S H locs → wX D S0 S → lv_has ls 9 [(0, .ref a0), (1, .ref a1), (2, .ref a2), (3, .ref a3), (4, .ref a4), (5, .int x5)] → wM D S a0 → sK S a0 = 21 → wM D S a1 → sK S a1 = 16 → wM D S a2 → sK S a2 = 17 → wM D S a3 → sK S a3 = 22 → wM D S a4 → sK S a4 = 25 → W p l e (r_L_law rC rS) s m args below meth c H locs cells slots Q (F0 m 28 ls [])) : ∀ {bc bs cells slots : Nat} (hbc : cells + bc ≤ rC) (hbs : slots + bs ≤ rS) {S : wS} {H : Heap} {locs : List Loc} {ls : Array Slot} {a0 : Nat} {a1 : Nat} {a2 : Nat} {a3 : Nat} {a4 : Nat} {x5 : Int32} {t0 : Int64} {t1 : Int64}, wp_L_law_771 D post k_28 bc bs S a0 a1 a2 a3 a4 x5 t0 t1 → wO D cy X A s.heap S H locs → wX D S0 S → lv_has ls 9 [(0, .ref a0), (1, .ref a1), (2, .ref a2), (3, .ref a3), (4, .ref a4), (5, .int x5)] → wM D S a0 → sK S a0 = 21 → wM D S a1 → sK S a1 = 16 → wM D S a2 → sK S a2 = 17 → wM D S a3 → sK S a3 = 22 → wM D S a4 → sK S a4 = 25 → W p l e (r_L_law rC rS) s m args below meth c H locs cells slots Q (F0 m 771 ls [.long t1, .long t0]) := by
  obtain ⟨hx, hb, hml, hown, hts⟩ := id F
  have hwg : ∀ w ∈ WG, w.before args s = true := fun w h => hts w (List.mem_cons_of_mem _ h)
  intro bc bs cells slots hbc hbs S H locs ls a0 a1 a2 a3 a4 x5 t0 t1 hp hW hE hl hL_a0 hK_a0 hL_a1 hK_a1 hL_a2 hK_a2 hL_a3 hK_a3 hL_a4 hK_a4
  unfold wp_L_law_771 at hp
  refine W.lcmp hx hb dL_law_771 ?_
  refine lv_if_eq (tgt := 777) hx hb dL_law_772 (by decide) (fun c_1 => ?_) (fun c_1 => ?_)
  · replace hp := hp.1 c_1
    exact t_L_law_777 F hr hlocks hK hl0 hQ q_28 hbc hbs hp hW hE (lv_sub hl [0, 1, 2, 3, 4, 5] rfl) hL_a0 hK_a0 hL_a1 hK_a1 hL_a2 hK_a2 hL_a3 hK_a3 hL_a4 hK_a4
  · replace hp := hp.2 c_1
    refine lv_iconst (v := 0) hx hb dL_law_775 (by decide) ?_
    refine W.widen (k := rC) (n := rS) (Nat.le_trans (Nat.le_add_right _ _) hbc) (Nat.le_trans (Nat.le_add_right _ _) hbs) ?_
    exact hQ hp dL_law_776 hW
set_option maxHeartbeats 4000000 in
set_option maxRecDepth 100000 in
theorem t_L_law_737 {p : Program} {l : Launch} {e : Env} {s : State} {m : MethodId} {args : Array Value} {below : List Frame} {meth : Method} {c : Code} {D : wD} {cy : Nat → ClassId} {X : va_W} {A : Nat → Prop} {S0 : wS} {rC rS : Nat} {post : Int32 → wS → Prop} (F : CallFix p m c cL_law 9 s args wz_L_law RL) (hr : meth.sig.returnType = (some .boolean)) (hlocks : meth.locks = false) (hK : wK D cy A s) (hl0 : l.stackTraces = false) {Q : State → Prop} (hQ : ∀ {pc : Nat} {H : Heap} {locs : List Loc} {ls : Array Slot} {S : wS} {r : Int32}, post r S → decode cL_law pc = .ok (.ireturn, 1) → wO D cy X A s.heap S H locs → W p l e (r_L_law rC rS) s m args below meth c H locs rC rS Q (F0 m pc ls [.int r])) {k_28 : Nat → Nat → wS → Nat → Nat → Nat → Nat → Nat → Int32 → Prop} (q_28 : ∀ {bc bs cells slots : Nat} (hbc : cells + bc ≤ rC) (hbs : slots + bs ≤ rS) {S : wS} {H : Heap} {locs : List Loc} {ls : Array Slot} {a0 : Nat} {a1 : Nat} {a2 : Nat} {a3 : Nat} {a4 : Nat} {x5 : Int32}, k_28 bc bs S a0 a1 a2 a3 a4 x5 → wO D cy X A s.heap S H locs → wX D S0 S → lv_has ls 9 [(0, .ref a0), (1, .ref a1), (2, .ref a2), (3, .ref a3), (4, .ref a4), (5, .int x5)] → wM D S a0 → sK S a0 = 21 → wM D S a1 → sK S a1 = 16 → wM D S a2 → sK S a2 = 17 → wM D S a3 → sK S a3 = 22 → wM D S a4 → sK S a4 = 25 → W p l e (r_L_law rC rS) s m args below meth c H locs cells slots Q (F0 m 28 ls [])) : ∀ {bc bs cells slots : Nat} (hbc : cells + bc ≤ rC) (hbs : slots + bs ≤ rS) {S : wS} {H : Heap} {locs : List Loc} {ls : Array Slot} {a0 : Nat} {a1 : Nat} {a2 : Nat} {a3 : Nat} {a4 : Nat} {x5 : Int32} {x6 : Int32} {b0 : Nat} {t1 : Int32} {t2 : Int32}, wp_L_law_737 D post k_28 bc bs S a0 a1 a2 a3 a4 x5 x6 b0 t1 t2 → wO D cy X A s.heap S H locs → wX D S0 S → lv_has ls 9 [(0, .ref a0), (1, .ref a1), (2, .ref a2), (3, .ref a3), (4, .ref a4), (5, .int x5), (6, .int x6)] → wM D S a0 → sK S a0 = 21 → wM D S a1 → sK S a1 = 16 → wM D S a2 → sK S a2 = 17 → wM D S a3 → sK S a3 = 22 → wM D S a4 → sK S a4 = 25 → wM D S b0 → sK S b0 = 17 → W p l e (r_L_law rC rS) s m args below meth c H locs cells slots Q (F0 m 737 ls [.int t2, .int t1, .ref b0]) := by
  obtain ⟨hx, hb, hml, hown, hts⟩ := id F
  have hwg : ∀ w ∈ WG, w.before args s = true := fun w h => hts w (List.mem_cons_of_mem _ h)
  intro bc bs cells slots hbc hbs S H locs ls a0 a1 a2 a3 a4 x5 x6 b0 t1 t2 hp hW hE hl hL_a0 hK_a0 hL_a1 hK_a1 hL_a2 hK_a2 hL_a3 hK_a3 hL_a4 hK_a4 hL_b0 hK_b0
  unfold wp_L_law_737 at hp
  refine w_callI (va_runV (As := [.int t1, .int t2]) (rest := []) F (c_X12_isAttacked l hL_b0 hK_b0 hp H.size) (cwV (C := RX12) 2 hts (wg_V wm_RL_223 wy_X12_isAttacked) rfl rfl rfl (by decide +kernel) ⟨Nat.le_of_ble_eq_true rfl, Nat.le_of_ble_eq_true rfl⟩) (w_preV hK hW hL_b0 hK_b0 (by decide) rfl) rfl rfl hl.1 rfl (lv_room (Nat.le_of_ble_eq_true rfl)) dL_law_737 ⟨by show _ ≤ rC; exact Nat.le_trans (Nat.le_add_right _ _) hbc, by show _ ≤ rS; exact Nat.le_trans (Nat.le_add_right _ _) hbs⟩) hW (fun r_1 S_2 H locs hp hW => ?_)
  obtain ⟨hX_S_2, hp⟩ := hp
  refine w_same ?_
  have hE := hE.trans hX_S_2
  have hK_a0 : sK S_2 a0 = 21 := (hX_S_2.2 a0 hL_a0).1.trans hK_a0
  have hL_a0 : wM D S_2 a0 := hX_S_2.M hL_a0
  have hK_a1 : sK S_2 a1 = 16 := (hX_S_2.2 a1 hL_a1).1.trans hK_a1
  have hL_a1 : wM D S_2 a1 := hX_S_2.M hL_a1
  have hK_a2 : sK S_2 a2 = 17 := (hX_S_2.2 a2 hL_a2).1.trans hK_a2
  have hL_a2 : wM D S_2 a2 := hX_S_2.M hL_a2
  have hK_a3 : sK S_2 a3 = 22 := (hX_S_2.2 a3 hL_a3).1.trans hK_a3
  have hL_a3 : wM D S_2 a3 := hX_S_2.M hL_a3
  have hK_a4 : sK S_2 a4 = 25 := (hX_S_2.2 a4 hL_a4).1.trans hK_a4
  have hL_a4 : wM D S_2 a4 := hX_S_2.M hL_a4
  refine lv_istore (lv' := [(7, .int r_1), (0, .ref a0), (1, .ref a1), (2, .ref a2), (3, .ref a3), (4, .ref a4), (5, .int x5), (6, .int x6)]) hx hb dL_law_740 hl (by decide) rfl (fun ls hl => ?_)
  refine lv_aload_n hx hb dL_law_742 rfl (lv_at hl 3 rfl) ?_
  refine w_callI (va_runV (As := []) (rest := []) F (c_X12_thrown l hL_a2 hK_a2 hp H.size) (cwV (C := RX12) 0 hts (wg_V wm_RL_181 wy_X12_thrown) rfl rfl rfl (by decide +kernel) ⟨Nat.le_of_ble_eq_true rfl, Nat.le_of_ble_eq_true rfl⟩) (w_preV hK hW hL_a2 hK_a2 (by decide) rfl) rfl rfl hl.1 rfl (lv_room (Nat.le_of_ble_eq_true rfl)) dL_law_743 ⟨by show _ ≤ rC; exact Nat.le_trans (Nat.le_add_right _ _) hbc, by show _ ≤ rS; exact Nat.le_trans (Nat.le_add_right _ _) hbs⟩) hW (fun r_3 S_4 H locs hp hW => ?_)
  obtain ⟨hX_S_4, hp⟩ := hp
  refine w_same ?_
  have hE := hE.trans hX_S_4
  have hK_a0 : sK S_4 a0 = 21 := (hX_S_4.2 a0 hL_a0).1.trans hK_a0
  have hL_a0 : wM D S_4 a0 := hX_S_4.M hL_a0
  have hK_a1 : sK S_4 a1 = 16 := (hX_S_4.2 a1 hL_a1).1.trans hK_a1
  have hL_a1 : wM D S_4 a1 := hX_S_4.M hL_a1
  have hK_a2 : sK S_4 a2 = 17 := (hX_S_4.2 a2 hL_a2).1.trans hK_a2
  have hL_a2 : wM D S_4 a2 := hX_S_4.M hL_a2
  have hK_a3 : sK S_4 a3 = 22 := (hX_S_4.2 a3 hL_a3).1.trans hK_a3
  have hL_a3 : wM D S_4 a3 := hX_S_4.M hL_a3
  have hK_a4 : sK S_4 a4 = 25 := (hX_S_4.2 a4 hL_a4).1.trans hK_a4
  have hL_a4 : wM D S_4 a4 := hX_S_4.M hL_a4
  refine lv_iload hx hb dL_law_746 (lv_at hl 7 rfl) ?_
  refine lv_icmp_eq (tgt := 753) hx hb dL_law_748 (by decide) (fun c_5 => ?_) (fun c_5 => ?_)
  · replace hp := hp.1 c_5
    refine lv_iload hx hb dL_law_753 (lv_at hl 7 rfl) ?_
    refine lv_if_ne (tgt := 777) hx hb dL_law_755 (by decide) (fun c_6 => ?_) (fun c_6 => ?_)
    · replace hp := hp.1 c_6
      exact t_L_law_777 F hr hlocks hK hl0 hQ q_28 hbc hbs hp hW hE (lv_sub hl [1, 2, 3, 4, 5, 6] rfl) hL_a0 hK_a0 hL_a1 hK_a1 hL_a2 hK_a2 hL_a3 hK_a3 hL_a4 hK_a4
    · replace hp := hp.2 c_6
      refine lv_aload_n hx hb dL_law_758 rfl (lv_at hl 4 rfl) ?_
      refine lv_iconst (v := 0) hx hb dL_law_759 (by decide) ?_
      obtain ⟨h_7, hp⟩ := hp
      refine w_lld F hK hW hL_a3 hK_a3 h_7 dL_law_760 ?_
      refine lv_iload hx hb dL_law_761 (lv_at hl 0 rfl) ?_
      refine lv_if_eq (tgt := 770) hx hb dL_law_763 (by decide) (fun c_8 => ?_) (fun c_8 => ?_)
      · replace hp := hp.1 c_8
        refine lv_lconst (v := 0) hx hb dL_law_770 (by decide) ?_
        exact t_L_law_771 F hr hlocks hK hl0 hQ q_28 hbc hbs hp hW hE (lv_sub hl [1, 2, 3, 4, 5, 6] rfl) hL_a0 hK_a0 hL_a1 hK_a1 hL_a2 hK_a2 hL_a3 hK_a3 hL_a4 hK_a4
      · replace hp := hp.2 c_8
        refine lv_lconst (v := 1) hx hb dL_law_766 (by decide) ?_
        refine lv_goto (tgt := 771) hx hb dL_law_767 (by decide) ?_
        exact t_L_law_771 F hr hlocks hK hl0 hQ q_28 hbc hbs hp hW hE (lv_sub hl [1, 2, 3, 4, 5, 6] rfl) hL_a0 hK_a0 hL_a1 hK_a1 hL_a2 hK_a2 hL_a3 hK_a3 hL_a4 hK_a4
  · replace hp := hp.2 c_5
    refine lv_iconst (v := 0) hx hb dL_law_751 (by decide) ?_
    refine W.widen (k := rC) (n := rS) (Nat.le_trans (Nat.le_add_right _ _) hbc) (Nat.le_trans (Nat.le_add_right _ _) hbs) ?_
    exact hQ hp dL_law_752 hW
set_option maxHeartbeats 4000000 in
set_option maxRecDepth 100000 in
theorem t_L_law_710 {p : Program} {l : Launch} {e : Env} {s : State} {m : MethodId} {args : Array Value} {below : List Frame} {meth : Method} {c : Code} {D : wD} {cy : Nat → ClassId} {X : va_W} {A : Nat → Prop} {S0 : wS} {rC rS : Nat} {post : Int32 → wS → Prop} (F : CallFix p m c cL_law 9 s args wz_L_law RL) (hr : meth.sig.returnType = (some .boolean)) (hlocks : meth.locks = false) (hK : wK D cy A s) (hl0 : l.stackTraces = false) {Q : State → Prop} (hQ : ∀ {pc : Nat} {H : Heap} {locs : List Loc} {ls : Array Slot} {S : wS} {r : Int32}, post r S → decode cL_law pc = .ok (.ireturn, 1) → wO D cy X A s.heap S H locs → W p l e (r_L_law rC rS) s m args below meth c H locs rC rS Q (F0 m pc ls [.int r])) {k_28 : Nat → Nat → wS → Nat → Nat → Nat → Nat → Nat → Int32 → Prop} (q_28 : ∀ {bc bs cells slots : Nat} (hbc : cells + bc ≤ rC) (hbs : slots + bs ≤ rS) {S : wS} {H : Heap} {locs : List Loc} {ls : Array Slot} {a0 : Nat} {a1 : Nat} {a2 : Nat} {a3 : Nat} {a4 : Nat} {x5 : Int32}, k_28 bc bs S a0 a1 a2 a3 a4 x5 → wO D cy X A s.heap S H locs → wX D S0 S → lv_has ls 9 [(0, .ref a0), (1, .ref a1), (2, .ref a2), (3, .ref a3), (4, .ref a4), (5, .int x5)] → wM D S a0 → sK S a0 = 21 → wM D S a1 → sK S a1 = 16 → wM D S a2 → sK S a2 = 17 → wM D S a3 → sK S a3 = 22 → wM D S a4 → sK S a4 = 25 → W p l e (r_L_law rC rS) s m args below meth c H locs cells slots Q (F0 m 28 ls [])) : ∀ {bc bs cells slots : Nat} (hbc : cells + bc ≤ rC) (hbs : slots + bs ≤ rS) {S : wS} {H : Heap} {locs : List Loc} {ls : Array Slot} {a0 : Nat} {a1 : Nat} {a2 : Nat} {a3 : Nat} {a4 : Nat} {x5 : Int32} {b0 : Nat} {t1 : Int32} {t2 : Int32}, wp_L_law_710 D post k_28 bc bs S a0 a1 a2 a3 a4 x5 b0 t1 t2 → wO D cy X A s.heap S H locs → wX D S0 S → lv_has ls 9 [(0, .ref a0), (1, .ref a1), (2, .ref a2), (3, .ref a3), (4, .ref a4), (5, .int x5)] → wM D S a0 → sK S a0 = 21 → wM D S a1 → sK S a1 = 16 → wM D S a2 → sK S a2 = 17 → wM D S a3 → sK S a3 = 22 → wM D S a4 → sK S a4 = 25 → wM D S b0 → sK S b0 = 16 → W p l e (r_L_law rC rS) s m args below meth c H locs cells slots Q (F0 m 710 ls [.int t2, .int t1, .ref b0]) := by
  obtain ⟨hx, hb, hml, hown, hts⟩ := id F
  have hwg : ∀ w ∈ WG, w.before args s = true := fun w h => hts w (List.mem_cons_of_mem _ h)
  intro bc bs cells slots hbc hbs S H locs ls a0 a1 a2 a3 a4 x5 b0 t1 t2 hp hW hE hl hL_a0 hK_a0 hL_a1 hK_a1 hL_a2 hK_a2 hL_a3 hK_a3 hL_a4 hK_a4 hL_b0 hK_b0
  unfold wp_L_law_710 at hp
  refine lv_aload_n hx hb dL_law_710 rfl (lv_at hl 3 rfl) ?_
  obtain ⟨h_3, h_3z, hp⟩ := hp
  refine x_callI (vx_runSX (As := [.ref b0, .int t1, .int t2, .ref a3]) (rest := []) F (c_L_isAttacked l hl0 hL_b0 hK_b0 hL_a3 hK_a3 hp H.size) (vx_cwSW 4 hts (wg_S wm_RL_220 wy_L_isAttacked) rfl rfl rfl ⟨by decide, by decide, by decide +kernel⟩ ⟨Nat.le_of_ble_eq_true rfl, Nat.le_of_ble_eq_true rfl⟩) (w_preS hK hW) rfl rfl hl.1 rfl (lv_room (Nat.le_of_ble_eq_true rfl)) dL_law_711 ⟨by show _ + 1 ≤ rC; omega, by show _ + 6 ≤ rS; omega⟩) hW (fun E ce q9 S9 H locs hp hW h1 h2 h3 => hp.elim) (fun r_1 S_2 H locs hp hW => ?_)
  obtain ⟨hX_S_2, hp⟩ := hp
  refine W.widen (k := _ + 1) (n := _ + 6) (Nat.le_refl _) (Nat.le_refl _) ?_
  replace hbc := w_spend hbc (show 1 ≤ bc by omega)
  replace hbs := w_spend hbs (show 6 ≤ bs by omega)
  have hE := hE.trans hX_S_2
  have hK_a0 : sK S_2 a0 = 21 := (hX_S_2.2 a0 hL_a0).1.trans hK_a0
  have hL_a0 : wM D S_2 a0 := hX_S_2.M hL_a0
  have hK_a1 : sK S_2 a1 = 16 := (hX_S_2.2 a1 hL_a1).1.trans hK_a1
  have hL_a1 : wM D S_2 a1 := hX_S_2.M hL_a1
  have hK_a2 : sK S_2 a2 = 17 := (hX_S_2.2 a2 hL_a2).1.trans hK_a2
  have hL_a2 : wM D S_2 a2 := hX_S_2.M hL_a2
  have hK_a3 : sK S_2 a3 = 22 := (hX_S_2.2 a3 hL_a3).1.trans hK_a3
  have hL_a3 : wM D S_2 a3 := hX_S_2.M hL_a3
  have hK_a4 : sK S_2 a4 = 25 := (hX_S_2.2 a4 hL_a4).1.trans hK_a4
  have hL_a4 : wM D S_2 a4 := hX_S_2.M hL_a4
  refine lv_istore (lv' := [(6, .int r_1), (0, .ref a0), (1, .ref a1), (2, .ref a2), (3, .ref a3), (4, .ref a4), (5, .int x5)]) hx hb dL_law_714 hl (by decide) rfl (fun ls hl => ?_)
  refine lv_aload_n hx hb dL_law_716 rfl (lv_at hl 3 rfl) ?_
  refine lv_aload_n hx hb dL_law_717 rfl (lv_at hl 1 rfl) ?_
  refine lv_iload hx hb dL_law_718 (lv_at hl 6 rfl) ?_
  refine lv_iconst (v := 1) hx hb dL_law_720 (by decide) ?_
  refine lv_iadd hx hb dL_law_721 ?_
  obtain ⟨h_4, hp⟩ := hp
  refine w_ild F hK hW hL_a0 hK_a0 h_4 dL_law_722 ?_
  refine lv_aload_n hx hb dL_law_723 rfl (lv_at hl 1 rfl) ?_
  refine lv_iload hx hb dL_law_724 (lv_at hl 6 rfl) ?_
  refine lv_iconst (v := 2) hx hb dL_law_726 (by decide) ?_
  refine lv_iadd hx hb dL_law_727 ?_
  obtain ⟨h_5, hp⟩ := hp
  refine w_ild F hK hW hL_a0 hK_a0 h_5 dL_law_728 ?_
  refine lv_if_eq (tgt := 736) hx hb dL_law_729 (by decide) (fun c_6 => ?_) (fun c_6 => ?_)
  · replace hp := hp.1 c_6
    refine lv_iconst (v := 0) hx hb dL_law_736 (by decide) ?_
    exact t_L_law_737 F hr hlocks hK hl0 hQ q_28 hbc hbs hp hW hE (lv_sub hl [1, 2, 3, 4, 5, 6, 0] rfl) hL_a0 hK_a0 hL_a1 hK_a1 hL_a2 hK_a2 hL_a3 hK_a3 hL_a4 hK_a4 hL_a2 hK_a2
  · replace hp := hp.2 c_6
    refine lv_iconst (v := 1) hx hb dL_law_732 (by decide) ?_
    refine lv_goto (tgt := 737) hx hb dL_law_733 (by decide) ?_
    exact t_L_law_737 F hr hlocks hK hl0 hQ q_28 hbc hbs hp hW hE (lv_sub hl [1, 2, 3, 4, 5, 6, 0] rfl) hL_a0 hK_a0 hL_a1 hK_a1 hL_a2 hK_a2 hL_a3 hK_a3 hL_a4 hK_a4 hL_a2 hK_a2
set_option maxHeartbeats 4000000 in
set_option maxRecDepth 100000 in
theorem t_L_law_634 {p : Program} {l : Launch} {e : Env} {s : State} {m : MethodId} {args : Array Value} {below : List Frame} {meth : Method} {c : Code} {D : wD} {cy : Nat → ClassId} {X : va_W} {A : Nat → Prop} {S0 : wS} {rC rS : Nat} {post : Int32 → wS → Prop} (F : CallFix p m c cL_law 9 s args wz_L_law RL) (hr : meth.sig.returnType = (some .boolean)) (hlocks : meth.locks = false) (hK : wK D cy A s) (hl0 : l.stackTraces = false) {Q : State → Prop} (hQ : ∀ {pc : Nat} {H : Heap} {locs : List Loc} {ls : Array Slot} {S : wS} {r : Int32}, post r S → decode cL_law pc = .ok (.ireturn, 1) → wO D cy X A s.heap S H locs → W p l e (r_L_law rC rS) s m args below meth c H locs rC rS Q (F0 m pc ls [.int r])) {k_28 : Nat → Nat → wS → Nat → Nat → Nat → Nat → Nat → Int32 → Prop} (q_28 : ∀ {bc bs cells slots : Nat} (hbc : cells + bc ≤ rC) (hbs : slots + bs ≤ rS) {S : wS} {H : Heap} {locs : List Loc} {ls : Array Slot} {a0 : Nat} {a1 : Nat} {a2 : Nat} {a3 : Nat} {a4 : Nat} {x5 : Int32}, k_28 bc bs S a0 a1 a2 a3 a4 x5 → wO D cy X A s.heap S H locs → wX D S0 S → lv_has ls 9 [(0, .ref a0), (1, .ref a1), (2, .ref a2), (3, .ref a3), (4, .ref a4), (5, .int x5)] → wM D S a0 → sK S a0 = 21 → wM D S a1 → sK S a1 = 16 → wM D S a2 → sK S a2 = 17 → wM D S a3 → sK S a3 = 22 → wM D S a4 → sK S a4 = 25 → W p l e (r_L_law rC rS) s m args below meth c H locs cells slots Q (F0 m 28 ls [])) : ∀ {bc bs cells slots : Nat} (hbc : cells + bc ≤ rC) (hbs : slots + bs ≤ rS) {S : wS} {H : Heap} {locs : List Loc} {ls : Array Slot} {a0 : Nat} {a1 : Nat} {a2 : Nat} {a3 : Nat} {a4 : Nat} {x5 : Int32}, wp_L_law_634 D post k_28 bc bs S a0 a1 a2 a3 a4 x5 → wO D cy X A s.heap S H locs → wX D S0 S → lv_has ls 9 [(0, .ref a0), (1, .ref a1), (2, .ref a2), (3, .ref a3), (4, .ref a4), (5, .int x5)] → wM D S a0 → sK S a0 = 21 → wM D S a1 → sK S a1 = 16 → wM D S a2 → sK S a2 = 17 → wM D S a3 → sK S a3 = 22 → wM D S a4 → sK S a4 = 25 → W p l e (r_L_law rC rS) s m args below meth c H locs cells slots Q (F0 m 634 ls []) := by
  obtain ⟨hx, hb, hml, hown, hts⟩ := id F
  have hwg : ∀ w ∈ WG, w.before args s = true := fun w h => hts w (List.mem_cons_of_mem _ h)
  intro bc bs cells slots hbc hbs S H locs ls a0 a1 a2 a3 a4 x5 hp hW hE hl hL_a0 hK_a0 hL_a1 hK_a1 hL_a2 hK_a2 hL_a3 hK_a3 hL_a4 hK_a4
  unfold wp_L_law_634 at hp
  refine lv_goto (tgt := 3394) hx hb dL_law_634 (by decide) ?_
  exact t_L_law_3394 F hr hlocks hK hl0 hQ q_28 hbc hbs hp hW hE (lv_sub hl [0, 1, 2, 3, 4, 5] rfl) hL_a0 hK_a0 hL_a1 hK_a1 hL_a2 hK_a2 hL_a3 hK_a3 hL_a4 hK_a4
set_option maxHeartbeats 4000000 in
set_option maxRecDepth 100000 in
theorem t_L_law_578 {p : Program} {l : Launch} {e : Env} {s : State} {m : MethodId} {args : Array Value} {below : List Frame} {meth : Method} {c : Code} {D : wD} {cy : Nat → ClassId} {X : va_W} {A : Nat → Prop} {S0 : wS} {rC rS : Nat} {post : Int32 → wS → Prop} (F : CallFix p m c cL_law 9 s args wz_L_law RL) (hr : meth.sig.returnType = (some .boolean)) (hlocks : meth.locks = false) (hK : wK D cy A s) (hl0 : l.stackTraces = false) {Q : State → Prop} (hQ : ∀ {pc : Nat} {H : Heap} {locs : List Loc} {ls : Array Slot} {S : wS} {r : Int32}, post r S → decode cL_law pc = .ok (.ireturn, 1) → wO D cy X A s.heap S H locs → W p l e (r_L_law rC rS) s m args below meth c H locs rC rS Q (F0 m pc ls [.int r])) {k_28 : Nat → Nat → wS → Nat → Nat → Nat → Nat → Nat → Int32 → Prop} (q_28 : ∀ {bc bs cells slots : Nat} (hbc : cells + bc ≤ rC) (hbs : slots + bs ≤ rS) {S : wS} {H : Heap} {locs : List Loc} {ls : Array Slot} {a0 : Nat} {a1 : Nat} {a2 : Nat} {a3 : Nat} {a4 : Nat} {x5 : Int32}, k_28 bc bs S a0 a1 a2 a3 a4 x5 → wO D cy X A s.heap S H locs → wX D S0 S → lv_has ls 9 [(0, .ref a0), (1, .ref a1), (2, .ref a2), (3, .ref a3), (4, .ref a4), (5, .int x5)] → wM D S a0 → sK S a0 = 21 → wM D S a1 → sK S a1 = 16 → wM D S a2 → sK S a2 = 17 → wM D S a3 → sK S a3 = 22 → wM D S a4 → sK S a4 = 25 → W p l e (r_L_law rC rS) s m args below meth c H locs cells slots Q (F0 m 28 ls [])) : ∀ {bc bs cells slots : Nat} (hbc : cells + bc ≤ rC) (hbs : slots + bs ≤ rS) {S : wS} {H : Heap} {locs : List Loc} {ls : Array Slot} {a0 : Nat} {a1 : Nat} {a2 : Nat} {a3 : Nat} {a4 : Nat} {x5 : Int32}, wp_L_law_578 D post k_28 bc bs S a0 a1 a2 a3 a4 x5 → wO D cy X A s.heap S H locs → wX D S0 S → lv_has ls 9 [(0, .ref a0), (1, .ref a1), (2, .ref a2), (3, .ref a3), (4, .ref a4), (5, .int x5)] → wM D S a0 → sK S a0 = 21 → wM D S a1 → sK S a1 = 16 → wM D S a2 → sK S a2 = 17 → wM D S a3 → sK S a3 = 22 → wM D S a4 → sK S a4 = 25 → W p l e (r_L_law rC rS) s m args below meth c H locs cells slots Q (F0 m 578 ls []) := by
  obtain ⟨hx, hb, hml, hown, hts⟩ := id F
  have hwg : ∀ w ∈ WG, w.before args s = true := fun w h => hts w (List.mem_cons_of_mem _ h)
  intro bc bs cells slots hbc hbs S H locs ls a0 a1 a2 a3 a4 x5 hp hW hE hl hL_a0 hK_a0 hL_a1 hK_a1 hL_a2 hK_a2 hL_a3 hK_a3 hL_a4 hK_a4
  unfold wp_L_law_578 at hp
  refine lv_goto (tgt := 3394) hx hb dL_law_578 (by decide) ?_
  exact t_L_law_3394 F hr hlocks hK hl0 hQ q_28 hbc hbs hp hW hE (lv_sub hl [0, 1, 2, 3, 4, 5] rfl) hL_a0 hK_a0 hL_a1 hK_a1 hL_a2 hK_a2 hL_a3 hK_a3 hL_a4 hK_a4
set_option maxHeartbeats 4000000 in
set_option maxRecDepth 100000 in
theorem t_L_law_534 {p : Program} {l : Launch} {e : Env} {s : State} {m : MethodId} {args : Array Value} {below : List Frame} {meth : Method} {c : Code} {D : wD} {cy : Nat → ClassId} {X : va_W} {A : Nat → Prop} {S0 : wS} {rC rS : Nat} {post : Int32 → wS → Prop} (F : CallFix p m c cL_law 9 s args wz_L_law RL) (hr : meth.sig.returnType = (some .boolean)) (hlocks : meth.locks = false) (hK : wK D cy A s) (hl0 : l.stackTraces = false) {Q : State → Prop} (hQ : ∀ {pc : Nat} {H : Heap} {locs : List Loc} {ls : Array Slot} {S : wS} {r : Int32}, post r S → decode cL_law pc = .ok (.ireturn, 1) → wO D cy X A s.heap S H locs → W p l e (r_L_law rC rS) s m args below meth c H locs rC rS Q (F0 m pc ls [.int r])) {k_28 : Nat → Nat → wS → Nat → Nat → Nat → Nat → Nat → Int32 → Prop} (q_28 : ∀ {bc bs cells slots : Nat} (hbc : cells + bc ≤ rC) (hbs : slots + bs ≤ rS) {S : wS} {H : Heap} {locs : List Loc} {ls : Array Slot} {a0 : Nat} {a1 : Nat} {a2 : Nat} {a3 : Nat} {a4 : Nat} {x5 : Int32}, k_28 bc bs S a0 a1 a2 a3 a4 x5 → wO D cy X A s.heap S H locs → wX D S0 S → lv_has ls 9 [(0, .ref a0), (1, .ref a1), (2, .ref a2), (3, .ref a3), (4, .ref a4), (5, .int x5)] → wM D S a0 → sK S a0 = 21 → wM D S a1 → sK S a1 = 16 → wM D S a2 → sK S a2 = 17 → wM D S a3 → sK S a3 = 22 → wM D S a4 → sK S a4 = 25 → W p l e (r_L_law rC rS) s m args below meth c H locs cells slots Q (F0 m 28 ls [])) : ∀ {bc bs cells slots : Nat} (hbc : cells + bc ≤ rC) (hbs : slots + bs ≤ rS) {S : wS} {H : Heap} {locs : List Loc} {ls : Array Slot} {a0 : Nat} {a1 : Nat} {a2 : Nat} {a3 : Nat} {a4 : Nat} {x5 : Int32}, wp_L_law_534 D post k_28 bc bs S a0 a1 a2 a3 a4 x5 → wO D cy X A s.heap S H locs → wX D S0 S → lv_has ls 9 [(0, .ref a0), (1, .ref a1), (2, .ref a2), (3, .ref a3), (4, .ref a4), (5, .int x5)] → wM D S a0 → sK S a0 = 21 → wM D S a1 → sK S a1 = 16 → wM D S a2 → sK S a2 = 17 → wM D S a3 → sK S a3 = 22 → wM D S a4 → sK S a4 = 25 → W p l e (r_L_law rC rS) s m args below meth c H locs cells slots Q (F0 m 534 ls []) := by
  obtain ⟨hx, hb, hml, hown, hts⟩ := id F
  have hwg : ∀ w ∈ WG, w.before args s = true := fun w h => hts w (List.mem_cons_of_mem _ h)
  intro bc bs cells slots hbc hbs S H locs ls a0 a1 a2 a3 a4 x5 hp hW hE hl hL_a0 hK_a0 hL_a1 hK_a1 hL_a2 hK_a2 hL_a3 hK_a3 hL_a4 hK_a4
  unfold wp_L_law_534 at hp
  refine lv_goto (tgt := 3394) hx hb dL_law_534 (by decide) ?_
  exact t_L_law_3394 F hr hlocks hK hl0 hQ q_28 hbc hbs hp hW hE (lv_sub hl [0, 1, 2, 3, 4, 5] rfl) hL_a0 hK_a0 hL_a1 hK_a1 hL_a2 hK_a2 hL_a3 hK_a3 hL_a4 hK_a4
set_option maxHeartbeats 4000000 in
set_option maxRecDepth 100000 in
theorem t_L_law_495 {p : Program} {l : Launch} {e : Env} {s : State} {m : MethodId} {args : Array Value} {below : List Frame} {meth : Method} {c : Code} {D : wD} {cy : Nat → ClassId} {X : va_W} {A : Nat → Prop} {S0 : wS} {rC rS : Nat} {post : Int32 → wS → Prop} (F : CallFix p m c cL_law 9 s args wz_L_law RL) (hr : meth.sig.returnType = (some .boolean)) (hlocks : meth.locks = false) (hK : wK D cy A s) (hl0 : l.stackTraces = false) {Q : State → Prop} (hQ : ∀ {pc : Nat} {H : Heap} {locs : List Loc} {ls : Array Slot} {S : wS} {r : Int32}, post r S → decode cL_law pc = .ok (.ireturn, 1) → wO D cy X A s.heap S H locs → W p l e (r_L_law rC rS) s m args below meth c H locs rC rS Q (F0 m pc ls [.int r])) {k_28 : Nat → Nat → wS → Nat → Nat → Nat → Nat → Nat → Int32 → Prop} (q_28 : ∀ {bc bs cells slots : Nat} (hbc : cells + bc ≤ rC) (hbs : slots + bs ≤ rS) {S : wS} {H : Heap} {locs : List Loc} {ls : Array Slot} {a0 : Nat} {a1 : Nat} {a2 : Nat} {a3 : Nat} {a4 : Nat} {x5 : Int32}, k_28 bc bs S a0 a1 a2 a3 a4 x5 → wO D cy X A s.heap S H locs → wX D S0 S → lv_has ls 9 [(0, .ref a0), (1, .ref a1), (2, .ref a2), (3, .ref a3), (4, .ref a4), (5, .int x5)] → wM D S a0 → sK S a0 = 21 → wM D S a1 → sK S a1 = 16 → wM D S a2 → sK S a2 = 17 → wM D S a3 → sK S a3 = 22 → wM D S a4 → sK S a4 = 25 → W p l e (r_L_law rC rS) s m args below meth c H locs cells slots Q (F0 m 28 ls [])) : ∀ {bc bs cells slots : Nat} (hbc : cells + bc ≤ rC) (hbs : slots + bs ≤ rS) {S : wS} {H : Heap} {locs : List Loc} {ls : Array Slot} {a0 : Nat} {a1 : Nat} {a2 : Nat} {a3 : Nat} {a4 : Nat} {x5 : Int32} {x6 : Int32} {b0 : Nat} {t1 : Int32}, wp_L_law_495 D post k_28 bc bs S a0 a1 a2 a3 a4 x5 x6 b0 t1 → wO D cy X A s.heap S H locs → wX D S0 S → lv_has ls 9 [(0, .ref a0), (1, .ref a1), (2, .ref a2), (3, .ref a3), (4, .ref a4), (5, .int x5), (6, .int x6)] → wM D S a0 → sK S a0 = 21 → wM D S a1 → sK S a1 = 16 → wM D S a2 → sK S a2 = 17 → wM D S a3 → sK S a3 = 22 → wM D S a4 → sK S a4 = 25 → wM D S b0 → sK S b0 = 17 → W p l e (r_L_law rC rS) s m args below meth c H locs cells slots Q (F0 m 495 ls [.int t1, .ref b0]) := by
  obtain ⟨hx, hb, hml, hown, hts⟩ := id F
  have hwg : ∀ w ∈ WG, w.before args s = true := fun w h => hts w (List.mem_cons_of_mem _ h)
  intro bc bs cells slots hbc hbs S H locs ls a0 a1 a2 a3 a4 x5 x6 b0 t1 hp hW hE hl hL_a0 hK_a0 hL_a1 hK_a1 hL_a2 hK_a2 hL_a3 hK_a3 hL_a4 hK_a4 hL_b0 hK_b0
  unfold wp_L_law_495 at hp
  refine lv_aload_n hx hb dL_law_495 rfl (lv_at hl 0 rfl) ?_
  refine lv_iload hx hb dL_law_496 (lv_at hl 5 rfl) ?_
  refine lv_iconst (v := 2) hx hb dL_law_498 (by decide) ?_
  refine lv_iadd hx hb dL_law_499 ?_
  obtain ⟨h_1, hp⟩ := hp
  refine w_ild F hK hW hL_a0 hK_a0 h_1 dL_law_500 ?_
  refine w_callI (va_runV (As := [.int t1, .int (sI S a0 ((x5 + (2 : Int32))).toNatClampNeg)]) (rest := []) F (c_X12_setSide l hL_b0 hK_b0 hp H.size) (cwV (C := RX12) 2 hts (wg_V wm_RL_194 wy_X12_setSide) rfl rfl rfl (by decide +kernel) ⟨Nat.le_of_ble_eq_true rfl, Nat.le_of_ble_eq_true rfl⟩) (w_preV hK hW hL_b0 hK_b0 (by decide) rfl) rfl rfl hl.1 rfl (lv_room (Nat.le_of_ble_eq_true rfl)) dL_law_501 ⟨by show _ ≤ rC; exact Nat.le_trans (Nat.le_add_right _ _) hbc, by show _ ≤ rS; exact Nat.le_trans (Nat.le_add_right _ _) hbs⟩) hW (fun r_2 S_3 H locs hp hW => ?_)
  obtain ⟨hX_S_3, hp⟩ := hp
  refine w_same ?_
  have hE := hE.trans hX_S_3
  have hK_a0 : sK S_3 a0 = 21 := (hX_S_3.2 a0 hL_a0).1.trans hK_a0
  have hL_a0 : wM D S_3 a0 := hX_S_3.M hL_a0
  have hK_a1 : sK S_3 a1 = 16 := (hX_S_3.2 a1 hL_a1).1.trans hK_a1
  have hL_a1 : wM D S_3 a1 := hX_S_3.M hL_a1
  have hK_a2 : sK S_3 a2 = 17 := (hX_S_3.2 a2 hL_a2).1.trans hK_a2
  have hL_a2 : wM D S_3 a2 := hX_S_3.M hL_a2
  have hK_a3 : sK S_3 a3 = 22 := (hX_S_3.2 a3 hL_a3).1.trans hK_a3
  have hL_a3 : wM D S_3 a3 := hX_S_3.M hL_a3
  have hK_a4 : sK S_3 a4 = 25 := (hX_S_3.2 a4 hL_a4).1.trans hK_a4
  have hL_a4 : wM D S_3 a4 := hX_S_3.M hL_a4
  refine lv_istore (lv' := [(7, .int r_2), (0, .ref a0), (1, .ref a1), (2, .ref a2), (3, .ref a3), (4, .ref a4), (5, .int x5), (6, .int x6)]) hx hb dL_law_504 hl (by decide) rfl (fun ls hl => ?_)
  refine lv_aload_n hx hb dL_law_506 rfl (lv_at hl 3 rfl) ?_
  refine w_callI (va_runV (As := []) (rest := []) F (c_X12_thrown l hL_a2 hK_a2 hp H.size) (cwV (C := RX12) 0 hts (wg_V wm_RL_181 wy_X12_thrown) rfl rfl rfl (by decide +kernel) ⟨Nat.le_of_ble_eq_true rfl, Nat.le_of_ble_eq_true rfl⟩) (w_preV hK hW hL_a2 hK_a2 (by decide) rfl) rfl rfl hl.1 rfl (lv_room (Nat.le_of_ble_eq_true rfl)) dL_law_507 ⟨by show _ ≤ rC; exact Nat.le_trans (Nat.le_add_right _ _) hbc, by show _ ≤ rS; exact Nat.le_trans (Nat.le_add_right _ _) hbs⟩) hW (fun r_4 S_5 H locs hp hW => ?_)
  obtain ⟨hX_S_5, hp⟩ := hp
  refine w_same ?_
  have hE := hE.trans hX_S_5
  have hK_a0 : sK S_5 a0 = 21 := (hX_S_5.2 a0 hL_a0).1.trans hK_a0
  have hL_a0 : wM D S_5 a0 := hX_S_5.M hL_a0
  have hK_a1 : sK S_5 a1 = 16 := (hX_S_5.2 a1 hL_a1).1.trans hK_a1
  have hL_a1 : wM D S_5 a1 := hX_S_5.M hL_a1
  have hK_a2 : sK S_5 a2 = 17 := (hX_S_5.2 a2 hL_a2).1.trans hK_a2
  have hL_a2 : wM D S_5 a2 := hX_S_5.M hL_a2
  have hK_a3 : sK S_5 a3 = 22 := (hX_S_5.2 a3 hL_a3).1.trans hK_a3
  have hL_a3 : wM D S_5 a3 := hX_S_5.M hL_a3
  have hK_a4 : sK S_5 a4 = 25 := (hX_S_5.2 a4 hL_a4).1.trans hK_a4
  have hL_a4 : wM D S_5 a4 := hX_S_5.M hL_a4
  refine lv_iload hx hb dL_law_510 (lv_at hl 7 rfl) ?_
  refine lv_icmp_eq (tgt := 517) hx hb dL_law_512 (by decide) (fun c_6 => ?_) (fun c_6 => ?_)
  · replace hp := hp.1 c_6
    refine lv_iload hx hb dL_law_517 (lv_at hl 7 rfl) ?_
    refine lv_if_ne (tgt := 534) hx hb dL_law_519 (by decide) (fun c_7 => ?_) (fun c_7 => ?_)
    · replace hp := hp.1 c_7
      exact t_L_law_534 F hr hlocks hK hl0 hQ q_28 hbc hbs hp hW hE (lv_sub hl [1, 2, 3, 4, 5, 6] rfl) hL_a0 hK_a0 hL_a1 hK_a1 hL_a2 hK_a2 hL_a3 hK_a3 hL_a4 hK_a4
    · replace hp := hp.2 c_7
      refine lv_aload_n hx hb dL_law_522 rfl (lv_at hl 4 rfl) ?_
      refine lv_iconst (v := 0) hx hb dL_law_523 (by decide) ?_
      obtain ⟨h_8, hp⟩ := hp
      refine w_lld F hK hW hL_a3 hK_a3 h_8 dL_law_524 ?_
      refine lv_iload hx hb dL_law_525 (lv_at hl 0 rfl) ?_
      refine lv_i2l (v := (Int32.toInt64 r_2)) hx hb dL_law_527 rfl ?_
      refine W.lcmp hx hb dL_law_528 ?_
      refine lv_if_eq (tgt := 534) hx hb dL_law_529 (by decide) (fun c_9 => ?_) (fun c_9 => ?_)
      · replace hp := hp.1 c_9
        exact t_L_law_534 F hr hlocks hK hl0 hQ q_28 hbc hbs hp hW hE (lv_sub hl [1, 2, 3, 4, 5, 6] rfl) hL_a0 hK_a0 hL_a1 hK_a1 hL_a2 hK_a2 hL_a3 hK_a3 hL_a4 hK_a4
      · replace hp := hp.2 c_9
        refine lv_iconst (v := 0) hx hb dL_law_532 (by decide) ?_
        refine W.widen (k := rC) (n := rS) (Nat.le_trans (Nat.le_add_right _ _) hbc) (Nat.le_trans (Nat.le_add_right _ _) hbs) ?_
        exact hQ hp dL_law_533 hW
  · replace hp := hp.2 c_6
    refine lv_iconst (v := 0) hx hb dL_law_515 (by decide) ?_
    refine W.widen (k := rC) (n := rS) (Nat.le_trans (Nat.le_add_right _ _) hbc) (Nat.le_trans (Nat.le_add_right _ _) hbs) ?_
    exact hQ hp dL_law_516 hW
set_option maxHeartbeats 4000000 in
set_option maxRecDepth 100000 in
theorem t_L_law_468 {p : Program} {l : Launch} {e : Env} {s : State} {m : MethodId} {args : Array Value} {below : List Frame} {meth : Method} {c : Code} {D : wD} {cy : Nat → ClassId} {X : va_W} {A : Nat → Prop} {S0 : wS} {rC rS : Nat} {post : Int32 → wS → Prop} (F : CallFix p m c cL_law 9 s args wz_L_law RL) (hr : meth.sig.returnType = (some .boolean)) (hlocks : meth.locks = false) (hK : wK D cy A s) (hl0 : l.stackTraces = false) {Q : State → Prop} (hQ : ∀ {pc : Nat} {H : Heap} {locs : List Loc} {ls : Array Slot} {S : wS} {r : Int32}, post r S → decode cL_law pc = .ok (.ireturn, 1) → wO D cy X A s.heap S H locs → W p l e (r_L_law rC rS) s m args below meth c H locs rC rS Q (F0 m pc ls [.int r])) {k_28 : Nat → Nat → wS → Nat → Nat → Nat → Nat → Nat → Int32 → Prop} (q_28 : ∀ {bc bs cells slots : Nat} (hbc : cells + bc ≤ rC) (hbs : slots + bs ≤ rS) {S : wS} {H : Heap} {locs : List Loc} {ls : Array Slot} {a0 : Nat} {a1 : Nat} {a2 : Nat} {a3 : Nat} {a4 : Nat} {x5 : Int32}, k_28 bc bs S a0 a1 a2 a3 a4 x5 → wO D cy X A s.heap S H locs → wX D S0 S → lv_has ls 9 [(0, .ref a0), (1, .ref a1), (2, .ref a2), (3, .ref a3), (4, .ref a4), (5, .int x5)] → wM D S a0 → sK S a0 = 21 → wM D S a1 → sK S a1 = 16 → wM D S a2 → sK S a2 = 17 → wM D S a3 → sK S a3 = 22 → wM D S a4 → sK S a4 = 25 → W p l e (r_L_law rC rS) s m args below meth c H locs cells slots Q (F0 m 28 ls [])) : ∀ {bc bs cells slots : Nat} (hbc : cells + bc ≤ rC) (hbs : slots + bs ≤ rS) {S : wS} {H : Heap} {locs : List Loc} {ls : Array Slot} {a0 : Nat} {a1 : Nat} {a2 : Nat} {a3 : Nat} {a4 : Nat} {x5 : Int32} {b0 : Nat} {t1 : Int32}, wp_L_law_468 D post k_28 bc bs S a0 a1 a2 a3 a4 x5 b0 t1 → wO D cy X A s.heap S H locs → wX D S0 S → lv_has ls 9 [(0, .ref a0), (1, .ref a1), (2, .ref a2), (3, .ref a3), (4, .ref a4), (5, .int x5)] → wM D S a0 → sK S a0 = 21 → wM D S a1 → sK S a1 = 16 → wM D S a2 → sK S a2 = 17 → wM D S a3 → sK S a3 = 22 → wM D S a4 → sK S a4 = 25 → wM D S b0 → sK S b0 = 16 → W p l e (r_L_law rC rS) s m args below meth c H locs cells slots Q (F0 m 468 ls [.int t1, .ref b0]) := by
  obtain ⟨hx, hb, hml, hown, hts⟩ := id F
  have hwg : ∀ w ∈ WG, w.before args s = true := fun w h => hts w (List.mem_cons_of_mem _ h)
  intro bc bs cells slots hbc hbs S H locs ls a0 a1 a2 a3 a4 x5 b0 t1 hp hW hE hl hL_a0 hK_a0 hL_a1 hK_a1 hL_a2 hK_a2 hL_a3 hK_a3 hL_a4 hK_a4 hL_b0 hK_b0
  unfold wp_L_law_468 at hp
  refine lv_aload_n hx hb dL_law_468 rfl (lv_at hl 0 rfl) ?_
  refine lv_iload hx hb dL_law_469 (lv_at hl 5 rfl) ?_
  refine lv_iconst (v := 2) hx hb dL_law_471 (by decide) ?_
  refine lv_iadd hx hb dL_law_472 ?_
  obtain ⟨h_1, hp⟩ := hp
  refine w_ild F hK hW hL_a0 hK_a0 h_1 dL_law_473 ?_
  refine lv_aload_n hx hb dL_law_474 rfl (lv_at hl 3 rfl) ?_
  obtain ⟨h_4, h_4z, hp⟩ := hp
  refine x_callI (vx_runSX (As := [.ref b0, .int t1, .int (sI S a0 ((x5 + (2 : Int32))).toNatClampNeg), .ref a3]) (rest := []) F (c_L_setSide l hl0 hL_b0 hK_b0 hL_a3 hK_a3 hp H.size) (vx_cwSW 4 hts (wg_S wm_RL_191 wy_L_setSide) rfl rfl rfl ⟨by decide, by decide, by decide +kernel⟩ ⟨Nat.le_of_ble_eq_true rfl, Nat.le_of_ble_eq_true rfl⟩) (w_preS hK hW) rfl rfl hl.1 rfl (lv_room (Nat.le_of_ble_eq_true rfl)) dL_law_475 ⟨by show _ + 1 ≤ rC; omega, by show _ + 6 ≤ rS; omega⟩) hW (fun E ce q9 S9 H locs hp hW h1 h2 h3 => hp.elim) (fun r_2 S_3 H locs hp hW => ?_)
  obtain ⟨hX_S_3, hp⟩ := hp
  refine W.widen (k := _ + 1) (n := _ + 6) (Nat.le_refl _) (Nat.le_refl _) ?_
  replace hbc := w_spend hbc (show 1 ≤ bc by omega)
  replace hbs := w_spend hbs (show 6 ≤ bs by omega)
  have hE := hE.trans hX_S_3
  have hK_a0 : sK S_3 a0 = 21 := (hX_S_3.2 a0 hL_a0).1.trans hK_a0
  have hL_a0 : wM D S_3 a0 := hX_S_3.M hL_a0
  have hK_a1 : sK S_3 a1 = 16 := (hX_S_3.2 a1 hL_a1).1.trans hK_a1
  have hL_a1 : wM D S_3 a1 := hX_S_3.M hL_a1
  have hK_a2 : sK S_3 a2 = 17 := (hX_S_3.2 a2 hL_a2).1.trans hK_a2
  have hL_a2 : wM D S_3 a2 := hX_S_3.M hL_a2
  have hK_a3 : sK S_3 a3 = 22 := (hX_S_3.2 a3 hL_a3).1.trans hK_a3
  have hL_a3 : wM D S_3 a3 := hX_S_3.M hL_a3
  have hK_a4 : sK S_3 a4 = 25 := (hX_S_3.2 a4 hL_a4).1.trans hK_a4
  have hL_a4 : wM D S_3 a4 := hX_S_3.M hL_a4
  refine lv_istore (lv' := [(6, .int r_2), (0, .ref a0), (1, .ref a1), (2, .ref a2), (3, .ref a3), (4, .ref a4), (5, .int x5)]) hx hb dL_law_478 hl (by decide) rfl (fun ls hl => ?_)
  refine lv_aload_n hx hb dL_law_480 rfl (lv_at hl 3 rfl) ?_
  refine lv_aload_n hx hb dL_law_481 rfl (lv_at hl 1 rfl) ?_
  refine lv_iload hx hb dL_law_482 (lv_at hl 6 rfl) ?_
  refine lv_iconst (v := 1) hx hb dL_law_484 (by decide) ?_
  refine lv_iadd hx hb dL_law_485 ?_
  obtain ⟨h_5, hp⟩ := hp
  refine w_ild F hK hW hL_a0 hK_a0 h_5 dL_law_486 ?_
  refine lv_if_eq (tgt := 494) hx hb dL_law_487 (by decide) (fun c_6 => ?_) (fun c_6 => ?_)
  · replace hp := hp.1 c_6
    refine lv_iconst (v := 0) hx hb dL_law_494 (by decide) ?_
    exact t_L_law_495 F hr hlocks hK hl0 hQ q_28 hbc hbs hp hW hE (lv_sub hl [1, 2, 3, 4, 5, 6, 0] rfl) hL_a0 hK_a0 hL_a1 hK_a1 hL_a2 hK_a2 hL_a3 hK_a3 hL_a4 hK_a4 hL_a2 hK_a2
  · replace hp := hp.2 c_6
    refine lv_iconst (v := 1) hx hb dL_law_490 (by decide) ?_
    refine lv_goto (tgt := 495) hx hb dL_law_491 (by decide) ?_
    exact t_L_law_495 F hr hlocks hK hl0 hQ q_28 hbc hbs hp hW hE (lv_sub hl [1, 2, 3, 4, 5, 6, 0] rfl) hL_a0 hK_a0 hL_a1 hK_a1 hL_a2 hK_a2 hL_a3 hK_a3 hL_a4 hK_a4 hL_a2 hK_a2
set_option maxHeartbeats 4000000 in
set_option maxRecDepth 100000 in
theorem t_L_law_450 {p : Program} {l : Launch} {e : Env} {s : State} {m : MethodId} {args : Array Value} {below : List Frame} {meth : Method} {c : Code} {D : wD} {cy : Nat → ClassId} {X : va_W} {A : Nat → Prop} {S0 : wS} {rC rS : Nat} {post : Int32 → wS → Prop} (F : CallFix p m c cL_law 9 s args wz_L_law RL) (hr : meth.sig.returnType = (some .boolean)) (hlocks : meth.locks = false) (hK : wK D cy A s) (hl0 : l.stackTraces = false) {Q : State → Prop} (hQ : ∀ {pc : Nat} {H : Heap} {locs : List Loc} {ls : Array Slot} {S : wS} {r : Int32}, post r S → decode cL_law pc = .ok (.ireturn, 1) → wO D cy X A s.heap S H locs → W p l e (r_L_law rC rS) s m args below meth c H locs rC rS Q (F0 m pc ls [.int r])) {k_28 : Nat → Nat → wS → Nat → Nat → Nat → Nat → Nat → Int32 → Prop} (q_28 : ∀ {bc bs cells slots : Nat} (hbc : cells + bc ≤ rC) (hbs : slots + bs ≤ rS) {S : wS} {H : Heap} {locs : List Loc} {ls : Array Slot} {a0 : Nat} {a1 : Nat} {a2 : Nat} {a3 : Nat} {a4 : Nat} {x5 : Int32}, k_28 bc bs S a0 a1 a2 a3 a4 x5 → wO D cy X A s.heap S H locs → wX D S0 S → lv_has ls 9 [(0, .ref a0), (1, .ref a1), (2, .ref a2), (3, .ref a3), (4, .ref a4), (5, .int x5)] → wM D S a0 → sK S a0 = 21 → wM D S a1 → sK S a1 = 16 → wM D S a2 → sK S a2 = 17 → wM D S a3 → sK S a3 = 22 → wM D S a4 → sK S a4 = 25 → W p l e (r_L_law rC rS) s m args below meth c H locs cells slots Q (F0 m 28 ls [])) : ∀ {bc bs cells slots : Nat} (hbc : cells + bc ≤ rC) (hbs : slots + bs ≤ rS) {S : wS} {H : Heap} {locs : List Loc} {ls : Array Slot} {a0 : Nat} {a1 : Nat} {a2 : Nat} {a3 : Nat} {a4 : Nat} {x5 : Int32}, wp_L_law_450 D post k_28 bc bs S a0 a1 a2 a3 a4 x5 → wO D cy X A s.heap S H locs → wX D S0 S → lv_has ls 9 [(0, .ref a0), (1, .ref a1), (2, .ref a2), (3, .ref a3), (4, .ref a4), (5, .int x5)] → wM D S a0 → sK S a0 = 21 → wM D S a1 → sK S a1 = 16 → wM D S a2 → sK S a2 = 17 → wM D S a3 → sK S a3 = 22 → wM D S a4 → sK S a4 = 25 → W p l e (r_L_law rC rS) s m args below meth c H locs cells slots Q (F0 m 450 ls []) := by
  obtain ⟨hx, hb, hml, hown, hts⟩ := id F
  have hwg : ∀ w ∈ WG, w.before args s = true := fun w h => hts w (List.mem_cons_of_mem _ h)
  intro bc bs cells slots hbc hbs S H locs ls a0 a1 a2 a3 a4 x5 hp hW hE hl hL_a0 hK_a0 hL_a1 hK_a1 hL_a2 hK_a2 hL_a3 hK_a3 hL_a4 hK_a4
  unfold wp_L_law_450 at hp
  refine lv_goto (tgt := 3394) hx hb dL_law_450 (by decide) ?_
  exact t_L_law_3394 F hr hlocks hK hl0 hQ q_28 hbc hbs hp hW hE (lv_sub hl [0, 1, 2, 3, 4, 5] rfl) hL_a0 hK_a0 hL_a1 hK_a1 hL_a2 hK_a2 hL_a3 hK_a3 hL_a4 hK_a4
set_option maxHeartbeats 4000000 in
set_option maxRecDepth 100000 in
theorem t_L_law_369 {p : Program} {l : Launch} {e : Env} {s : State} {m : MethodId} {args : Array Value} {below : List Frame} {meth : Method} {c : Code} {D : wD} {cy : Nat → ClassId} {X : va_W} {A : Nat → Prop} {S0 : wS} {rC rS : Nat} {post : Int32 → wS → Prop} (F : CallFix p m c cL_law 9 s args wz_L_law RL) (hr : meth.sig.returnType = (some .boolean)) (hlocks : meth.locks = false) (hK : wK D cy A s) (hl0 : l.stackTraces = false) {Q : State → Prop} (hQ : ∀ {pc : Nat} {H : Heap} {locs : List Loc} {ls : Array Slot} {S : wS} {r : Int32}, post r S → decode cL_law pc = .ok (.ireturn, 1) → wO D cy X A s.heap S H locs → W p l e (r_L_law rC rS) s m args below meth c H locs rC rS Q (F0 m pc ls [.int r])) {k_28 : Nat → Nat → wS → Nat → Nat → Nat → Nat → Nat → Int32 → Prop} (q_28 : ∀ {bc bs cells slots : Nat} (hbc : cells + bc ≤ rC) (hbs : slots + bs ≤ rS) {S : wS} {H : Heap} {locs : List Loc} {ls : Array Slot} {a0 : Nat} {a1 : Nat} {a2 : Nat} {a3 : Nat} {a4 : Nat} {x5 : Int32}, k_28 bc bs S a0 a1 a2 a3 a4 x5 → wO D cy X A s.heap S H locs → wX D S0 S → lv_has ls 9 [(0, .ref a0), (1, .ref a1), (2, .ref a2), (3, .ref a3), (4, .ref a4), (5, .int x5)] → wM D S a0 → sK S a0 = 21 → wM D S a1 → sK S a1 = 16 → wM D S a2 → sK S a2 = 17 → wM D S a3 → sK S a3 = 22 → wM D S a4 → sK S a4 = 25 → W p l e (r_L_law rC rS) s m args below meth c H locs cells slots Q (F0 m 28 ls [])) : ∀ {bc bs cells slots : Nat} (hbc : cells + bc ≤ rC) (hbs : slots + bs ≤ rS) {S : wS} {H : Heap} {locs : List Loc} {ls : Array Slot} {a0 : Nat} {a1 : Nat} {a2 : Nat} {a3 : Nat} {a4 : Nat} {x5 : Int32}, wp_L_law_369 D post k_28 bc bs S a0 a1 a2 a3 a4 x5 → wO D cy X A s.heap S H locs → wX D S0 S → lv_has ls 9 [(0, .ref a0), (1, .ref a1), (2, .ref a2), (3, .ref a3), (4, .ref a4), (5, .int x5)] → wM D S a0 → sK S a0 = 21 → wM D S a1 → sK S a1 = 16 → wM D S a2 → sK S a2 = 17 → wM D S a3 → sK S a3 = 22 → wM D S a4 → sK S a4 = 25 → W p l e (r_L_law rC rS) s m args below meth c H locs cells slots Q (F0 m 369 ls []) := by
  obtain ⟨hx, hb, hml, hown, hts⟩ := id F
  have hwg : ∀ w ∈ WG, w.before args s = true := fun w h => hts w (List.mem_cons_of_mem _ h)
  intro bc bs cells slots hbc hbs S H locs ls a0 a1 a2 a3 a4 x5 hp hW hE hl hL_a0 hK_a0 hL_a1 hK_a1 hL_a2 hK_a2 hL_a3 hK_a3 hL_a4 hK_a4
  unfold wp_L_law_369 at hp
  refine lv_goto (tgt := 3394) hx hb dL_law_369 (by decide) ?_
  exact t_L_law_3394 F hr hlocks hK hl0 hQ q_28 hbc hbs hp hW hE (lv_sub hl [0, 1, 2, 3, 4, 5] rfl) hL_a0 hK_a0 hL_a1 hK_a1 hL_a2 hK_a2 hL_a3 hK_a3 hL_a4 hK_a4
set_option maxHeartbeats 4000000 in
set_option maxRecDepth 100000 in
theorem t_L_law_28 {p : Program} {l : Launch} {e : Env} {s : State} {m : MethodId} {args : Array Value} {below : List Frame} {meth : Method} {c : Code} {D : wD} {cy : Nat → ClassId} {X : va_W} {A : Nat → Prop} {S0 : wS} {rC rS : Nat} {post : Int32 → wS → Prop} (F : CallFix p m c cL_law 9 s args wz_L_law RL) (hr : meth.sig.returnType = (some .boolean)) (hlocks : meth.locks = false) (hK : wK D cy A s) (hl0 : l.stackTraces = false) {Q : State → Prop} (hQ : ∀ {pc : Nat} {H : Heap} {locs : List Loc} {ls : Array Slot} {S : wS} {r : Int32}, post r S → decode cL_law pc = .ok (.ireturn, 1) → wO D cy X A s.heap S H locs → W p l e (r_L_law rC rS) s m args below meth c H locs rC rS Q (F0 m pc ls [.int r])) : ∀ (n : Nat) {bc bs cells slots : Nat} (hbc : cells + bc ≤ rC) (hbs : slots + bs ≤ rS) {S : wS} {H : Heap} {locs : List Loc} {ls : Array Slot} {a0 : Nat} {a1 : Nat} {a2 : Nat} {a3 : Nat} {a4 : Nat} {x5 : Int32}, wp_L_law_28 D post n bc bs S a0 a1 a2 a3 a4 x5 → wO D cy X A s.heap S H locs → wX D S0 S → lv_has ls 9 [(0, .ref a0), (1, .ref a1), (2, .ref a2), (3, .ref a3), (4, .ref a4), (5, .int x5)] → wM D S a0 → sK S a0 = 21 → wM D S a1 → sK S a1 = 16 → wM D S a2 → sK S a2 = 17 → wM D S a3 → sK S a3 = 22 → wM D S a4 → sK S a4 = 25 → W p l e (r_L_law rC rS) s m args below meth c H locs cells slots Q (F0 m 28 ls []) := by
  obtain ⟨hx, hb, hml, hown, hts⟩ := id F
  have hwg : ∀ w ∈ WG, w.before args s = true := fun w h => hts w (List.mem_cons_of_mem _ h)
  intro n
  induction n with
  | zero =>
    intro bc bs cells slots hbc hbs S H locs ls a0 a1 a2 a3 a4 x5 hp
    exact hp.elim
  | succ n ih =>
    intro bc bs cells slots hbc hbs S H locs ls a0 a1 a2 a3 a4 x5 hp hW hE hl hL_a0 hK_a0 hL_a1 hK_a1 hL_a2 hK_a2 hL_a3 hK_a3 hL_a4 hK_a4
    unfold wp_L_law_28 at hp
    refine lv_iload hx hb dL_law_28 (lv_at hl 5 rfl) ?_
    refine lv_aload_n hx hb dL_law_30 rfl (lv_at hl 0 rfl) ?_
    refine w_len F hK hW hL_a0 hK_a0 (by decide) dL_law_31 ?_
    refine lv_iconst (v := 5) hx hb dL_law_32 (by decide) ?_
    refine lv_isub hx hb dL_law_33 ?_
    refine lv_icmp_gt (tgt := 3400) hx hb dL_law_34 (by decide) (fun c_1 => ?_) (fun c_1 => ?_)
    · replace hp := hp.1 c_1
      refine lv_iconst (v := 1) hx hb dL_law_3400 (by decide) ?_
      refine W.widen (k := rC) (n := rS) (Nat.le_trans (Nat.le_add_right _ _) hbc) (Nat.le_trans (Nat.le_add_right _ _) hbs) ?_
      exact hQ hp dL_law_3401 hW
    · replace hp := hp.2 c_1
      refine lv_aload_n hx hb dL_law_37 rfl (lv_at hl 0 rfl) ?_
      refine lv_iload hx hb dL_law_38 (lv_at hl 5 rfl) ?_
      obtain ⟨h_2, hp⟩ := hp
      refine w_ild F hK hW hL_a0 hK_a0 h_2 dL_law_40 ?_
      refine lv_bipush (v := 63) hx hb dL_law_41 (by decide) ?_
      refine lv_iand hx hb dL_law_43 ?_
      refine lv_topi (fun x_3 ex_3 => ?_)
      replace hp := hp x_3 ex_3
      by_cases c_4 : x_3 = 0
      · refine lv_tableIn (tgt := 304) (x := x_3) (off := 260) hx hb dL_law_44 (by rw [c_4]; decide) (by rw [c_4]; decide) (by rw [c_4]; decide) (by decide) ?_
        replace hp := hp.1 c_4
        refine lv_aload_n hx hb dL_law_304 rfl (lv_at hl 1 rfl) ?_
        refine lv_aload_n hx hb dL_law_305 rfl (lv_at hl 0 rfl) ?_
        refine lv_iload hx hb dL_law_306 (lv_at hl 5 rfl) ?_
        refine lv_iconst (v := 1) hx hb dL_law_308 (by decide) ?_
        refine lv_iadd hx hb dL_law_309 ?_
        obtain ⟨h_5, hp⟩ := hp
        refine w_ild F hK hW hL_a0 hK_a0 h_5 dL_law_310 ?_
        refine lv_aload_n hx hb dL_law_311 rfl (lv_at hl 0 rfl) ?_
        refine lv_iload hx hb dL_law_312 (lv_at hl 5 rfl) ?_
        refine lv_iconst (v := 2) hx hb dL_law_314 (by decide) ?_
        refine lv_iadd hx hb dL_law_315 ?_
        obtain ⟨h_6, hp⟩ := hp
        refine w_ild F hK hW hL_a0 hK_a0 h_6 dL_law_316 ?_
        refine lv_aload_n hx hb dL_law_317 rfl (lv_at hl 3 rfl) ?_
        obtain ⟨h_9, h_9z, hp⟩ := hp
        refine x_callI (vx_runSX (As := [.ref a1, .int (sI S a0 ((x5 + (1 : Int32))).toNatClampNeg), .int (sI S a0 ((x5 + (2 : Int32))).toNatClampNeg), .ref a3]) (rest := []) F (c_L_newBoard l hl0 hL_a1 hK_a1 hL_a3 hK_a3 hp H.size) (vx_cwSW 4 hts (wg_S wm_RL_175 wy_L_newBoard) rfl rfl rfl ⟨by decide, by decide, by decide +kernel⟩ ⟨Nat.le_of_ble_eq_true rfl, Nat.le_of_ble_eq_true rfl⟩) (w_preS hK hW) rfl rfl hl.1 rfl (lv_room (Nat.le_of_ble_eq_true rfl)) dL_law_318 ⟨by show _ + 1 ≤ rC; omega, by show _ + 6 ≤ rS; omega⟩) hW (fun E ce q9 S9 H locs hp hW h1 h2 h3 => hp.elim) (fun r_7 S_8 H locs hp hW => ?_)
        obtain ⟨hX_S_8, hp⟩ := hp
        refine W.widen (k := _ + 1) (n := _ + 6) (Nat.le_refl _) (Nat.le_refl _) ?_
        replace hbc := w_spend hbc (show 1 ≤ bc by omega)
        replace hbs := w_spend hbs (show 6 ≤ bs by omega)
        have hE := hE.trans hX_S_8
        have hK_a0 : sK S_8 a0 = 21 := (hX_S_8.2 a0 hL_a0).1.trans hK_a0
        have hL_a0 : wM D S_8 a0 := hX_S_8.M hL_a0
        have hK_a1 : sK S_8 a1 = 16 := (hX_S_8.2 a1 hL_a1).1.trans hK_a1
        have hL_a1 : wM D S_8 a1 := hX_S_8.M hL_a1
        have hK_a2 : sK S_8 a2 = 17 := (hX_S_8.2 a2 hL_a2).1.trans hK_a2
        have hL_a2 : wM D S_8 a2 := hX_S_8.M hL_a2
        have hK_a3 : sK S_8 a3 = 22 := (hX_S_8.2 a3 hL_a3).1.trans hK_a3
        have hL_a3 : wM D S_8 a3 := hX_S_8.M hL_a3
        have hK_a4 : sK S_8 a4 = 25 := (hX_S_8.2 a4 hL_a4).1.trans hK_a4
        have hL_a4 : wM D S_8 a4 := hX_S_8.M hL_a4
        refine lv_istore (lv' := [(6, .int r_7), (0, .ref a0), (1, .ref a1), (2, .ref a2), (3, .ref a3), (4, .ref a4), (5, .int x5)]) hx hb dL_law_321 hl (by decide) rfl (fun ls hl => ?_)
        refine lv_aload_n hx hb dL_law_323 rfl (lv_at hl 3 rfl) ?_
        refine lv_aload_n hx hb dL_law_324 rfl (lv_at hl 1 rfl) ?_
        refine lv_iload hx hb dL_law_325 (lv_at hl 6 rfl) ?_
        refine lv_iconst (v := 1) hx hb dL_law_327 (by decide) ?_
        refine lv_iadd hx hb dL_law_328 ?_
        obtain ⟨h_10, hp⟩ := hp
        refine w_ild F hK hW hL_a0 hK_a0 h_10 dL_law_329 ?_
        refine lv_aload_n hx hb dL_law_330 rfl (lv_at hl 1 rfl) ?_
        refine lv_iload hx hb dL_law_331 (lv_at hl 6 rfl) ?_
        refine lv_iconst (v := 2) hx hb dL_law_333 (by decide) ?_
        refine lv_iadd hx hb dL_law_334 ?_
        obtain ⟨h_11, hp⟩ := hp
        refine w_ild F hK hW hL_a0 hK_a0 h_11 dL_law_335 ?_
        refine w_callI (va_runV (As := [.int (sI S_8 a0 ((x5 + (1 : Int32))).toNatClampNeg), .int (sI S_8 a0 ((x5 + (2 : Int32))).toNatClampNeg)]) (rest := []) F (c_X12_newBoard l hL_a2 hK_a2 hp H.size) (cwV (C := RX12) 2 hts (wg_V wm_RL_180 wy_X12_newBoard) rfl rfl rfl (by decide +kernel) ⟨Nat.le_of_ble_eq_true rfl, Nat.le_of_ble_eq_true rfl⟩) (w_preV hK hW hL_a2 hK_a2 (by decide) rfl) rfl rfl hl.1 rfl (lv_room (Nat.le_of_ble_eq_true rfl)) dL_law_336 ⟨by show _ ≤ rC; exact Nat.le_trans (Nat.le_add_right _ _) hbc, by show _ ≤ rS; exact Nat.le_trans (Nat.le_add_right _ _) hbs⟩) hW (fun r_12 S_13 H locs hp hW => ?_)
        obtain ⟨hX_S_13, hp⟩ := hp
        refine w_same ?_
        have hE := hE.trans hX_S_13
        have hK_a0 : sK S_13 a0 = 21 := (hX_S_13.2 a0 hL_a0).1.trans hK_a0
        have hL_a0 : wM D S_13 a0 := hX_S_13.M hL_a0
        have hK_a1 : sK S_13 a1 = 16 := (hX_S_13.2 a1 hL_a1).1.trans hK_a1
        have hL_a1 : wM D S_13 a1 := hX_S_13.M hL_a1
        have hK_a2 : sK S_13 a2 = 17 := (hX_S_13.2 a2 hL_a2).1.trans hK_a2
        have hL_a2 : wM D S_13 a2 := hX_S_13.M hL_a2
        have hK_a3 : sK S_13 a3 = 22 := (hX_S_13.2 a3 hL_a3).1.trans hK_a3
        have hL_a3 : wM D S_13 a3 := hX_S_13.M hL_a3
        have hK_a4 : sK S_13 a4 = 25 := (hX_S_13.2 a4 hL_a4).1.trans hK_a4
        have hL_a4 : wM D S_13 a4 := hX_S_13.M hL_a4
        refine lv_istore (lv' := [(7, .int r_12), (6, .int r_7), (0, .ref a0), (1, .ref a1), (2, .ref a2), (3, .ref a3), (4, .ref a4), (5, .int x5)]) hx hb dL_law_339 hl (by decide) rfl (fun ls hl => ?_)
        refine lv_aload_n hx hb dL_law_341 rfl (lv_at hl 4 rfl) ?_
        refine w_callI (va_runV (As := []) (rest := []) F (c_X12_thrown l hL_a2 hK_a2 hp H.size) (cwV (C := RX12) 0 hts (wg_V wm_RL_181 wy_X12_thrown) rfl rfl rfl (by decide +kernel) ⟨Nat.le_of_ble_eq_true rfl, Nat.le_of_ble_eq_true rfl⟩) (w_preV hK hW hL_a2 hK_a2 (by decide) rfl) rfl rfl hl.1 rfl (lv_room (Nat.le_of_ble_eq_true rfl)) dL_law_342 ⟨by show _ ≤ rC; exact Nat.le_trans (Nat.le_add_right _ _) hbc, by show _ ≤ rS; exact Nat.le_trans (Nat.le_add_right _ _) hbs⟩) hW (fun r_14 S_15 H locs hp hW => ?_)
        obtain ⟨hX_S_15, hp⟩ := hp
        refine w_same ?_
        have hE := hE.trans hX_S_15
        have hK_a0 : sK S_15 a0 = 21 := (hX_S_15.2 a0 hL_a0).1.trans hK_a0
        have hL_a0 : wM D S_15 a0 := hX_S_15.M hL_a0
        have hK_a1 : sK S_15 a1 = 16 := (hX_S_15.2 a1 hL_a1).1.trans hK_a1
        have hL_a1 : wM D S_15 a1 := hX_S_15.M hL_a1
        have hK_a2 : sK S_15 a2 = 17 := (hX_S_15.2 a2 hL_a2).1.trans hK_a2
        have hL_a2 : wM D S_15 a2 := hX_S_15.M hL_a2
        have hK_a3 : sK S_15 a3 = 22 := (hX_S_15.2 a3 hL_a3).1.trans hK_a3
        have hL_a3 : wM D S_15 a3 := hX_S_15.M hL_a3
        have hK_a4 : sK S_15 a4 = 25 := (hX_S_15.2 a4 hL_a4).1.trans hK_a4
        have hL_a4 : wM D S_15 a4 := hX_S_15.M hL_a4
        refine lv_iload hx hb dL_law_345 (lv_at hl 1 rfl) ?_
        refine lv_icmp_eq (tgt := 352) hx hb dL_law_347 (by decide) (fun c_16 => ?_) (fun c_16 => ?_)
        · replace hp := hp.1 c_16
          refine lv_iload hx hb dL_law_352 (lv_at hl 1 rfl) ?_
          refine lv_if_ne (tgt := 369) hx hb dL_law_354 (by decide) (fun c_17 => ?_) (fun c_17 => ?_)
          · replace hp := hp.1 c_17
            exact t_L_law_369 F hr hlocks hK hl0 hQ ih hbc hbs hp hW hE (lv_sub hl [2, 3, 4, 5, 6, 7] rfl) hL_a0 hK_a0 hL_a1 hK_a1 hL_a2 hK_a2 hL_a3 hK_a3 hL_a4 hK_a4
          · replace hp := hp.2 c_17
            refine lv_aload_n hx hb dL_law_357 rfl (lv_at hl 5 rfl) ?_
            refine lv_iconst (v := 0) hx hb dL_law_358 (by decide) ?_
            obtain ⟨h_18, hp⟩ := hp
            refine w_lld F hK hW hL_a3 hK_a3 h_18 dL_law_359 ?_
            refine lv_iload hx hb dL_law_360 (lv_at hl 0 rfl) ?_
            refine lv_i2l (v := (Int32.toInt64 r_12)) hx hb dL_law_362 rfl ?_
            refine W.lcmp hx hb dL_law_363 ?_
            refine lv_if_eq (tgt := 369) hx hb dL_law_364 (by decide) (fun c_19 => ?_) (fun c_19 => ?_)
            · replace hp := hp.1 c_19
              exact t_L_law_369 F hr hlocks hK hl0 hQ ih hbc hbs hp hW hE (lv_sub hl [2, 3, 4, 5, 6, 7] rfl) hL_a0 hK_a0 hL_a1 hK_a1 hL_a2 hK_a2 hL_a3 hK_a3 hL_a4 hK_a4
            · replace hp := hp.2 c_19
              refine lv_iconst (v := 0) hx hb dL_law_367 (by decide) ?_
              refine W.widen (k := rC) (n := rS) (Nat.le_trans (Nat.le_add_right _ _) hbc) (Nat.le_trans (Nat.le_add_right _ _) hbs) ?_
              exact hQ hp dL_law_368 hW
        · replace hp := hp.2 c_16
          refine lv_iconst (v := 0) hx hb dL_law_350 (by decide) ?_
          refine W.widen (k := rC) (n := rS) (Nat.le_trans (Nat.le_add_right _ _) hbc) (Nat.le_trans (Nat.le_add_right _ _) hbs) ?_
          exact hQ hp dL_law_351 hW
      replace hp := hp.2
      by_cases c_20 : x_3 = 1
      · refine lv_tableIn (tgt := 372) (x := x_3) (off := 328) hx hb dL_law_44 (by rw [c_20]; decide) (by rw [c_20]; decide) (by rw [c_20]; decide) (by decide) ?_
        replace hp := hp.1 c_20
        refine lv_aload_n hx hb dL_law_372 rfl (lv_at hl 1 rfl) ?_
        refine w_callI (va_runV (As := []) (rest := []) F (c_X11_startHere l hL_a1 hK_a1 hp H.size) (cwV (C := RX11) 0 hts (wg_V wm_RL_184 wy_X11_startHere) rfl rfl rfl (by decide +kernel) ⟨Nat.le_of_ble_eq_true rfl, Nat.le_of_ble_eq_true rfl⟩) (w_preV hK hW hL_a1 hK_a1 (by decide) rfl) rfl rfl hl.1 rfl (lv_room (Nat.le_of_ble_eq_true rfl)) dL_law_373 ⟨by show _ ≤ rC; exact Nat.le_trans (Nat.le_add_right _ _) hbc, by show _ ≤ rS; exact Nat.le_trans (Nat.le_add_right _ _) hbs⟩) hW (fun r_21 S_22 H locs hp hW => ?_)
        obtain ⟨hX_S_22, hp⟩ := hp
        refine w_same ?_
        have hE := hE.trans hX_S_22
        have hK_a0 : sK S_22 a0 = 21 := (hX_S_22.2 a0 hL_a0).1.trans hK_a0
        have hL_a0 : wM D S_22 a0 := hX_S_22.M hL_a0
        have hK_a1 : sK S_22 a1 = 16 := (hX_S_22.2 a1 hL_a1).1.trans hK_a1
        have hL_a1 : wM D S_22 a1 := hX_S_22.M hL_a1
        have hK_a2 : sK S_22 a2 = 17 := (hX_S_22.2 a2 hL_a2).1.trans hK_a2
        have hL_a2 : wM D S_22 a2 := hX_S_22.M hL_a2
        have hK_a3 : sK S_22 a3 = 22 := (hX_S_22.2 a3 hL_a3).1.trans hK_a3
        have hL_a3 : wM D S_22 a3 := hX_S_22.M hL_a3
        have hK_a4 : sK S_22 a4 = 25 := (hX_S_22.2 a4 hL_a4).1.trans hK_a4
        have hL_a4 : wM D S_22 a4 := hX_S_22.M hL_a4
        refine lv_aload_n hx hb dL_law_376 rfl (lv_at hl 2 rfl) ?_
        refine w_callI (va_runV (As := []) (rest := [.int r_21]) F (c_X12_startHere l hL_a2 hK_a2 hp H.size) (cwV (C := RX12) 0 hts (wg_V wm_RL_187 wy_X12_startHere) rfl rfl rfl (by decide +kernel) ⟨Nat.le_of_ble_eq_true rfl, Nat.le_of_ble_eq_true rfl⟩) (w_preV hK hW hL_a2 hK_a2 (by decide) rfl) rfl rfl hl.1 rfl (lv_room (Nat.le_of_ble_eq_true rfl)) dL_law_377 ⟨by show _ ≤ rC; exact Nat.le_trans (Nat.le_add_right _ _) hbc, by show _ ≤ rS; exact Nat.le_trans (Nat.le_add_right _ _) hbs⟩) hW (fun r_23 S_24 H locs hp hW => ?_)
        obtain ⟨hX_S_24, hp⟩ := hp
        refine w_same ?_
        have hE := hE.trans hX_S_24
        have hK_a0 : sK S_24 a0 = 21 := (hX_S_24.2 a0 hL_a0).1.trans hK_a0
        have hL_a0 : wM D S_24 a0 := hX_S_24.M hL_a0
        have hK_a1 : sK S_24 a1 = 16 := (hX_S_24.2 a1 hL_a1).1.trans hK_a1
        have hL_a1 : wM D S_24 a1 := hX_S_24.M hL_a1
        have hK_a2 : sK S_24 a2 = 17 := (hX_S_24.2 a2 hL_a2).1.trans hK_a2
        have hL_a2 : wM D S_24 a2 := hX_S_24.M hL_a2
        have hK_a3 : sK S_24 a3 = 22 := (hX_S_24.2 a3 hL_a3).1.trans hK_a3
        have hL_a3 : wM D S_24 a3 := hX_S_24.M hL_a3
        have hK_a4 : sK S_24 a4 = 25 := (hX_S_24.2 a4 hL_a4).1.trans hK_a4
        have hL_a4 : wM D S_24 a4 := hX_S_24.M hL_a4
        refine lv_icmp_eq (tgt := 3394) hx hb dL_law_380 (by decide) (fun c_25 => ?_) (fun c_25 => ?_)
        · replace hp := hp.1 c_25
          exact t_L_law_3394 F hr hlocks hK hl0 hQ ih hbc hbs hp hW hE (lv_sub hl [0, 1, 2, 3, 4, 5] rfl) hL_a0 hK_a0 hL_a1 hK_a1 hL_a2 hK_a2 hL_a3 hK_a3 hL_a4 hK_a4
        · replace hp := hp.2 c_25
          refine lv_iconst (v := 0) hx hb dL_law_383 (by decide) ?_
          refine W.widen (k := rC) (n := rS) (Nat.le_trans (Nat.le_add_right _ _) hbc) (Nat.le_trans (Nat.le_add_right _ _) hbs) ?_
          exact hQ hp dL_law_384 hW
      replace hp := hp.2
      by_cases c_26 : x_3 = 2
      · refine lv_tableIn (tgt := 385) (x := x_3) (off := 341) hx hb dL_law_44 (by rw [c_26]; decide) (by rw [c_26]; decide) (by rw [c_26]; decide) (by decide) ?_
        replace hp := hp.1 c_26
        refine lv_aload_n hx hb dL_law_385 rfl (lv_at hl 1 rfl) ?_
        refine lv_aload_n hx hb dL_law_386 rfl (lv_at hl 0 rfl) ?_
        refine lv_iload hx hb dL_law_387 (lv_at hl 5 rfl) ?_
        refine lv_iconst (v := 1) hx hb dL_law_389 (by decide) ?_
        refine lv_iadd hx hb dL_law_390 ?_
        obtain ⟨h_27, hp⟩ := hp
        refine w_ild F hK hW hL_a0 hK_a0 h_27 dL_law_391 ?_
        refine lv_aload_n hx hb dL_law_392 rfl (lv_at hl 0 rfl) ?_
        refine lv_iload hx hb dL_law_393 (lv_at hl 5 rfl) ?_
        refine lv_iconst (v := 2) hx hb dL_law_395 (by decide) ?_
        refine lv_iadd hx hb dL_law_396 ?_
        obtain ⟨h_28, hp⟩ := hp
        refine w_ild F hK hW hL_a0 hK_a0 h_28 dL_law_397 ?_
        refine lv_aload_n hx hb dL_law_398 rfl (lv_at hl 3 rfl) ?_
        obtain ⟨h_31, h_31z, hp⟩ := hp
        refine x_callI (vx_runSX (As := [.ref a1, .int (sI S a0 ((x5 + (1 : Int32))).toNatClampNeg), .int (sI S a0 ((x5 + (2 : Int32))).toNatClampNeg), .ref a3]) (rest := []) F (c_L_put l hl0 hL_a1 hK_a1 hL_a3 hK_a3 hp H.size) (vx_cwSW 4 hts (wg_S wm_RL_188 wy_L_put) rfl rfl rfl ⟨by decide, by decide, by decide +kernel⟩ ⟨Nat.le_of_ble_eq_true rfl, Nat.le_of_ble_eq_true rfl⟩) (w_preS hK hW) rfl rfl hl.1 rfl (lv_room (Nat.le_of_ble_eq_true rfl)) dL_law_399 ⟨by show _ + 2 ≤ rC; omega, by show _ + 12 ≤ rS; omega⟩) hW (fun E ce q9 S9 H locs hp hW h1 h2 h3 => hp.elim) (fun r_29 S_30 H locs hp hW => ?_)
        obtain ⟨hX_S_30, hp⟩ := hp
        refine W.widen (k := _ + 2) (n := _ + 12) (Nat.le_refl _) (Nat.le_refl _) ?_
        replace hbc := w_spend hbc (show 2 ≤ bc by omega)
        replace hbs := w_spend hbs (show 12 ≤ bs by omega)
        have hE := hE.trans hX_S_30
        have hK_a0 : sK S_30 a0 = 21 := (hX_S_30.2 a0 hL_a0).1.trans hK_a0
        have hL_a0 : wM D S_30 a0 := hX_S_30.M hL_a0
        have hK_a1 : sK S_30 a1 = 16 := (hX_S_30.2 a1 hL_a1).1.trans hK_a1
        have hL_a1 : wM D S_30 a1 := hX_S_30.M hL_a1
        have hK_a2 : sK S_30 a2 = 17 := (hX_S_30.2 a2 hL_a2).1.trans hK_a2
        have hL_a2 : wM D S_30 a2 := hX_S_30.M hL_a2
        have hK_a3 : sK S_30 a3 = 22 := (hX_S_30.2 a3 hL_a3).1.trans hK_a3
        have hL_a3 : wM D S_30 a3 := hX_S_30.M hL_a3
        have hK_a4 : sK S_30 a4 = 25 := (hX_S_30.2 a4 hL_a4).1.trans hK_a4
        have hL_a4 : wM D S_30 a4 := hX_S_30.M hL_a4
        refine lv_istore (lv' := [(6, .int r_29), (0, .ref a0), (1, .ref a1), (2, .ref a2), (3, .ref a3), (4, .ref a4), (5, .int x5)]) hx hb dL_law_402 hl (by decide) rfl (fun ls hl => ?_)
        refine lv_aload_n hx hb dL_law_404 rfl (lv_at hl 3 rfl) ?_
        refine lv_aload_n hx hb dL_law_405 rfl (lv_at hl 1 rfl) ?_
        refine lv_iload hx hb dL_law_406 (lv_at hl 6 rfl) ?_
        refine lv_iconst (v := 1) hx hb dL_law_408 (by decide) ?_
        refine lv_iadd hx hb dL_law_409 ?_
        obtain ⟨h_32, hp⟩ := hp
        refine w_ild F hK hW hL_a0 hK_a0 h_32 dL_law_410 ?_
        refine lv_aload_n hx hb dL_law_411 rfl (lv_at hl 1 rfl) ?_
        refine lv_iload hx hb dL_law_412 (lv_at hl 6 rfl) ?_
        refine lv_iconst (v := 2) hx hb dL_law_414 (by decide) ?_
        refine lv_iadd hx hb dL_law_415 ?_
        obtain ⟨h_33, hp⟩ := hp
        refine w_ild F hK hW hL_a0 hK_a0 h_33 dL_law_416 ?_
        refine w_callI (va_runV (As := [.int (sI S_30 a0 ((x5 + (1 : Int32))).toNatClampNeg), .int (sI S_30 a0 ((x5 + (2 : Int32))).toNatClampNeg)]) (rest := []) F (c_X12_put l hL_a2 hK_a2 hp H.size) (cwV (C := RX12) 2 hts (wg_V wm_RL_190 wy_X12_put) rfl rfl rfl (by decide +kernel) ⟨Nat.le_of_ble_eq_true rfl, Nat.le_of_ble_eq_true rfl⟩) (w_preV hK hW hL_a2 hK_a2 (by decide) rfl) rfl rfl hl.1 rfl (lv_room (Nat.le_of_ble_eq_true rfl)) dL_law_417 ⟨by show _ ≤ rC; exact Nat.le_trans (Nat.le_add_right _ _) hbc, by show _ ≤ rS; exact Nat.le_trans (Nat.le_add_right _ _) hbs⟩) hW (fun r_34 S_35 H locs hp hW => ?_)
        obtain ⟨hX_S_35, hp⟩ := hp
        refine w_same ?_
        have hE := hE.trans hX_S_35
        have hK_a0 : sK S_35 a0 = 21 := (hX_S_35.2 a0 hL_a0).1.trans hK_a0
        have hL_a0 : wM D S_35 a0 := hX_S_35.M hL_a0
        have hK_a1 : sK S_35 a1 = 16 := (hX_S_35.2 a1 hL_a1).1.trans hK_a1
        have hL_a1 : wM D S_35 a1 := hX_S_35.M hL_a1
        have hK_a2 : sK S_35 a2 = 17 := (hX_S_35.2 a2 hL_a2).1.trans hK_a2
        have hL_a2 : wM D S_35 a2 := hX_S_35.M hL_a2
        have hK_a3 : sK S_35 a3 = 22 := (hX_S_35.2 a3 hL_a3).1.trans hK_a3
        have hL_a3 : wM D S_35 a3 := hX_S_35.M hL_a3
        have hK_a4 : sK S_35 a4 = 25 := (hX_S_35.2 a4 hL_a4).1.trans hK_a4
        have hL_a4 : wM D S_35 a4 := hX_S_35.M hL_a4
        refine lv_istore (lv' := [(7, .int r_34), (6, .int r_29), (0, .ref a0), (1, .ref a1), (2, .ref a2), (3, .ref a3), (4, .ref a4), (5, .int x5)]) hx hb dL_law_420 hl (by decide) rfl (fun ls hl => ?_)
        refine lv_aload_n hx hb dL_law_422 rfl (lv_at hl 4 rfl) ?_
        refine w_callI (va_runV (As := []) (rest := []) F (c_X12_thrown l hL_a2 hK_a2 hp H.size) (cwV (C := RX12) 0 hts (wg_V wm_RL_181 wy_X12_thrown) rfl rfl rfl (by decide +kernel) ⟨Nat.le_of_ble_eq_true rfl, Nat.le_of_ble_eq_true rfl⟩) (w_preV hK hW hL_a2 hK_a2 (by decide) rfl) rfl rfl hl.1 rfl (lv_room (Nat.le_of_ble_eq_true rfl)) dL_law_423 ⟨by show _ ≤ rC; exact Nat.le_trans (Nat.le_add_right _ _) hbc, by show _ ≤ rS; exact Nat.le_trans (Nat.le_add_right _ _) hbs⟩) hW (fun r_36 S_37 H locs hp hW => ?_)
        obtain ⟨hX_S_37, hp⟩ := hp
        refine w_same ?_
        have hE := hE.trans hX_S_37
        have hK_a0 : sK S_37 a0 = 21 := (hX_S_37.2 a0 hL_a0).1.trans hK_a0
        have hL_a0 : wM D S_37 a0 := hX_S_37.M hL_a0
        have hK_a1 : sK S_37 a1 = 16 := (hX_S_37.2 a1 hL_a1).1.trans hK_a1
        have hL_a1 : wM D S_37 a1 := hX_S_37.M hL_a1
        have hK_a2 : sK S_37 a2 = 17 := (hX_S_37.2 a2 hL_a2).1.trans hK_a2
        have hL_a2 : wM D S_37 a2 := hX_S_37.M hL_a2
        have hK_a3 : sK S_37 a3 = 22 := (hX_S_37.2 a3 hL_a3).1.trans hK_a3
        have hL_a3 : wM D S_37 a3 := hX_S_37.M hL_a3
        have hK_a4 : sK S_37 a4 = 25 := (hX_S_37.2 a4 hL_a4).1.trans hK_a4
        have hL_a4 : wM D S_37 a4 := hX_S_37.M hL_a4
        refine lv_iload hx hb dL_law_426 (lv_at hl 1 rfl) ?_
        refine lv_icmp_eq (tgt := 433) hx hb dL_law_428 (by decide) (fun c_38 => ?_) (fun c_38 => ?_)
        · replace hp := hp.1 c_38
          refine lv_iload hx hb dL_law_433 (lv_at hl 1 rfl) ?_
          refine lv_if_ne (tgt := 450) hx hb dL_law_435 (by decide) (fun c_39 => ?_) (fun c_39 => ?_)
          · replace hp := hp.1 c_39
            exact t_L_law_450 F hr hlocks hK hl0 hQ ih hbc hbs hp hW hE (lv_sub hl [2, 3, 4, 5, 6, 7] rfl) hL_a0 hK_a0 hL_a1 hK_a1 hL_a2 hK_a2 hL_a3 hK_a3 hL_a4 hK_a4
          · replace hp := hp.2 c_39
            refine lv_aload_n hx hb dL_law_438 rfl (lv_at hl 5 rfl) ?_
            refine lv_iconst (v := 0) hx hb dL_law_439 (by decide) ?_
            obtain ⟨h_40, hp⟩ := hp
            refine w_lld F hK hW hL_a3 hK_a3 h_40 dL_law_440 ?_
            refine lv_iload hx hb dL_law_441 (lv_at hl 0 rfl) ?_
            refine lv_i2l (v := (Int32.toInt64 r_34)) hx hb dL_law_443 rfl ?_
            refine W.lcmp hx hb dL_law_444 ?_
            refine lv_if_eq (tgt := 450) hx hb dL_law_445 (by decide) (fun c_41 => ?_) (fun c_41 => ?_)
            · replace hp := hp.1 c_41
              exact t_L_law_450 F hr hlocks hK hl0 hQ ih hbc hbs hp hW hE (lv_sub hl [2, 3, 4, 5, 6, 7] rfl) hL_a0 hK_a0 hL_a1 hK_a1 hL_a2 hK_a2 hL_a3 hK_a3 hL_a4 hK_a4
            · replace hp := hp.2 c_41
              refine lv_iconst (v := 0) hx hb dL_law_448 (by decide) ?_
              refine W.widen (k := rC) (n := rS) (Nat.le_trans (Nat.le_add_right _ _) hbc) (Nat.le_trans (Nat.le_add_right _ _) hbs) ?_
              exact hQ hp dL_law_449 hW
        · replace hp := hp.2 c_38
          refine lv_iconst (v := 0) hx hb dL_law_431 (by decide) ?_
          refine W.widen (k := rC) (n := rS) (Nat.le_trans (Nat.le_add_right _ _) hbc) (Nat.le_trans (Nat.le_add_right _ _) hbs) ?_
          exact hQ hp dL_law_432 hW
      replace hp := hp.2
      by_cases c_42 : x_3 = 3
      · refine lv_tableIn (tgt := 453) (x := x_3) (off := 409) hx hb dL_law_44 (by rw [c_42]; decide) (by rw [c_42]; decide) (by rw [c_42]; decide) (by decide) ?_
        replace hp := hp.1 c_42
        refine lv_aload_n hx hb dL_law_453 rfl (lv_at hl 1 rfl) ?_
        refine lv_aload_n hx hb dL_law_454 rfl (lv_at hl 0 rfl) ?_
        refine lv_iload hx hb dL_law_455 (lv_at hl 5 rfl) ?_
        refine lv_iconst (v := 1) hx hb dL_law_457 (by decide) ?_
        refine lv_iadd hx hb dL_law_458 ?_
        obtain ⟨h_43, hp⟩ := hp
        refine w_ild F hK hW hL_a0 hK_a0 h_43 dL_law_459 ?_
        refine lv_if_eq (tgt := 467) hx hb dL_law_460 (by decide) (fun c_44 => ?_) (fun c_44 => ?_)
        · replace hp := hp.1 c_44
          refine lv_iconst (v := 0) hx hb dL_law_467 (by decide) ?_
          exact t_L_law_468 F hr hlocks hK hl0 hQ ih hbc hbs hp hW hE (lv_sub hl [0, 1, 2, 3, 4, 5] rfl) hL_a0 hK_a0 hL_a1 hK_a1 hL_a2 hK_a2 hL_a3 hK_a3 hL_a4 hK_a4 hL_a1 hK_a1
        · replace hp := hp.2 c_44
          refine lv_iconst (v := 1) hx hb dL_law_463 (by decide) ?_
          refine lv_goto (tgt := 468) hx hb dL_law_464 (by decide) ?_
          exact t_L_law_468 F hr hlocks hK hl0 hQ ih hbc hbs hp hW hE (lv_sub hl [0, 1, 2, 3, 4, 5] rfl) hL_a0 hK_a0 hL_a1 hK_a1 hL_a2 hK_a2 hL_a3 hK_a3 hL_a4 hK_a4 hL_a1 hK_a1
      replace hp := hp.2
      by_cases c_45 : x_3 = 4
      · refine lv_tableIn (tgt := 537) (x := x_3) (off := 493) hx hb dL_law_44 (by rw [c_45]; decide) (by rw [c_45]; decide) (by rw [c_45]; decide) (by decide) ?_
        replace hp := hp.1 c_45
        refine lv_aload_n hx hb dL_law_537 rfl (lv_at hl 1 rfl) ?_
        refine lv_aload_n hx hb dL_law_538 rfl (lv_at hl 3 rfl) ?_
        obtain ⟨m_48, z_49, hm_48, hz_49, hp⟩ := hp
        refine x_callI (vx_runSX (As := [.ref a1, .ref a3]) (rest := []) F (c_L_readPaper l hl0 hL_a1 hK_a1 hL_a3 hK_a3 hp H.size) (vx_cwSW 2 hts (wg_S wm_RL_195 wy_L_readPaper) rfl rfl rfl ⟨by decide, by decide, by decide +kernel⟩ ⟨Nat.le_of_ble_eq_true rfl, Nat.le_of_ble_eq_true rfl⟩) (w_preS hK hW) rfl rfl hl.1 rfl (lv_room (Nat.le_of_ble_eq_true rfl)) dL_law_539 ⟨by show _ + m_48 ≤ rC; omega, by show _ + z_49 ≤ rS; omega⟩) hW (fun E ce q9 S9 H locs hp hW h1 h2 h3 => hp.elim) (fun r_46 S_47 H locs hp hW => ?_)
        obtain ⟨hX_S_47, hp⟩ := hp
        refine W.widen (k := _ + m_48) (n := _ + z_49) (Nat.le_refl _) (Nat.le_refl _) ?_
        replace hbc := w_spend hbc (show m_48 ≤ bc by omega)
        replace hbs := w_spend hbs (show z_49 ≤ bs by omega)
        have hE := hE.trans hX_S_47
        have hK_a0 : sK S_47 a0 = 21 := (hX_S_47.2 a0 hL_a0).1.trans hK_a0
        have hL_a0 : wM D S_47 a0 := hX_S_47.M hL_a0
        have hK_a1 : sK S_47 a1 = 16 := (hX_S_47.2 a1 hL_a1).1.trans hK_a1
        have hL_a1 : wM D S_47 a1 := hX_S_47.M hL_a1
        have hK_a2 : sK S_47 a2 = 17 := (hX_S_47.2 a2 hL_a2).1.trans hK_a2
        have hL_a2 : wM D S_47 a2 := hX_S_47.M hL_a2
        have hK_a3 : sK S_47 a3 = 22 := (hX_S_47.2 a3 hL_a3).1.trans hK_a3
        have hL_a3 : wM D S_47 a3 := hX_S_47.M hL_a3
        have hK_a4 : sK S_47 a4 = 25 := (hX_S_47.2 a4 hL_a4).1.trans hK_a4
        have hL_a4 : wM D S_47 a4 := hX_S_47.M hL_a4
        refine lv_istore (lv' := [(6, .int r_46), (0, .ref a0), (1, .ref a1), (2, .ref a2), (3, .ref a3), (4, .ref a4), (5, .int x5)]) hx hb dL_law_542 hl (by decide) rfl (fun ls hl => ?_)
        refine lv_aload_n hx hb dL_law_544 rfl (lv_at hl 3 rfl) ?_
        refine w_callI (va_runV (As := []) (rest := []) F (c_X12_readPaper l hL_a2 hK_a2 hp H.size) (cwV (C := RX12) 0 hts (wg_V wm_RL_198 wy_X12_readPaper) rfl rfl rfl (by decide +kernel) ⟨Nat.le_of_ble_eq_true rfl, Nat.le_of_ble_eq_true rfl⟩) (w_preV hK hW hL_a2 hK_a2 (by decide) rfl) rfl rfl hl.1 rfl (lv_room (Nat.le_of_ble_eq_true rfl)) dL_law_545 ⟨by show _ ≤ rC; exact Nat.le_trans (Nat.le_add_right _ _) hbc, by show _ ≤ rS; exact Nat.le_trans (Nat.le_add_right _ _) hbs⟩) hW (fun r_50 S_51 H locs hp hW => ?_)
        obtain ⟨hX_S_51, hp⟩ := hp
        refine w_same ?_
        have hE := hE.trans hX_S_51
        have hK_a0 : sK S_51 a0 = 21 := (hX_S_51.2 a0 hL_a0).1.trans hK_a0
        have hL_a0 : wM D S_51 a0 := hX_S_51.M hL_a0
        have hK_a1 : sK S_51 a1 = 16 := (hX_S_51.2 a1 hL_a1).1.trans hK_a1
        have hL_a1 : wM D S_51 a1 := hX_S_51.M hL_a1
        have hK_a2 : sK S_51 a2 = 17 := (hX_S_51.2 a2 hL_a2).1.trans hK_a2
        have hL_a2 : wM D S_51 a2 := hX_S_51.M hL_a2
        have hK_a3 : sK S_51 a3 = 22 := (hX_S_51.2 a3 hL_a3).1.trans hK_a3
        have hL_a3 : wM D S_51 a3 := hX_S_51.M hL_a3
        have hK_a4 : sK S_51 a4 = 25 := (hX_S_51.2 a4 hL_a4).1.trans hK_a4
        have hL_a4 : wM D S_51 a4 := hX_S_51.M hL_a4
        refine lv_istore (lv' := [(7, .int r_50), (6, .int r_46), (0, .ref a0), (1, .ref a1), (2, .ref a2), (3, .ref a3), (4, .ref a4), (5, .int x5)]) hx hb dL_law_548 hl (by decide) rfl (fun ls hl => ?_)
        refine lv_aload_n hx hb dL_law_550 rfl (lv_at hl 4 rfl) ?_
        refine w_callI (va_runV (As := []) (rest := []) F (c_X12_thrown l hL_a2 hK_a2 hp H.size) (cwV (C := RX12) 0 hts (wg_V wm_RL_181 wy_X12_thrown) rfl rfl rfl (by decide +kernel) ⟨Nat.le_of_ble_eq_true rfl, Nat.le_of_ble_eq_true rfl⟩) (w_preV hK hW hL_a2 hK_a2 (by decide) rfl) rfl rfl hl.1 rfl (lv_room (Nat.le_of_ble_eq_true rfl)) dL_law_551 ⟨by show _ ≤ rC; exact Nat.le_trans (Nat.le_add_right _ _) hbc, by show _ ≤ rS; exact Nat.le_trans (Nat.le_add_right _ _) hbs⟩) hW (fun r_52 S_53 H locs hp hW => ?_)
        obtain ⟨hX_S_53, hp⟩ := hp
        refine w_same ?_
        have hE := hE.trans hX_S_53
        have hK_a0 : sK S_53 a0 = 21 := (hX_S_53.2 a0 hL_a0).1.trans hK_a0
        have hL_a0 : wM D S_53 a0 := hX_S_53.M hL_a0
        have hK_a1 : sK S_53 a1 = 16 := (hX_S_53.2 a1 hL_a1).1.trans hK_a1
        have hL_a1 : wM D S_53 a1 := hX_S_53.M hL_a1
        have hK_a2 : sK S_53 a2 = 17 := (hX_S_53.2 a2 hL_a2).1.trans hK_a2
        have hL_a2 : wM D S_53 a2 := hX_S_53.M hL_a2
        have hK_a3 : sK S_53 a3 = 22 := (hX_S_53.2 a3 hL_a3).1.trans hK_a3
        have hL_a3 : wM D S_53 a3 := hX_S_53.M hL_a3
        have hK_a4 : sK S_53 a4 = 25 := (hX_S_53.2 a4 hL_a4).1.trans hK_a4
        have hL_a4 : wM D S_53 a4 := hX_S_53.M hL_a4
        refine lv_iload hx hb dL_law_554 (lv_at hl 1 rfl) ?_
        refine lv_icmp_eq (tgt := 561) hx hb dL_law_556 (by decide) (fun c_54 => ?_) (fun c_54 => ?_)
        · replace hp := hp.1 c_54
          refine lv_iload hx hb dL_law_561 (lv_at hl 1 rfl) ?_
          refine lv_if_ne (tgt := 578) hx hb dL_law_563 (by decide) (fun c_55 => ?_) (fun c_55 => ?_)
          · replace hp := hp.1 c_55
            exact t_L_law_578 F hr hlocks hK hl0 hQ ih hbc hbs hp hW hE (lv_sub hl [2, 3, 4, 5, 6, 7] rfl) hL_a0 hK_a0 hL_a1 hK_a1 hL_a2 hK_a2 hL_a3 hK_a3 hL_a4 hK_a4
          · replace hp := hp.2 c_55
            refine lv_aload_n hx hb dL_law_566 rfl (lv_at hl 5 rfl) ?_
            refine lv_iconst (v := 0) hx hb dL_law_567 (by decide) ?_
            obtain ⟨h_56, hp⟩ := hp
            refine w_lld F hK hW hL_a3 hK_a3 h_56 dL_law_568 ?_
            refine lv_iload hx hb dL_law_569 (lv_at hl 0 rfl) ?_
            refine lv_i2l (v := (Int32.toInt64 r_50)) hx hb dL_law_571 rfl ?_
            refine W.lcmp hx hb dL_law_572 ?_
            refine lv_if_eq (tgt := 578) hx hb dL_law_573 (by decide) (fun c_57 => ?_) (fun c_57 => ?_)
            · replace hp := hp.1 c_57
              exact t_L_law_578 F hr hlocks hK hl0 hQ ih hbc hbs hp hW hE (lv_sub hl [2, 3, 4, 5, 6, 7] rfl) hL_a0 hK_a0 hL_a1 hK_a1 hL_a2 hK_a2 hL_a3 hK_a3 hL_a4 hK_a4
            · replace hp := hp.2 c_57
              refine lv_iconst (v := 0) hx hb dL_law_576 (by decide) ?_
              refine W.widen (k := rC) (n := rS) (Nat.le_trans (Nat.le_add_right _ _) hbc) (Nat.le_trans (Nat.le_add_right _ _) hbs) ?_
              exact hQ hp dL_law_577 hW
        · replace hp := hp.2 c_54
          refine lv_iconst (v := 0) hx hb dL_law_559 (by decide) ?_
          refine W.widen (k := rC) (n := rS) (Nat.le_trans (Nat.le_add_right _ _) hbc) (Nat.le_trans (Nat.le_add_right _ _) hbs) ?_
          exact hQ hp dL_law_560 hW
      replace hp := hp.2
      by_cases c_58 : x_3 = 5
      · refine lv_tableIn (tgt := 581) (x := x_3) (off := 537) hx hb dL_law_44 (by rw [c_58]; decide) (by rw [c_58]; decide) (by rw [c_58]; decide) (by decide) ?_
        replace hp := hp.1 c_58
        refine lv_aload_n hx hb dL_law_581 rfl (lv_at hl 1 rfl) ?_
        refine lv_aload_n hx hb dL_law_582 rfl (lv_at hl 0 rfl) ?_
        refine lv_iload hx hb dL_law_583 (lv_at hl 5 rfl) ?_
        refine lv_iconst (v := 1) hx hb dL_law_585 (by decide) ?_
        refine lv_iadd hx hb dL_law_586 ?_
        obtain ⟨h_59, hp⟩ := hp
        refine w_ild F hK hW hL_a0 hK_a0 h_59 dL_law_587 ?_
        refine lv_aload_n hx hb dL_law_588 rfl (lv_at hl 3 rfl) ?_
        obtain ⟨h_62, h_62z, hp⟩ := hp
        refine x_callI (vx_runSX (As := [.ref a1, .int (sI S a0 ((x5 + (1 : Int32))).toNatClampNeg), .ref a3]) (rest := []) F (c_L_pieceAt l hl0 hL_a1 hK_a1 hL_a3 hK_a3 hp H.size) (vx_cwSW 3 hts (wg_S wm_RL_199 wy_L_pieceAt) rfl rfl rfl ⟨by decide, by decide, by decide +kernel⟩ ⟨Nat.le_of_ble_eq_true rfl, Nat.le_of_ble_eq_true rfl⟩) (w_preS hK hW) rfl rfl hl.1 rfl (lv_room (Nat.le_of_ble_eq_true rfl)) dL_law_589 ⟨by show _ + 1 ≤ rC; omega, by show _ + 6 ≤ rS; omega⟩) hW (fun E ce q9 S9 H locs hp hW h1 h2 h3 => hp.elim) (fun r_60 S_61 H locs hp hW => ?_)
        obtain ⟨hX_S_61, hp⟩ := hp
        refine W.widen (k := _ + 1) (n := _ + 6) (Nat.le_refl _) (Nat.le_refl _) ?_
        replace hbc := w_spend hbc (show 1 ≤ bc by omega)
        replace hbs := w_spend hbs (show 6 ≤ bs by omega)
        have hE := hE.trans hX_S_61
        have hK_a0 : sK S_61 a0 = 21 := (hX_S_61.2 a0 hL_a0).1.trans hK_a0
        have hL_a0 : wM D S_61 a0 := hX_S_61.M hL_a0
        have hK_a1 : sK S_61 a1 = 16 := (hX_S_61.2 a1 hL_a1).1.trans hK_a1
        have hL_a1 : wM D S_61 a1 := hX_S_61.M hL_a1
        have hK_a2 : sK S_61 a2 = 17 := (hX_S_61.2 a2 hL_a2).1.trans hK_a2
        have hL_a2 : wM D S_61 a2 := hX_S_61.M hL_a2
        have hK_a3 : sK S_61 a3 = 22 := (hX_S_61.2 a3 hL_a3).1.trans hK_a3
        have hL_a3 : wM D S_61 a3 := hX_S_61.M hL_a3
        have hK_a4 : sK S_61 a4 = 25 := (hX_S_61.2 a4 hL_a4).1.trans hK_a4
        have hL_a4 : wM D S_61 a4 := hX_S_61.M hL_a4
        refine lv_istore (lv' := [(6, .int r_60), (0, .ref a0), (1, .ref a1), (2, .ref a2), (3, .ref a3), (4, .ref a4), (5, .int x5)]) hx hb dL_law_592 hl (by decide) rfl (fun ls hl => ?_)
        refine lv_aload_n hx hb dL_law_594 rfl (lv_at hl 3 rfl) ?_
        refine lv_aload_n hx hb dL_law_595 rfl (lv_at hl 1 rfl) ?_
        refine lv_iload hx hb dL_law_596 (lv_at hl 6 rfl) ?_
        refine lv_iconst (v := 1) hx hb dL_law_598 (by decide) ?_
        refine lv_iadd hx hb dL_law_599 ?_
        obtain ⟨h_63, hp⟩ := hp
        refine w_ild F hK hW hL_a0 hK_a0 h_63 dL_law_600 ?_
        refine w_callI (va_runV (As := [.int (sI S_61 a0 ((x5 + (1 : Int32))).toNatClampNeg)]) (rest := []) F (c_X12_pieceAt l hL_a2 hK_a2 hp H.size) (cwV (C := RX12) 1 hts (wg_V wm_RL_202 wy_X12_pieceAt) rfl rfl rfl (by decide +kernel) ⟨Nat.le_of_ble_eq_true rfl, Nat.le_of_ble_eq_true rfl⟩) (w_preV hK hW hL_a2 hK_a2 (by decide) rfl) rfl rfl hl.1 rfl (lv_room (Nat.le_of_ble_eq_true rfl)) dL_law_601 ⟨by show _ ≤ rC; exact Nat.le_trans (Nat.le_add_right _ _) hbc, by show _ ≤ rS; exact Nat.le_trans (Nat.le_add_right _ _) hbs⟩) hW (fun r_64 S_65 H locs hp hW => ?_)
        obtain ⟨hX_S_65, hp⟩ := hp
        refine w_same ?_
        have hE := hE.trans hX_S_65
        have hK_a0 : sK S_65 a0 = 21 := (hX_S_65.2 a0 hL_a0).1.trans hK_a0
        have hL_a0 : wM D S_65 a0 := hX_S_65.M hL_a0
        have hK_a1 : sK S_65 a1 = 16 := (hX_S_65.2 a1 hL_a1).1.trans hK_a1
        have hL_a1 : wM D S_65 a1 := hX_S_65.M hL_a1
        have hK_a2 : sK S_65 a2 = 17 := (hX_S_65.2 a2 hL_a2).1.trans hK_a2
        have hL_a2 : wM D S_65 a2 := hX_S_65.M hL_a2
        have hK_a3 : sK S_65 a3 = 22 := (hX_S_65.2 a3 hL_a3).1.trans hK_a3
        have hL_a3 : wM D S_65 a3 := hX_S_65.M hL_a3
        have hK_a4 : sK S_65 a4 = 25 := (hX_S_65.2 a4 hL_a4).1.trans hK_a4
        have hL_a4 : wM D S_65 a4 := hX_S_65.M hL_a4
        refine lv_istore (lv' := [(7, .int r_64), (6, .int r_60), (0, .ref a0), (1, .ref a1), (2, .ref a2), (3, .ref a3), (4, .ref a4), (5, .int x5)]) hx hb dL_law_604 hl (by decide) rfl (fun ls hl => ?_)
        refine lv_aload_n hx hb dL_law_606 rfl (lv_at hl 4 rfl) ?_
        refine w_callI (va_runV (As := []) (rest := []) F (c_X12_thrown l hL_a2 hK_a2 hp H.size) (cwV (C := RX12) 0 hts (wg_V wm_RL_181 wy_X12_thrown) rfl rfl rfl (by decide +kernel) ⟨Nat.le_of_ble_eq_true rfl, Nat.le_of_ble_eq_true rfl⟩) (w_preV hK hW hL_a2 hK_a2 (by decide) rfl) rfl rfl hl.1 rfl (lv_room (Nat.le_of_ble_eq_true rfl)) dL_law_607 ⟨by show _ ≤ rC; exact Nat.le_trans (Nat.le_add_right _ _) hbc, by show _ ≤ rS; exact Nat.le_trans (Nat.le_add_right _ _) hbs⟩) hW (fun r_66 S_67 H locs hp hW => ?_)
        obtain ⟨hX_S_67, hp⟩ := hp
        refine w_same ?_
        have hE := hE.trans hX_S_67
        have hK_a0 : sK S_67 a0 = 21 := (hX_S_67.2 a0 hL_a0).1.trans hK_a0
        have hL_a0 : wM D S_67 a0 := hX_S_67.M hL_a0
        have hK_a1 : sK S_67 a1 = 16 := (hX_S_67.2 a1 hL_a1).1.trans hK_a1
        have hL_a1 : wM D S_67 a1 := hX_S_67.M hL_a1
        have hK_a2 : sK S_67 a2 = 17 := (hX_S_67.2 a2 hL_a2).1.trans hK_a2
        have hL_a2 : wM D S_67 a2 := hX_S_67.M hL_a2
        have hK_a3 : sK S_67 a3 = 22 := (hX_S_67.2 a3 hL_a3).1.trans hK_a3
        have hL_a3 : wM D S_67 a3 := hX_S_67.M hL_a3
        have hK_a4 : sK S_67 a4 = 25 := (hX_S_67.2 a4 hL_a4).1.trans hK_a4
        have hL_a4 : wM D S_67 a4 := hX_S_67.M hL_a4
        refine lv_iload hx hb dL_law_610 (lv_at hl 1 rfl) ?_
        refine lv_icmp_eq (tgt := 617) hx hb dL_law_612 (by decide) (fun c_68 => ?_) (fun c_68 => ?_)
        · replace hp := hp.1 c_68
          refine lv_iload hx hb dL_law_617 (lv_at hl 1 rfl) ?_
          refine lv_if_ne (tgt := 634) hx hb dL_law_619 (by decide) (fun c_69 => ?_) (fun c_69 => ?_)
          · replace hp := hp.1 c_69
            exact t_L_law_634 F hr hlocks hK hl0 hQ ih hbc hbs hp hW hE (lv_sub hl [2, 3, 4, 5, 6, 7] rfl) hL_a0 hK_a0 hL_a1 hK_a1 hL_a2 hK_a2 hL_a3 hK_a3 hL_a4 hK_a4
          · replace hp := hp.2 c_69
            refine lv_aload_n hx hb dL_law_622 rfl (lv_at hl 5 rfl) ?_
            refine lv_iconst (v := 0) hx hb dL_law_623 (by decide) ?_
            obtain ⟨h_70, hp⟩ := hp
            refine w_lld F hK hW hL_a3 hK_a3 h_70 dL_law_624 ?_
            refine lv_iload hx hb dL_law_625 (lv_at hl 0 rfl) ?_
            refine lv_i2l (v := (Int32.toInt64 r_64)) hx hb dL_law_627 rfl ?_
            refine W.lcmp hx hb dL_law_628 ?_
            refine lv_if_eq (tgt := 634) hx hb dL_law_629 (by decide) (fun c_71 => ?_) (fun c_71 => ?_)
            · replace hp := hp.1 c_71
              exact t_L_law_634 F hr hlocks hK hl0 hQ ih hbc hbs hp hW hE (lv_sub hl [2, 3, 4, 5, 6, 7] rfl) hL_a0 hK_a0 hL_a1 hK_a1 hL_a2 hK_a2 hL_a3 hK_a3 hL_a4 hK_a4
            · replace hp := hp.2 c_71
              refine lv_iconst (v := 0) hx hb dL_law_632 (by decide) ?_
              refine W.widen (k := rC) (n := rS) (Nat.le_trans (Nat.le_add_right _ _) hbc) (Nat.le_trans (Nat.le_add_right _ _) hbs) ?_
              exact hQ hp dL_law_633 hW
        · replace hp := hp.2 c_68
          refine lv_iconst (v := 0) hx hb dL_law_615 (by decide) ?_
          refine W.widen (k := rC) (n := rS) (Nat.le_trans (Nat.le_add_right _ _) hbc) (Nat.le_trans (Nat.le_add_right _ _) hbs) ?_
          exact hQ hp dL_law_616 hW
      replace hp := hp.2
      by_cases c_72 : x_3 = 6
      · refine lv_tableIn (tgt := 637) (x := x_3) (off := 593) hx hb dL_law_44 (by rw [c_72]; decide) (by rw [c_72]; decide) (by rw [c_72]; decide) (by decide) ?_
        replace hp := hp.1 c_72
        refine lv_aload_n hx hb dL_law_637 rfl (lv_at hl 1 rfl) ?_
        refine w_callI (va_runV (As := []) (rest := []) F (c_X11_isWhiteToMove l hL_a1 hK_a1 hp H.size) (cwV (C := RX11) 0 hts (wg_V wm_RL_203 wy_X11_isWhiteToMove) rfl rfl rfl (by decide +kernel) ⟨Nat.le_of_ble_eq_true rfl, Nat.le_of_ble_eq_true rfl⟩) (w_preV hK hW hL_a1 hK_a1 (by decide) rfl) rfl rfl hl.1 rfl (lv_room (Nat.le_of_ble_eq_true rfl)) dL_law_638 ⟨by show _ ≤ rC; exact Nat.le_trans (Nat.le_add_right _ _) hbc, by show _ ≤ rS; exact Nat.le_trans (Nat.le_add_right _ _) hbs⟩) hW (fun r_73 S_74 H locs hp hW => ?_)
        obtain ⟨hX_S_74, hp⟩ := hp
        refine w_same ?_
        have hE := hE.trans hX_S_74
        have hK_a0 : sK S_74 a0 = 21 := (hX_S_74.2 a0 hL_a0).1.trans hK_a0
        have hL_a0 : wM D S_74 a0 := hX_S_74.M hL_a0
        have hK_a1 : sK S_74 a1 = 16 := (hX_S_74.2 a1 hL_a1).1.trans hK_a1
        have hL_a1 : wM D S_74 a1 := hX_S_74.M hL_a1
        have hK_a2 : sK S_74 a2 = 17 := (hX_S_74.2 a2 hL_a2).1.trans hK_a2
        have hL_a2 : wM D S_74 a2 := hX_S_74.M hL_a2
        have hK_a3 : sK S_74 a3 = 22 := (hX_S_74.2 a3 hL_a3).1.trans hK_a3
        have hL_a3 : wM D S_74 a3 := hX_S_74.M hL_a3
        have hK_a4 : sK S_74 a4 = 25 := (hX_S_74.2 a4 hL_a4).1.trans hK_a4
        have hL_a4 : wM D S_74 a4 := hX_S_74.M hL_a4
        refine lv_aload_n hx hb dL_law_641 rfl (lv_at hl 2 rfl) ?_
        refine w_callI (va_runV (As := []) (rest := [.int r_73]) F (c_X12_isWhiteToMove l hL_a2 hK_a2 hp H.size) (cwV (C := RX12) 0 hts (wg_V wm_RL_207 wy_X12_isWhiteToMove) rfl rfl rfl (by decide +kernel) ⟨Nat.le_of_ble_eq_true rfl, Nat.le_of_ble_eq_true rfl⟩) (w_preV hK hW hL_a2 hK_a2 (by decide) rfl) rfl rfl hl.1 rfl (lv_room (Nat.le_of_ble_eq_true rfl)) dL_law_642 ⟨by show _ ≤ rC; exact Nat.le_trans (Nat.le_add_right _ _) hbc, by show _ ≤ rS; exact Nat.le_trans (Nat.le_add_right _ _) hbs⟩) hW (fun r_75 S_76 H locs hp hW => ?_)
        obtain ⟨hX_S_76, hp⟩ := hp
        refine w_same ?_
        have hE := hE.trans hX_S_76
        have hK_a0 : sK S_76 a0 = 21 := (hX_S_76.2 a0 hL_a0).1.trans hK_a0
        have hL_a0 : wM D S_76 a0 := hX_S_76.M hL_a0
        have hK_a1 : sK S_76 a1 = 16 := (hX_S_76.2 a1 hL_a1).1.trans hK_a1
        have hL_a1 : wM D S_76 a1 := hX_S_76.M hL_a1
        have hK_a2 : sK S_76 a2 = 17 := (hX_S_76.2 a2 hL_a2).1.trans hK_a2
        have hL_a2 : wM D S_76 a2 := hX_S_76.M hL_a2
        have hK_a3 : sK S_76 a3 = 22 := (hX_S_76.2 a3 hL_a3).1.trans hK_a3
        have hL_a3 : wM D S_76 a3 := hX_S_76.M hL_a3
        have hK_a4 : sK S_76 a4 = 25 := (hX_S_76.2 a4 hL_a4).1.trans hK_a4
        have hL_a4 : wM D S_76 a4 := hX_S_76.M hL_a4
        refine lv_icmp_eq (tgt := 3394) hx hb dL_law_645 (by decide) (fun c_77 => ?_) (fun c_77 => ?_)
        · replace hp := hp.1 c_77
          exact t_L_law_3394 F hr hlocks hK hl0 hQ ih hbc hbs hp hW hE (lv_sub hl [0, 1, 2, 3, 4, 5] rfl) hL_a0 hK_a0 hL_a1 hK_a1 hL_a2 hK_a2 hL_a3 hK_a3 hL_a4 hK_a4
        · replace hp := hp.2 c_77
          refine lv_iconst (v := 0) hx hb dL_law_648 (by decide) ?_
          refine W.widen (k := rC) (n := rS) (Nat.le_trans (Nat.le_add_right _ _) hbc) (Nat.le_trans (Nat.le_add_right _ _) hbs) ?_
          exact hQ hp dL_law_649 hW
      replace hp := hp.2
      by_cases c_78 : x_3 = 7
      · refine lv_tableIn (tgt := 650) (x := x_3) (off := 606) hx hb dL_law_44 (by rw [c_78]; decide) (by rw [c_78]; decide) (by rw [c_78]; decide) (by decide) ?_
        replace hp := hp.1 c_78
        refine lv_aload_n hx hb dL_law_650 rfl (lv_at hl 1 rfl) ?_
        refine w_callI (va_runV (As := []) (rest := []) F (c_X11_rights l hL_a1 hK_a1 hp H.size) (cwV (C := RX11) 0 hts (wg_V wm_RL_208 wy_X11_rights) rfl rfl rfl (by decide +kernel) ⟨Nat.le_of_ble_eq_true rfl, Nat.le_of_ble_eq_true rfl⟩) (w_preV hK hW hL_a1 hK_a1 (by decide) rfl) rfl rfl hl.1 rfl (lv_room (Nat.le_of_ble_eq_true rfl)) dL_law_651 ⟨by show _ ≤ rC; exact Nat.le_trans (Nat.le_add_right _ _) hbc, by show _ ≤ rS; exact Nat.le_trans (Nat.le_add_right _ _) hbs⟩) hW (fun r_79 S_80 H locs hp hW => ?_)
        obtain ⟨hX_S_80, hp⟩ := hp
        refine w_same ?_
        have hE := hE.trans hX_S_80
        have hK_a0 : sK S_80 a0 = 21 := (hX_S_80.2 a0 hL_a0).1.trans hK_a0
        have hL_a0 : wM D S_80 a0 := hX_S_80.M hL_a0
        have hK_a1 : sK S_80 a1 = 16 := (hX_S_80.2 a1 hL_a1).1.trans hK_a1
        have hL_a1 : wM D S_80 a1 := hX_S_80.M hL_a1
        have hK_a2 : sK S_80 a2 = 17 := (hX_S_80.2 a2 hL_a2).1.trans hK_a2
        have hL_a2 : wM D S_80 a2 := hX_S_80.M hL_a2
        have hK_a3 : sK S_80 a3 = 22 := (hX_S_80.2 a3 hL_a3).1.trans hK_a3
        have hL_a3 : wM D S_80 a3 := hX_S_80.M hL_a3
        have hK_a4 : sK S_80 a4 = 25 := (hX_S_80.2 a4 hL_a4).1.trans hK_a4
        have hL_a4 : wM D S_80 a4 := hX_S_80.M hL_a4
        refine lv_aload_n hx hb dL_law_654 rfl (lv_at hl 2 rfl) ?_
        refine w_callI (va_runV (As := []) (rest := [.int r_79]) F (c_X12_rights l hL_a2 hK_a2 hp H.size) (cwV (C := RX12) 0 hts (wg_V wm_RL_211 wy_X12_rights) rfl rfl rfl (by decide +kernel) ⟨Nat.le_of_ble_eq_true rfl, Nat.le_of_ble_eq_true rfl⟩) (w_preV hK hW hL_a2 hK_a2 (by decide) rfl) rfl rfl hl.1 rfl (lv_room (Nat.le_of_ble_eq_true rfl)) dL_law_655 ⟨by show _ ≤ rC; exact Nat.le_trans (Nat.le_add_right _ _) hbc, by show _ ≤ rS; exact Nat.le_trans (Nat.le_add_right _ _) hbs⟩) hW (fun r_81 S_82 H locs hp hW => ?_)
        obtain ⟨hX_S_82, hp⟩ := hp
        refine w_same ?_
        have hE := hE.trans hX_S_82
        have hK_a0 : sK S_82 a0 = 21 := (hX_S_82.2 a0 hL_a0).1.trans hK_a0
        have hL_a0 : wM D S_82 a0 := hX_S_82.M hL_a0
        have hK_a1 : sK S_82 a1 = 16 := (hX_S_82.2 a1 hL_a1).1.trans hK_a1
        have hL_a1 : wM D S_82 a1 := hX_S_82.M hL_a1
        have hK_a2 : sK S_82 a2 = 17 := (hX_S_82.2 a2 hL_a2).1.trans hK_a2
        have hL_a2 : wM D S_82 a2 := hX_S_82.M hL_a2
        have hK_a3 : sK S_82 a3 = 22 := (hX_S_82.2 a3 hL_a3).1.trans hK_a3
        have hL_a3 : wM D S_82 a3 := hX_S_82.M hL_a3
        have hK_a4 : sK S_82 a4 = 25 := (hX_S_82.2 a4 hL_a4).1.trans hK_a4
        have hL_a4 : wM D S_82 a4 := hX_S_82.M hL_a4
        refine lv_icmp_eq (tgt := 3394) hx hb dL_law_658 (by decide) (fun c_83 => ?_) (fun c_83 => ?_)
        · replace hp := hp.1 c_83
          exact t_L_law_3394 F hr hlocks hK hl0 hQ ih hbc hbs hp hW hE (lv_sub hl [0, 1, 2, 3, 4, 5] rfl) hL_a0 hK_a0 hL_a1 hK_a1 hL_a2 hK_a2 hL_a3 hK_a3 hL_a4 hK_a4
        · replace hp := hp.2 c_83
          refine lv_iconst (v := 0) hx hb dL_law_661 (by decide) ?_
          refine W.widen (k := rC) (n := rS) (Nat.le_trans (Nat.le_add_right _ _) hbc) (Nat.le_trans (Nat.le_add_right _ _) hbs) ?_
          exact hQ hp dL_law_662 hW
      replace hp := hp.2
      by_cases c_84 : x_3 = 8
      · refine lv_tableIn (tgt := 663) (x := x_3) (off := 619) hx hb dL_law_44 (by rw [c_84]; decide) (by rw [c_84]; decide) (by rw [c_84]; decide) (by decide) ?_
        replace hp := hp.1 c_84
        refine lv_aload_n hx hb dL_law_663 rfl (lv_at hl 1 rfl) ?_
        refine w_callI (va_runV (As := []) (rest := []) F (c_X11_passingSquare l hL_a1 hK_a1 hp H.size) (cwV (C := RX11) 0 hts (wg_V wm_RL_212 wy_X11_passingSquare) rfl rfl rfl (by decide +kernel) ⟨Nat.le_of_ble_eq_true rfl, Nat.le_of_ble_eq_true rfl⟩) (w_preV hK hW hL_a1 hK_a1 (by decide) rfl) rfl rfl hl.1 rfl (lv_room (Nat.le_of_ble_eq_true rfl)) dL_law_664 ⟨by show _ ≤ rC; exact Nat.le_trans (Nat.le_add_right _ _) hbc, by show _ ≤ rS; exact Nat.le_trans (Nat.le_add_right _ _) hbs⟩) hW (fun r_85 S_86 H locs hp hW => ?_)
        obtain ⟨hX_S_86, hp⟩ := hp
        refine w_same ?_
        have hE := hE.trans hX_S_86
        have hK_a0 : sK S_86 a0 = 21 := (hX_S_86.2 a0 hL_a0).1.trans hK_a0
        have hL_a0 : wM D S_86 a0 := hX_S_86.M hL_a0
        have hK_a1 : sK S_86 a1 = 16 := (hX_S_86.2 a1 hL_a1).1.trans hK_a1
        have hL_a1 : wM D S_86 a1 := hX_S_86.M hL_a1
        have hK_a2 : sK S_86 a2 = 17 := (hX_S_86.2 a2 hL_a2).1.trans hK_a2
        have hL_a2 : wM D S_86 a2 := hX_S_86.M hL_a2
        have hK_a3 : sK S_86 a3 = 22 := (hX_S_86.2 a3 hL_a3).1.trans hK_a3
        have hL_a3 : wM D S_86 a3 := hX_S_86.M hL_a3
        have hK_a4 : sK S_86 a4 = 25 := (hX_S_86.2 a4 hL_a4).1.trans hK_a4
        have hL_a4 : wM D S_86 a4 := hX_S_86.M hL_a4
        refine lv_aload_n hx hb dL_law_667 rfl (lv_at hl 2 rfl) ?_
        refine w_callI (va_runV (As := []) (rest := [.int r_85]) F (c_X12_passingSquare l hL_a2 hK_a2 hp H.size) (cwV (C := RX12) 0 hts (wg_V wm_RL_215 wy_X12_passingSquare) rfl rfl rfl (by decide +kernel) ⟨Nat.le_of_ble_eq_true rfl, Nat.le_of_ble_eq_true rfl⟩) (w_preV hK hW hL_a2 hK_a2 (by decide) rfl) rfl rfl hl.1 rfl (lv_room (Nat.le_of_ble_eq_true rfl)) dL_law_668 ⟨by show _ ≤ rC; exact Nat.le_trans (Nat.le_add_right _ _) hbc, by show _ ≤ rS; exact Nat.le_trans (Nat.le_add_right _ _) hbs⟩) hW (fun r_87 S_88 H locs hp hW => ?_)
        obtain ⟨hX_S_88, hp⟩ := hp
        refine w_same ?_
        have hE := hE.trans hX_S_88
        have hK_a0 : sK S_88 a0 = 21 := (hX_S_88.2 a0 hL_a0).1.trans hK_a0
        have hL_a0 : wM D S_88 a0 := hX_S_88.M hL_a0
        have hK_a1 : sK S_88 a1 = 16 := (hX_S_88.2 a1 hL_a1).1.trans hK_a1
        have hL_a1 : wM D S_88 a1 := hX_S_88.M hL_a1
        have hK_a2 : sK S_88 a2 = 17 := (hX_S_88.2 a2 hL_a2).1.trans hK_a2
        have hL_a2 : wM D S_88 a2 := hX_S_88.M hL_a2
        have hK_a3 : sK S_88 a3 = 22 := (hX_S_88.2 a3 hL_a3).1.trans hK_a3
        have hL_a3 : wM D S_88 a3 := hX_S_88.M hL_a3
        have hK_a4 : sK S_88 a4 = 25 := (hX_S_88.2 a4 hL_a4).1.trans hK_a4
        have hL_a4 : wM D S_88 a4 := hX_S_88.M hL_a4
        refine lv_icmp_eq (tgt := 3394) hx hb dL_law_671 (by decide) (fun c_89 => ?_) (fun c_89 => ?_)
        · replace hp := hp.1 c_89
          exact t_L_law_3394 F hr hlocks hK hl0 hQ ih hbc hbs hp hW hE (lv_sub hl [0, 1, 2, 3, 4, 5] rfl) hL_a0 hK_a0 hL_a1 hK_a1 hL_a2 hK_a2 hL_a3 hK_a3 hL_a4 hK_a4
        · replace hp := hp.2 c_89
          refine lv_iconst (v := 0) hx hb dL_law_674 (by decide) ?_
          refine W.widen (k := rC) (n := rS) (Nat.le_trans (Nat.le_add_right _ _) hbc) (Nat.le_trans (Nat.le_add_right _ _) hbs) ?_
          exact hQ hp dL_law_675 hW
      replace hp := hp.2
      by_cases c_90 : x_3 = 9
      · refine lv_tableIn (tgt := 676) (x := x_3) (off := 632) hx hb dL_law_44 (by rw [c_90]; decide) (by rw [c_90]; decide) (by rw [c_90]; decide) (by decide) ?_
        replace hp := hp.1 c_90
        refine lv_aload_n hx hb dL_law_676 rfl (lv_at hl 1 rfl) ?_
        refine w_callI (va_runV (As := []) (rest := []) F (c_X11_isProper l hL_a1 hK_a1 hp H.size) (cwV (C := RX11) 0 hts (wg_V wm_RL_216 wy_X11_isProper) rfl rfl rfl (by decide +kernel) ⟨Nat.le_of_ble_eq_true rfl, Nat.le_of_ble_eq_true rfl⟩) (w_preV hK hW hL_a1 hK_a1 (by decide) rfl) rfl rfl hl.1 rfl (lv_room (Nat.le_of_ble_eq_true rfl)) dL_law_677 ⟨by show _ ≤ rC; exact Nat.le_trans (Nat.le_add_right _ _) hbc, by show _ ≤ rS; exact Nat.le_trans (Nat.le_add_right _ _) hbs⟩) hW (fun r_91 S_92 H locs hp hW => ?_)
        obtain ⟨hX_S_92, hp⟩ := hp
        refine w_same ?_
        have hE := hE.trans hX_S_92
        have hK_a0 : sK S_92 a0 = 21 := (hX_S_92.2 a0 hL_a0).1.trans hK_a0
        have hL_a0 : wM D S_92 a0 := hX_S_92.M hL_a0
        have hK_a1 : sK S_92 a1 = 16 := (hX_S_92.2 a1 hL_a1).1.trans hK_a1
        have hL_a1 : wM D S_92 a1 := hX_S_92.M hL_a1
        have hK_a2 : sK S_92 a2 = 17 := (hX_S_92.2 a2 hL_a2).1.trans hK_a2
        have hL_a2 : wM D S_92 a2 := hX_S_92.M hL_a2
        have hK_a3 : sK S_92 a3 = 22 := (hX_S_92.2 a3 hL_a3).1.trans hK_a3
        have hL_a3 : wM D S_92 a3 := hX_S_92.M hL_a3
        have hK_a4 : sK S_92 a4 = 25 := (hX_S_92.2 a4 hL_a4).1.trans hK_a4
        have hL_a4 : wM D S_92 a4 := hX_S_92.M hL_a4
        refine lv_aload_n hx hb dL_law_680 rfl (lv_at hl 2 rfl) ?_
        refine w_callI (va_runV (As := []) (rest := [.int r_91]) F (c_X12_isProper l hL_a2 hK_a2 hp H.size) (cwV (C := RX12) 0 hts (wg_V wm_RL_219 wy_X12_isProper) rfl rfl rfl (by decide +kernel) ⟨Nat.le_of_ble_eq_true rfl, Nat.le_of_ble_eq_true rfl⟩) (w_preV hK hW hL_a2 hK_a2 (by decide) rfl) rfl rfl hl.1 rfl (lv_room (Nat.le_of_ble_eq_true rfl)) dL_law_681 ⟨by show _ ≤ rC; exact Nat.le_trans (Nat.le_add_right _ _) hbc, by show _ ≤ rS; exact Nat.le_trans (Nat.le_add_right _ _) hbs⟩) hW (fun r_93 S_94 H locs hp hW => ?_)
        obtain ⟨hX_S_94, hp⟩ := hp
        refine w_same ?_
        have hE := hE.trans hX_S_94
        have hK_a0 : sK S_94 a0 = 21 := (hX_S_94.2 a0 hL_a0).1.trans hK_a0
        have hL_a0 : wM D S_94 a0 := hX_S_94.M hL_a0
        have hK_a1 : sK S_94 a1 = 16 := (hX_S_94.2 a1 hL_a1).1.trans hK_a1
        have hL_a1 : wM D S_94 a1 := hX_S_94.M hL_a1
        have hK_a2 : sK S_94 a2 = 17 := (hX_S_94.2 a2 hL_a2).1.trans hK_a2
        have hL_a2 : wM D S_94 a2 := hX_S_94.M hL_a2
        have hK_a3 : sK S_94 a3 = 22 := (hX_S_94.2 a3 hL_a3).1.trans hK_a3
        have hL_a3 : wM D S_94 a3 := hX_S_94.M hL_a3
        have hK_a4 : sK S_94 a4 = 25 := (hX_S_94.2 a4 hL_a4).1.trans hK_a4
        have hL_a4 : wM D S_94 a4 := hX_S_94.M hL_a4
        refine lv_icmp_eq (tgt := 3394) hx hb dL_law_684 (by decide) (fun c_95 => ?_) (fun c_95 => ?_)
        · replace hp := hp.1 c_95
          exact t_L_law_3394 F hr hlocks hK hl0 hQ ih hbc hbs hp hW hE (lv_sub hl [0, 1, 2, 3, 4, 5] rfl) hL_a0 hK_a0 hL_a1 hK_a1 hL_a2 hK_a2 hL_a3 hK_a3 hL_a4 hK_a4
        · replace hp := hp.2 c_95
          refine lv_iconst (v := 0) hx hb dL_law_687 (by decide) ?_
          refine W.widen (k := rC) (n := rS) (Nat.le_trans (Nat.le_add_right _ _) hbc) (Nat.le_trans (Nat.le_add_right _ _) hbs) ?_
          exact hQ hp dL_law_688 hW
      replace hp := hp.2
      by_cases c_96 : x_3 = 10
      · refine lv_tableIn (tgt := 689) (x := x_3) (off := 645) hx hb dL_law_44 (by rw [c_96]; decide) (by rw [c_96]; decide) (by rw [c_96]; decide) (by decide) ?_
        replace hp := hp.1 c_96
        refine lv_aload_n hx hb dL_law_689 rfl (lv_at hl 1 rfl) ?_
        refine lv_aload_n hx hb dL_law_690 rfl (lv_at hl 0 rfl) ?_
        refine lv_iload hx hb dL_law_691 (lv_at hl 5 rfl) ?_
        refine lv_iconst (v := 1) hx hb dL_law_693 (by decide) ?_
        refine lv_iadd hx hb dL_law_694 ?_
        obtain ⟨h_97, hp⟩ := hp
        refine w_ild F hK hW hL_a0 hK_a0 h_97 dL_law_695 ?_
        refine lv_aload_n hx hb dL_law_696 rfl (lv_at hl 0 rfl) ?_
        refine lv_iload hx hb dL_law_697 (lv_at hl 5 rfl) ?_
        refine lv_iconst (v := 2) hx hb dL_law_699 (by decide) ?_
        refine lv_iadd hx hb dL_law_700 ?_
        obtain ⟨h_98, hp⟩ := hp
        refine w_ild F hK hW hL_a0 hK_a0 h_98 dL_law_701 ?_
        refine lv_if_eq (tgt := 709) hx hb dL_law_702 (by decide) (fun c_99 => ?_) (fun c_99 => ?_)
        · replace hp := hp.1 c_99
          refine lv_iconst (v := 0) hx hb dL_law_709 (by decide) ?_
          exact t_L_law_710 F hr hlocks hK hl0 hQ ih hbc hbs hp hW hE (lv_sub hl [0, 1, 2, 3, 4, 5] rfl) hL_a0 hK_a0 hL_a1 hK_a1 hL_a2 hK_a2 hL_a3 hK_a3 hL_a4 hK_a4 hL_a1 hK_a1
        · replace hp := hp.2 c_99
          refine lv_iconst (v := 1) hx hb dL_law_705 (by decide) ?_
          refine lv_goto (tgt := 710) hx hb dL_law_706 (by decide) ?_
          exact t_L_law_710 F hr hlocks hK hl0 hQ ih hbc hbs hp hW hE (lv_sub hl [0, 1, 2, 3, 4, 5] rfl) hL_a0 hK_a0 hL_a1 hK_a1 hL_a2 hK_a2 hL_a3 hK_a3 hL_a4 hK_a4 hL_a1 hK_a1
      replace hp := hp.2
      by_cases c_100 : x_3 = 11
      · refine lv_tableIn (tgt := 780) (x := x_3) (off := 736) hx hb dL_law_44 (by rw [c_100]; decide) (by rw [c_100]; decide) (by rw [c_100]; decide) (by decide) ?_
        replace hp := hp.1 c_100
        refine lv_aload_n hx hb dL_law_780 rfl (lv_at hl 1 rfl) ?_
        refine lv_aload_n hx hb dL_law_781 rfl (lv_at hl 3 rfl) ?_
        obtain ⟨h_103, h_103z, hp⟩ := hp
        refine x_callI (vx_runSX (As := [.ref a1, .ref a3]) (rest := []) F (c_L_checkers l hl0 hL_a1 hK_a1 hL_a3 hK_a3 hp H.size) (vx_cwSW 2 hts (wg_S wm_RL_224 wy_L_checkers) rfl rfl rfl ⟨by decide, by decide, by decide +kernel⟩ ⟨Nat.le_of_ble_eq_true rfl, Nat.le_of_ble_eq_true rfl⟩) (w_preS hK hW) rfl rfl hl.1 rfl (lv_room (Nat.le_of_ble_eq_true rfl)) dL_law_782 ⟨by show _ + 1 ≤ rC; omega, by show _ + 6 ≤ rS; omega⟩) hW (fun E ce q9 S9 H locs hp hW h1 h2 h3 => hp.elim) (fun r_101 S_102 H locs hp hW => ?_)
        obtain ⟨hX_S_102, hp⟩ := hp
        refine W.widen (k := _ + 1) (n := _ + 6) (Nat.le_refl _) (Nat.le_refl _) ?_
        replace hbc := w_spend hbc (show 1 ≤ bc by omega)
        replace hbs := w_spend hbs (show 6 ≤ bs by omega)
        have hE := hE.trans hX_S_102
        have hK_a0 : sK S_102 a0 = 21 := (hX_S_102.2 a0 hL_a0).1.trans hK_a0
        have hL_a0 : wM D S_102 a0 := hX_S_102.M hL_a0
        have hK_a1 : sK S_102 a1 = 16 := (hX_S_102.2 a1 hL_a1).1.trans hK_a1
        have hL_a1 : wM D S_102 a1 := hX_S_102.M hL_a1
        have hK_a2 : sK S_102 a2 = 17 := (hX_S_102.2 a2 hL_a2).1.trans hK_a2
        have hL_a2 : wM D S_102 a2 := hX_S_102.M hL_a2
        have hK_a3 : sK S_102 a3 = 22 := (hX_S_102.2 a3 hL_a3).1.trans hK_a3
        have hL_a3 : wM D S_102 a3 := hX_S_102.M hL_a3
        have hK_a4 : sK S_102 a4 = 25 := (hX_S_102.2 a4 hL_a4).1.trans hK_a4
        have hL_a4 : wM D S_102 a4 := hX_S_102.M hL_a4
        refine lv_istore (lv' := [(6, .int r_101), (0, .ref a0), (1, .ref a1), (2, .ref a2), (3, .ref a3), (4, .ref a4), (5, .int x5)]) hx hb dL_law_785 hl (by decide) rfl (fun ls hl => ?_)
        refine lv_aload_n hx hb dL_law_787 rfl (lv_at hl 3 rfl) ?_
        refine w_callI (va_runV (As := []) (rest := []) F (c_X12_checkers l hL_a2 hK_a2 hp H.size) (cwV (C := RX12) 0 hts (wg_V wm_RL_226 wy_X12_checkers) rfl rfl rfl (by decide +kernel) ⟨Nat.le_of_ble_eq_true rfl, Nat.le_of_ble_eq_true rfl⟩) (w_preV hK hW hL_a2 hK_a2 (by decide) rfl) rfl rfl hl.1 rfl (lv_room (Nat.le_of_ble_eq_true rfl)) dL_law_788 ⟨by show _ ≤ rC; exact Nat.le_trans (Nat.le_add_right _ _) hbc, by show _ ≤ rS; exact Nat.le_trans (Nat.le_add_right _ _) hbs⟩) hW (fun r_104 S_105 H locs hp hW => ?_)
        obtain ⟨hX_S_105, hp⟩ := hp
        refine w_same ?_
        have hE := hE.trans hX_S_105
        have hK_a0 : sK S_105 a0 = 21 := (hX_S_105.2 a0 hL_a0).1.trans hK_a0
        have hL_a0 : wM D S_105 a0 := hX_S_105.M hL_a0
        have hK_a1 : sK S_105 a1 = 16 := (hX_S_105.2 a1 hL_a1).1.trans hK_a1
        have hL_a1 : wM D S_105 a1 := hX_S_105.M hL_a1
        have hK_a2 : sK S_105 a2 = 17 := (hX_S_105.2 a2 hL_a2).1.trans hK_a2
        have hL_a2 : wM D S_105 a2 := hX_S_105.M hL_a2
        have hK_a3 : sK S_105 a3 = 22 := (hX_S_105.2 a3 hL_a3).1.trans hK_a3
        have hL_a3 : wM D S_105 a3 := hX_S_105.M hL_a3
        have hK_a4 : sK S_105 a4 = 25 := (hX_S_105.2 a4 hL_a4).1.trans hK_a4
        have hL_a4 : wM D S_105 a4 := hX_S_105.M hL_a4
        refine lv_istore (lv' := [(7, .int r_104), (6, .int r_101), (0, .ref a0), (1, .ref a1), (2, .ref a2), (3, .ref a3), (4, .ref a4), (5, .int x5)]) hx hb dL_law_791 hl (by decide) rfl (fun ls hl => ?_)
        refine lv_aload_n hx hb dL_law_793 rfl (lv_at hl 4 rfl) ?_
        refine w_callI (va_runV (As := []) (rest := []) F (c_X12_thrown l hL_a2 hK_a2 hp H.size) (cwV (C := RX12) 0 hts (wg_V wm_RL_181 wy_X12_thrown) rfl rfl rfl (by decide +kernel) ⟨Nat.le_of_ble_eq_true rfl, Nat.le_of_ble_eq_true rfl⟩) (w_preV hK hW hL_a2 hK_a2 (by decide) rfl) rfl rfl hl.1 rfl (lv_room (Nat.le_of_ble_eq_true rfl)) dL_law_794 ⟨by show _ ≤ rC; exact Nat.le_trans (Nat.le_add_right _ _) hbc, by show _ ≤ rS; exact Nat.le_trans (Nat.le_add_right _ _) hbs⟩) hW (fun r_106 S_107 H locs hp hW => ?_)
        obtain ⟨hX_S_107, hp⟩ := hp
        refine w_same ?_
        have hE := hE.trans hX_S_107
        have hK_a0 : sK S_107 a0 = 21 := (hX_S_107.2 a0 hL_a0).1.trans hK_a0
        have hL_a0 : wM D S_107 a0 := hX_S_107.M hL_a0
        have hK_a1 : sK S_107 a1 = 16 := (hX_S_107.2 a1 hL_a1).1.trans hK_a1
        have hL_a1 : wM D S_107 a1 := hX_S_107.M hL_a1
        have hK_a2 : sK S_107 a2 = 17 := (hX_S_107.2 a2 hL_a2).1.trans hK_a2
        have hL_a2 : wM D S_107 a2 := hX_S_107.M hL_a2
        have hK_a3 : sK S_107 a3 = 22 := (hX_S_107.2 a3 hL_a3).1.trans hK_a3
        have hL_a3 : wM D S_107 a3 := hX_S_107.M hL_a3
        have hK_a4 : sK S_107 a4 = 25 := (hX_S_107.2 a4 hL_a4).1.trans hK_a4
        have hL_a4 : wM D S_107 a4 := hX_S_107.M hL_a4
        refine lv_iload hx hb dL_law_797 (lv_at hl 1 rfl) ?_
        refine lv_icmp_eq (tgt := 804) hx hb dL_law_799 (by decide) (fun c_108 => ?_) (fun c_108 => ?_)
        · replace hp := hp.1 c_108
          refine lv_iload hx hb dL_law_804 (lv_at hl 1 rfl) ?_
          refine lv_if_ne (tgt := 821) hx hb dL_law_806 (by decide) (fun c_109 => ?_) (fun c_109 => ?_)
          · replace hp := hp.1 c_109
            exact t_L_law_821 F hr hlocks hK hl0 hQ ih hbc hbs hp hW hE (lv_sub hl [2, 3, 4, 5, 6, 7] rfl) hL_a0 hK_a0 hL_a1 hK_a1 hL_a2 hK_a2 hL_a3 hK_a3 hL_a4 hK_a4
          · replace hp := hp.2 c_109
            refine lv_aload_n hx hb dL_law_809 rfl (lv_at hl 5 rfl) ?_
            refine lv_iconst (v := 0) hx hb dL_law_810 (by decide) ?_
            obtain ⟨h_110, hp⟩ := hp
            refine w_lld F hK hW hL_a3 hK_a3 h_110 dL_law_811 ?_
            refine lv_iload hx hb dL_law_812 (lv_at hl 0 rfl) ?_
            refine lv_i2l (v := (Int32.toInt64 r_104)) hx hb dL_law_814 rfl ?_
            refine W.lcmp hx hb dL_law_815 ?_
            refine lv_if_eq (tgt := 821) hx hb dL_law_816 (by decide) (fun c_111 => ?_) (fun c_111 => ?_)
            · replace hp := hp.1 c_111
              exact t_L_law_821 F hr hlocks hK hl0 hQ ih hbc hbs hp hW hE (lv_sub hl [2, 3, 4, 5, 6, 7] rfl) hL_a0 hK_a0 hL_a1 hK_a1 hL_a2 hK_a2 hL_a3 hK_a3 hL_a4 hK_a4
            · replace hp := hp.2 c_111
              refine lv_iconst (v := 0) hx hb dL_law_819 (by decide) ?_
              refine W.widen (k := rC) (n := rS) (Nat.le_trans (Nat.le_add_right _ _) hbc) (Nat.le_trans (Nat.le_add_right _ _) hbs) ?_
              exact hQ hp dL_law_820 hW
        · replace hp := hp.2 c_108
          refine lv_iconst (v := 0) hx hb dL_law_802 (by decide) ?_
          refine W.widen (k := rC) (n := rS) (Nat.le_trans (Nat.le_add_right _ _) hbc) (Nat.le_trans (Nat.le_add_right _ _) hbs) ?_
          exact hQ hp dL_law_803 hW
      replace hp := hp.2
      by_cases c_112 : x_3 = 12
      · refine lv_tableIn (tgt := 824) (x := x_3) (off := 780) hx hb dL_law_44 (by rw [c_112]; decide) (by rw [c_112]; decide) (by rw [c_112]; decide) (by decide) ?_
        replace hp := hp.1 c_112
        refine lv_aload_n hx hb dL_law_824 rfl (lv_at hl 1 rfl) ?_
        refine lv_aload_n hx hb dL_law_825 rfl (lv_at hl 0 rfl) ?_
        refine lv_iload hx hb dL_law_826 (lv_at hl 5 rfl) ?_
        refine lv_iconst (v := 1) hx hb dL_law_828 (by decide) ?_
        refine lv_iadd hx hb dL_law_829 ?_
        obtain ⟨h_113, hp⟩ := hp
        refine w_ild F hK hW hL_a0 hK_a0 h_113 dL_law_830 ?_
        refine lv_aload_n hx hb dL_law_831 rfl (lv_at hl 3 rfl) ?_
        obtain ⟨h_116, h_116z, hp⟩ := hp
        refine x_callI (vx_runSX (As := [.ref a1, .int (sI S a0 ((x5 + (1 : Int32))).toNatClampNeg), .ref a3]) (rest := []) F (c_L_isPinned l hl0 hL_a1 hK_a1 hL_a3 hK_a3 hp H.size) (vx_cwSW 3 hts (wg_S wm_RL_227 wy_L_isPinned) rfl rfl rfl ⟨by decide, by decide, by decide +kernel⟩ ⟨Nat.le_of_ble_eq_true rfl, Nat.le_of_ble_eq_true rfl⟩) (w_preS hK hW) rfl rfl hl.1 rfl (lv_room (Nat.le_of_ble_eq_true rfl)) dL_law_832 ⟨by show _ + 2 ≤ rC; omega, by show _ + 12 ≤ rS; omega⟩) hW (fun E ce q9 S9 H locs hp hW h1 h2 h3 => hp.elim) (fun r_114 S_115 H locs hp hW => ?_)
        obtain ⟨hX_S_115, hp⟩ := hp
        refine W.widen (k := _ + 2) (n := _ + 12) (Nat.le_refl _) (Nat.le_refl _) ?_
        replace hbc := w_spend hbc (show 2 ≤ bc by omega)
        replace hbs := w_spend hbs (show 12 ≤ bs by omega)
        have hE := hE.trans hX_S_115
        have hK_a0 : sK S_115 a0 = 21 := (hX_S_115.2 a0 hL_a0).1.trans hK_a0
        have hL_a0 : wM D S_115 a0 := hX_S_115.M hL_a0
        have hK_a1 : sK S_115 a1 = 16 := (hX_S_115.2 a1 hL_a1).1.trans hK_a1
        have hL_a1 : wM D S_115 a1 := hX_S_115.M hL_a1
        have hK_a2 : sK S_115 a2 = 17 := (hX_S_115.2 a2 hL_a2).1.trans hK_a2
        have hL_a2 : wM D S_115 a2 := hX_S_115.M hL_a2
        have hK_a3 : sK S_115 a3 = 22 := (hX_S_115.2 a3 hL_a3).1.trans hK_a3
        have hL_a3 : wM D S_115 a3 := hX_S_115.M hL_a3
        have hK_a4 : sK S_115 a4 = 25 := (hX_S_115.2 a4 hL_a4).1.trans hK_a4
        have hL_a4 : wM D S_115 a4 := hX_S_115.M hL_a4
        refine lv_istore (lv' := [(6, .int r_114), (0, .ref a0), (1, .ref a1), (2, .ref a2), (3, .ref a3), (4, .ref a4), (5, .int x5)]) hx hb dL_law_835 hl (by decide) rfl (fun ls hl => ?_)
        refine lv_aload_n hx hb dL_law_837 rfl (lv_at hl 3 rfl) ?_
        refine lv_aload_n hx hb dL_law_838 rfl (lv_at hl 1 rfl) ?_
        refine lv_iload hx hb dL_law_839 (lv_at hl 6 rfl) ?_
        refine lv_iconst (v := 1) hx hb dL_law_841 (by decide) ?_
        refine lv_iadd hx hb dL_law_842 ?_
        obtain ⟨h_117, hp⟩ := hp
        refine w_ild F hK hW hL_a0 hK_a0 h_117 dL_law_843 ?_
        refine w_callI (va_runV (As := [.int (sI S_115 a0 ((x5 + (1 : Int32))).toNatClampNeg)]) (rest := []) F (c_X12_isPinned l hL_a2 hK_a2 hp H.size) (cwV (C := RX12) 1 hts (wg_V wm_RL_229 wy_X12_isPinned) rfl rfl rfl (by decide +kernel) ⟨Nat.le_of_ble_eq_true rfl, Nat.le_of_ble_eq_true rfl⟩) (w_preV hK hW hL_a2 hK_a2 (by decide) rfl) rfl rfl hl.1 rfl (lv_room (Nat.le_of_ble_eq_true rfl)) dL_law_844 ⟨by show _ ≤ rC; exact Nat.le_trans (Nat.le_add_right _ _) hbc, by show _ ≤ rS; exact Nat.le_trans (Nat.le_add_right _ _) hbs⟩) hW (fun r_118 S_119 H locs hp hW => ?_)
        obtain ⟨hX_S_119, hp⟩ := hp
        refine w_same ?_
        have hE := hE.trans hX_S_119
        have hK_a0 : sK S_119 a0 = 21 := (hX_S_119.2 a0 hL_a0).1.trans hK_a0
        have hL_a0 : wM D S_119 a0 := hX_S_119.M hL_a0
        have hK_a1 : sK S_119 a1 = 16 := (hX_S_119.2 a1 hL_a1).1.trans hK_a1
        have hL_a1 : wM D S_119 a1 := hX_S_119.M hL_a1
        have hK_a2 : sK S_119 a2 = 17 := (hX_S_119.2 a2 hL_a2).1.trans hK_a2
        have hL_a2 : wM D S_119 a2 := hX_S_119.M hL_a2
        have hK_a3 : sK S_119 a3 = 22 := (hX_S_119.2 a3 hL_a3).1.trans hK_a3
        have hL_a3 : wM D S_119 a3 := hX_S_119.M hL_a3
        have hK_a4 : sK S_119 a4 = 25 := (hX_S_119.2 a4 hL_a4).1.trans hK_a4
        have hL_a4 : wM D S_119 a4 := hX_S_119.M hL_a4
        refine lv_istore (lv' := [(7, .int r_118), (6, .int r_114), (0, .ref a0), (1, .ref a1), (2, .ref a2), (3, .ref a3), (4, .ref a4), (5, .int x5)]) hx hb dL_law_847 hl (by decide) rfl (fun ls hl => ?_)
        refine lv_aload_n hx hb dL_law_849 rfl (lv_at hl 4 rfl) ?_
        refine w_callI (va_runV (As := []) (rest := []) F (c_X12_thrown l hL_a2 hK_a2 hp H.size) (cwV (C := RX12) 0 hts (wg_V wm_RL_181 wy_X12_thrown) rfl rfl rfl (by decide +kernel) ⟨Nat.le_of_ble_eq_true rfl, Nat.le_of_ble_eq_true rfl⟩) (w_preV hK hW hL_a2 hK_a2 (by decide) rfl) rfl rfl hl.1 rfl (lv_room (Nat.le_of_ble_eq_true rfl)) dL_law_850 ⟨by show _ ≤ rC; exact Nat.le_trans (Nat.le_add_right _ _) hbc, by show _ ≤ rS; exact Nat.le_trans (Nat.le_add_right _ _) hbs⟩) hW (fun r_120 S_121 H locs hp hW => ?_)
        obtain ⟨hX_S_121, hp⟩ := hp
        refine w_same ?_
        have hE := hE.trans hX_S_121
        have hK_a0 : sK S_121 a0 = 21 := (hX_S_121.2 a0 hL_a0).1.trans hK_a0
        have hL_a0 : wM D S_121 a0 := hX_S_121.M hL_a0
        have hK_a1 : sK S_121 a1 = 16 := (hX_S_121.2 a1 hL_a1).1.trans hK_a1
        have hL_a1 : wM D S_121 a1 := hX_S_121.M hL_a1
        have hK_a2 : sK S_121 a2 = 17 := (hX_S_121.2 a2 hL_a2).1.trans hK_a2
        have hL_a2 : wM D S_121 a2 := hX_S_121.M hL_a2
        have hK_a3 : sK S_121 a3 = 22 := (hX_S_121.2 a3 hL_a3).1.trans hK_a3
        have hL_a3 : wM D S_121 a3 := hX_S_121.M hL_a3
        have hK_a4 : sK S_121 a4 = 25 := (hX_S_121.2 a4 hL_a4).1.trans hK_a4
        have hL_a4 : wM D S_121 a4 := hX_S_121.M hL_a4
        refine lv_iload hx hb dL_law_853 (lv_at hl 1 rfl) ?_
        refine lv_icmp_eq (tgt := 860) hx hb dL_law_855 (by decide) (fun c_122 => ?_) (fun c_122 => ?_)
        · replace hp := hp.1 c_122
          refine lv_iload hx hb dL_law_860 (lv_at hl 1 rfl) ?_
          refine lv_if_ne (tgt := 884) hx hb dL_law_862 (by decide) (fun c_123 => ?_) (fun c_123 => ?_)
          · replace hp := hp.1 c_123
            exact t_L_law_884 F hr hlocks hK hl0 hQ ih hbc hbs hp hW hE (lv_sub hl [2, 3, 4, 5, 6, 7] rfl) hL_a0 hK_a0 hL_a1 hK_a1 hL_a2 hK_a2 hL_a3 hK_a3 hL_a4 hK_a4
          · replace hp := hp.2 c_123
            refine lv_aload_n hx hb dL_law_865 rfl (lv_at hl 5 rfl) ?_
            refine lv_iconst (v := 0) hx hb dL_law_866 (by decide) ?_
            obtain ⟨h_124, hp⟩ := hp
            refine w_lld F hK hW hL_a3 hK_a3 h_124 dL_law_867 ?_
            refine lv_iload hx hb dL_law_868 (lv_at hl 0 rfl) ?_
            refine lv_if_eq (tgt := 877) hx hb dL_law_870 (by decide) (fun c_125 => ?_) (fun c_125 => ?_)
            · replace hp := hp.1 c_125
              refine lv_lconst (v := 0) hx hb dL_law_877 (by decide) ?_
              exact t_L_law_878 F hr hlocks hK hl0 hQ ih hbc hbs hp hW hE (lv_sub hl [2, 3, 4, 5, 6, 7] rfl) hL_a0 hK_a0 hL_a1 hK_a1 hL_a2 hK_a2 hL_a3 hK_a3 hL_a4 hK_a4
            · replace hp := hp.2 c_125
              refine lv_lconst (v := 1) hx hb dL_law_873 (by decide) ?_
              refine lv_goto (tgt := 878) hx hb dL_law_874 (by decide) ?_
              exact t_L_law_878 F hr hlocks hK hl0 hQ ih hbc hbs hp hW hE (lv_sub hl [2, 3, 4, 5, 6, 7] rfl) hL_a0 hK_a0 hL_a1 hK_a1 hL_a2 hK_a2 hL_a3 hK_a3 hL_a4 hK_a4
        · replace hp := hp.2 c_122
          refine lv_iconst (v := 0) hx hb dL_law_858 (by decide) ?_
          refine W.widen (k := rC) (n := rS) (Nat.le_trans (Nat.le_add_right _ _) hbc) (Nat.le_trans (Nat.le_add_right _ _) hbs) ?_
          exact hQ hp dL_law_859 hW
      replace hp := hp.2
      by_cases c_126 : x_3 = 13
      · refine lv_tableIn (tgt := 887) (x := x_3) (off := 843) hx hb dL_law_44 (by rw [c_126]; decide) (by rw [c_126]; decide) (by rw [c_126]; decide) (by decide) ?_
        replace hp := hp.1 c_126
        refine lv_aload_n hx hb dL_law_887 rfl (lv_at hl 1 rfl) ?_
        obtain ⟨m_129, z_130, hm_129, hz_130, hp⟩ := hp
        refine w_callI (va_runV (As := []) (rest := []) F (c_X11_writePaper l hL_a1 hK_a1 hp H.size) (cwV (C := RX11) 0 hts (wg_V wm_RL_230 wy_X11_writePaper) rfl rfl rfl (by decide +kernel) ⟨Nat.le_of_ble_eq_true rfl, Nat.le_of_ble_eq_true rfl⟩) (w_preV hK hW hL_a1 hK_a1 (by decide) rfl) rfl rfl hl.1 rfl (lv_room (Nat.le_of_ble_eq_true rfl)) dL_law_888 ⟨by show _ + m_129 ≤ rC; omega, by show _ + z_130 ≤ rS; omega⟩) hW (fun r_127 S_128 H locs hp hW => ?_)
        obtain ⟨hX_S_128, hp⟩ := hp
        refine W.widen (k := _ + m_129) (n := _ + z_130) (Nat.le_refl _) (Nat.le_refl _) ?_
        replace hbc := w_spend hbc (show m_129 ≤ bc by omega)
        replace hbs := w_spend hbs (show z_130 ≤ bs by omega)
        have hE := hE.trans hX_S_128
        have hK_a0 : sK S_128 a0 = 21 := (hX_S_128.2 a0 hL_a0).1.trans hK_a0
        have hL_a0 : wM D S_128 a0 := hX_S_128.M hL_a0
        have hK_a1 : sK S_128 a1 = 16 := (hX_S_128.2 a1 hL_a1).1.trans hK_a1
        have hL_a1 : wM D S_128 a1 := hX_S_128.M hL_a1
        have hK_a2 : sK S_128 a2 = 17 := (hX_S_128.2 a2 hL_a2).1.trans hK_a2
        have hL_a2 : wM D S_128 a2 := hX_S_128.M hL_a2
        have hK_a3 : sK S_128 a3 = 22 := (hX_S_128.2 a3 hL_a3).1.trans hK_a3
        have hL_a3 : wM D S_128 a3 := hX_S_128.M hL_a3
        have hK_a4 : sK S_128 a4 = 25 := (hX_S_128.2 a4 hL_a4).1.trans hK_a4
        have hL_a4 : wM D S_128 a4 := hX_S_128.M hL_a4
        refine lv_aload_n hx hb dL_law_891 rfl (lv_at hl 2 rfl) ?_
        refine w_callI (va_runV (As := []) (rest := [.int r_127]) F (c_X12_writePaper l hL_a2 hK_a2 hp H.size) (cwV (C := RX12) 0 hts (wg_V wm_RL_233 wy_X12_writePaper) rfl rfl rfl (by decide +kernel) ⟨Nat.le_of_ble_eq_true rfl, Nat.le_of_ble_eq_true rfl⟩) (w_preV hK hW hL_a2 hK_a2 (by decide) rfl) rfl rfl hl.1 rfl (lv_room (Nat.le_of_ble_eq_true rfl)) dL_law_892 ⟨by show _ ≤ rC; exact Nat.le_trans (Nat.le_add_right _ _) hbc, by show _ ≤ rS; exact Nat.le_trans (Nat.le_add_right _ _) hbs⟩) hW (fun r_131 S_132 H locs hp hW => ?_)
        obtain ⟨hX_S_132, hp⟩ := hp
        refine w_same ?_
        have hE := hE.trans hX_S_132
        have hK_a0 : sK S_132 a0 = 21 := (hX_S_132.2 a0 hL_a0).1.trans hK_a0
        have hL_a0 : wM D S_132 a0 := hX_S_132.M hL_a0
        have hK_a1 : sK S_132 a1 = 16 := (hX_S_132.2 a1 hL_a1).1.trans hK_a1
        have hL_a1 : wM D S_132 a1 := hX_S_132.M hL_a1
        have hK_a2 : sK S_132 a2 = 17 := (hX_S_132.2 a2 hL_a2).1.trans hK_a2
        have hL_a2 : wM D S_132 a2 := hX_S_132.M hL_a2
        have hK_a3 : sK S_132 a3 = 22 := (hX_S_132.2 a3 hL_a3).1.trans hK_a3
        have hL_a3 : wM D S_132 a3 := hX_S_132.M hL_a3
        have hK_a4 : sK S_132 a4 = 25 := (hX_S_132.2 a4 hL_a4).1.trans hK_a4
        have hL_a4 : wM D S_132 a4 := hX_S_132.M hL_a4
        refine lv_icmp_eq (tgt := 3394) hx hb dL_law_895 (by decide) (fun c_133 => ?_) (fun c_133 => ?_)
        · replace hp := hp.1 c_133
          exact t_L_law_3394 F hr hlocks hK hl0 hQ ih hbc hbs hp hW hE (lv_sub hl [0, 1, 2, 3, 4, 5] rfl) hL_a0 hK_a0 hL_a1 hK_a1 hL_a2 hK_a2 hL_a3 hK_a3 hL_a4 hK_a4
        · replace hp := hp.2 c_133
          refine lv_iconst (v := 0) hx hb dL_law_898 (by decide) ?_
          refine W.widen (k := rC) (n := rS) (Nat.le_trans (Nat.le_add_right _ _) hbc) (Nat.le_trans (Nat.le_add_right _ _) hbs) ?_
          exact hQ hp dL_law_899 hW
      replace hp := hp.2
      by_cases c_134 : x_3 = 14
      · refine lv_tableIn (tgt := 900) (x := x_3) (off := 856) hx hb dL_law_44 (by rw [c_134]; decide) (by rw [c_134]; decide) (by rw [c_134]; decide) (by decide) ?_
        replace hp := hp.1 c_134
        refine lv_aload_n hx hb dL_law_900 rfl (lv_at hl 1 rfl) ?_
        refine lv_aload_n hx hb dL_law_901 rfl (lv_at hl 0 rfl) ?_
        refine lv_iload hx hb dL_law_902 (lv_at hl 5 rfl) ?_
        refine lv_iconst (v := 1) hx hb dL_law_904 (by decide) ?_
        refine lv_iadd hx hb dL_law_905 ?_
        obtain ⟨h_135, hp⟩ := hp
        refine w_ild F hK hW hL_a0 hK_a0 h_135 dL_law_906 ?_
        refine lv_aload_n hx hb dL_law_907 rfl (lv_at hl 3 rfl) ?_
        obtain ⟨h_138, h_138z, hp⟩ := hp
        refine x_callI (vx_runSX (As := [.ref a1, .int (sI S a0 ((x5 + (1 : Int32))).toNatClampNeg), .ref a3]) (rest := []) F (c_L_outputByte l hl0 hL_a1 hK_a1 hL_a3 hK_a3 hp H.size) (vx_cwSW 3 hts (wg_S wm_RL_234 wy_L_outputByte) rfl rfl rfl ⟨by decide, by decide, by decide +kernel⟩ ⟨Nat.le_of_ble_eq_true rfl, Nat.le_of_ble_eq_true rfl⟩) (w_preS hK hW) rfl rfl hl.1 rfl (lv_room (Nat.le_of_ble_eq_true rfl)) dL_law_908 ⟨by show _ + 1 ≤ rC; omega, by show _ + 6 ≤ rS; omega⟩) hW (fun E ce q9 S9 H locs hp hW h1 h2 h3 => hp.elim) (fun r_136 S_137 H locs hp hW => ?_)
        obtain ⟨hX_S_137, hp⟩ := hp
        refine W.widen (k := _ + 1) (n := _ + 6) (Nat.le_refl _) (Nat.le_refl _) ?_
        replace hbc := w_spend hbc (show 1 ≤ bc by omega)
        replace hbs := w_spend hbs (show 6 ≤ bs by omega)
        have hE := hE.trans hX_S_137
        have hK_a0 : sK S_137 a0 = 21 := (hX_S_137.2 a0 hL_a0).1.trans hK_a0
        have hL_a0 : wM D S_137 a0 := hX_S_137.M hL_a0
        have hK_a1 : sK S_137 a1 = 16 := (hX_S_137.2 a1 hL_a1).1.trans hK_a1
        have hL_a1 : wM D S_137 a1 := hX_S_137.M hL_a1
        have hK_a2 : sK S_137 a2 = 17 := (hX_S_137.2 a2 hL_a2).1.trans hK_a2
        have hL_a2 : wM D S_137 a2 := hX_S_137.M hL_a2
        have hK_a3 : sK S_137 a3 = 22 := (hX_S_137.2 a3 hL_a3).1.trans hK_a3
        have hL_a3 : wM D S_137 a3 := hX_S_137.M hL_a3
        have hK_a4 : sK S_137 a4 = 25 := (hX_S_137.2 a4 hL_a4).1.trans hK_a4
        have hL_a4 : wM D S_137 a4 := hX_S_137.M hL_a4
        refine lv_istore (lv' := [(6, .int r_136), (0, .ref a0), (1, .ref a1), (2, .ref a2), (3, .ref a3), (4, .ref a4), (5, .int x5)]) hx hb dL_law_911 hl (by decide) rfl (fun ls hl => ?_)
        refine lv_aload_n hx hb dL_law_913 rfl (lv_at hl 3 rfl) ?_
        refine lv_aload_n hx hb dL_law_914 rfl (lv_at hl 1 rfl) ?_
        refine lv_iload hx hb dL_law_915 (lv_at hl 6 rfl) ?_
        refine lv_iconst (v := 1) hx hb dL_law_917 (by decide) ?_
        refine lv_iadd hx hb dL_law_918 ?_
        obtain ⟨h_139, hp⟩ := hp
        refine w_ild F hK hW hL_a0 hK_a0 h_139 dL_law_919 ?_
        refine w_callI (va_runV (As := [.int (sI S_137 a0 ((x5 + (1 : Int32))).toNatClampNeg)]) (rest := []) F (c_X12_outputByte l hL_a2 hK_a2 hp H.size) (cwV (C := RX12) 1 hts (wg_V wm_RL_236 wy_X12_outputByte) rfl rfl rfl (by decide +kernel) ⟨Nat.le_of_ble_eq_true rfl, Nat.le_of_ble_eq_true rfl⟩) (w_preV hK hW hL_a2 hK_a2 (by decide) rfl) rfl rfl hl.1 rfl (lv_room (Nat.le_of_ble_eq_true rfl)) dL_law_920 ⟨by show _ ≤ rC; exact Nat.le_trans (Nat.le_add_right _ _) hbc, by show _ ≤ rS; exact Nat.le_trans (Nat.le_add_right _ _) hbs⟩) hW (fun r_140 S_141 H locs hp hW => ?_)
        obtain ⟨hX_S_141, hp⟩ := hp
        refine w_same ?_
        have hE := hE.trans hX_S_141
        have hK_a0 : sK S_141 a0 = 21 := (hX_S_141.2 a0 hL_a0).1.trans hK_a0
        have hL_a0 : wM D S_141 a0 := hX_S_141.M hL_a0
        have hK_a1 : sK S_141 a1 = 16 := (hX_S_141.2 a1 hL_a1).1.trans hK_a1
        have hL_a1 : wM D S_141 a1 := hX_S_141.M hL_a1
        have hK_a2 : sK S_141 a2 = 17 := (hX_S_141.2 a2 hL_a2).1.trans hK_a2
        have hL_a2 : wM D S_141 a2 := hX_S_141.M hL_a2
        have hK_a3 : sK S_141 a3 = 22 := (hX_S_141.2 a3 hL_a3).1.trans hK_a3
        have hL_a3 : wM D S_141 a3 := hX_S_141.M hL_a3
        have hK_a4 : sK S_141 a4 = 25 := (hX_S_141.2 a4 hL_a4).1.trans hK_a4
        have hL_a4 : wM D S_141 a4 := hX_S_141.M hL_a4
        refine lv_istore (lv' := [(7, .int r_140), (6, .int r_136), (0, .ref a0), (1, .ref a1), (2, .ref a2), (3, .ref a3), (4, .ref a4), (5, .int x5)]) hx hb dL_law_923 hl (by decide) rfl (fun ls hl => ?_)
        refine lv_aload_n hx hb dL_law_925 rfl (lv_at hl 4 rfl) ?_
        refine w_callI (va_runV (As := []) (rest := []) F (c_X12_thrown l hL_a2 hK_a2 hp H.size) (cwV (C := RX12) 0 hts (wg_V wm_RL_181 wy_X12_thrown) rfl rfl rfl (by decide +kernel) ⟨Nat.le_of_ble_eq_true rfl, Nat.le_of_ble_eq_true rfl⟩) (w_preV hK hW hL_a2 hK_a2 (by decide) rfl) rfl rfl hl.1 rfl (lv_room (Nat.le_of_ble_eq_true rfl)) dL_law_926 ⟨by show _ ≤ rC; exact Nat.le_trans (Nat.le_add_right _ _) hbc, by show _ ≤ rS; exact Nat.le_trans (Nat.le_add_right _ _) hbs⟩) hW (fun r_142 S_143 H locs hp hW => ?_)
        obtain ⟨hX_S_143, hp⟩ := hp
        refine w_same ?_
        have hE := hE.trans hX_S_143
        have hK_a0 : sK S_143 a0 = 21 := (hX_S_143.2 a0 hL_a0).1.trans hK_a0
        have hL_a0 : wM D S_143 a0 := hX_S_143.M hL_a0
        have hK_a1 : sK S_143 a1 = 16 := (hX_S_143.2 a1 hL_a1).1.trans hK_a1
        have hL_a1 : wM D S_143 a1 := hX_S_143.M hL_a1
        have hK_a2 : sK S_143 a2 = 17 := (hX_S_143.2 a2 hL_a2).1.trans hK_a2
        have hL_a2 : wM D S_143 a2 := hX_S_143.M hL_a2
        have hK_a3 : sK S_143 a3 = 22 := (hX_S_143.2 a3 hL_a3).1.trans hK_a3
        have hL_a3 : wM D S_143 a3 := hX_S_143.M hL_a3
        have hK_a4 : sK S_143 a4 = 25 := (hX_S_143.2 a4 hL_a4).1.trans hK_a4
        have hL_a4 : wM D S_143 a4 := hX_S_143.M hL_a4
        refine lv_iload hx hb dL_law_929 (lv_at hl 1 rfl) ?_
        refine lv_icmp_eq (tgt := 936) hx hb dL_law_931 (by decide) (fun c_144 => ?_) (fun c_144 => ?_)
        · replace hp := hp.1 c_144
          refine lv_iload hx hb dL_law_936 (lv_at hl 1 rfl) ?_
          refine lv_if_ne (tgt := 953) hx hb dL_law_938 (by decide) (fun c_145 => ?_) (fun c_145 => ?_)
          · replace hp := hp.1 c_145
            exact t_L_law_953 F hr hlocks hK hl0 hQ ih hbc hbs hp hW hE (lv_sub hl [2, 3, 4, 5, 6, 7] rfl) hL_a0 hK_a0 hL_a1 hK_a1 hL_a2 hK_a2 hL_a3 hK_a3 hL_a4 hK_a4
          · replace hp := hp.2 c_145
            refine lv_aload_n hx hb dL_law_941 rfl (lv_at hl 5 rfl) ?_
            refine lv_iconst (v := 0) hx hb dL_law_942 (by decide) ?_
            obtain ⟨h_146, hp⟩ := hp
            refine w_lld F hK hW hL_a3 hK_a3 h_146 dL_law_943 ?_
            refine lv_iload hx hb dL_law_944 (lv_at hl 0 rfl) ?_
            refine lv_i2l (v := (Int32.toInt64 r_140)) hx hb dL_law_946 rfl ?_
            refine W.lcmp hx hb dL_law_947 ?_
            refine lv_if_eq (tgt := 953) hx hb dL_law_948 (by decide) (fun c_147 => ?_) (fun c_147 => ?_)
            · replace hp := hp.1 c_147
              exact t_L_law_953 F hr hlocks hK hl0 hQ ih hbc hbs hp hW hE (lv_sub hl [2, 3, 4, 5, 6, 7] rfl) hL_a0 hK_a0 hL_a1 hK_a1 hL_a2 hK_a2 hL_a3 hK_a3 hL_a4 hK_a4
            · replace hp := hp.2 c_147
              refine lv_iconst (v := 0) hx hb dL_law_951 (by decide) ?_
              refine W.widen (k := rC) (n := rS) (Nat.le_trans (Nat.le_add_right _ _) hbc) (Nat.le_trans (Nat.le_add_right _ _) hbs) ?_
              exact hQ hp dL_law_952 hW
        · replace hp := hp.2 c_144
          refine lv_iconst (v := 0) hx hb dL_law_934 (by decide) ?_
          refine W.widen (k := rC) (n := rS) (Nat.le_trans (Nat.le_add_right _ _) hbc) (Nat.le_trans (Nat.le_add_right _ _) hbs) ?_
          exact hQ hp dL_law_935 hW
      replace hp := hp.2
      by_cases c_148 : x_3 = 15
      · refine lv_tableIn (tgt := 956) (x := x_3) (off := 912) hx hb dL_law_44 (by rw [c_148]; decide) (by rw [c_148]; decide) (by rw [c_148]; decide) (by decide) ?_
        replace hp := hp.1 c_148
        refine lv_aload_n hx hb dL_law_956 rfl (lv_at hl 1 rfl) ?_
        refine lv_aload_n hx hb dL_law_957 rfl (lv_at hl 0 rfl) ?_
        refine lv_iload hx hb dL_law_958 (lv_at hl 5 rfl) ?_
        refine lv_iconst (v := 1) hx hb dL_law_960 (by decide) ?_
        refine lv_iadd hx hb dL_law_961 ?_
        obtain ⟨h_149, hp⟩ := hp
        refine w_ild F hK hW hL_a0 hK_a0 h_149 dL_law_962 ?_
        refine lv_if_eq (tgt := 970) hx hb dL_law_963 (by decide) (fun c_150 => ?_) (fun c_150 => ?_)
        · replace hp := hp.1 c_150
          refine lv_iconst (v := 0) hx hb dL_law_970 (by decide) ?_
          exact t_L_law_971 F hr hlocks hK hl0 hQ ih hbc hbs hp hW hE (lv_sub hl [0, 1, 2, 3, 4, 5] rfl) hL_a0 hK_a0 hL_a1 hK_a1 hL_a2 hK_a2 hL_a3 hK_a3 hL_a4 hK_a4 hL_a1 hK_a1
        · replace hp := hp.2 c_150
          refine lv_iconst (v := 1) hx hb dL_law_966 (by decide) ?_
          refine lv_goto (tgt := 971) hx hb dL_law_967 (by decide) ?_
          exact t_L_law_971 F hr hlocks hK hl0 hQ ih hbc hbs hp hW hE (lv_sub hl [0, 1, 2, 3, 4, 5] rfl) hL_a0 hK_a0 hL_a1 hK_a1 hL_a2 hK_a2 hL_a3 hK_a3 hL_a4 hK_a4 hL_a1 hK_a1
      replace hp := hp.2
      by_cases c_151 : x_3 = 16
      · refine lv_tableIn (tgt := 997) (x := x_3) (off := 953) hx hb dL_law_44 (by rw [c_151]; decide) (by rw [c_151]; decide) (by rw [c_151]; decide) (by decide) ?_
        replace hp := hp.1 c_151
        refine lv_aload_n hx hb dL_law_997 rfl (lv_at hl 1 rfl) ?_
        refine lv_aload_n hx hb dL_law_998 rfl (lv_at hl 0 rfl) ?_
        refine lv_iload hx hb dL_law_999 (lv_at hl 5 rfl) ?_
        refine lv_iconst (v := 1) hx hb dL_law_1001 (by decide) ?_
        refine lv_iadd hx hb dL_law_1002 ?_
        obtain ⟨h_152, hp⟩ := hp
        refine w_ild F hK hW hL_a0 hK_a0 h_152 dL_law_1003 ?_
        refine lv_aload_n hx hb dL_law_1004 rfl (lv_at hl 3 rfl) ?_
        obtain ⟨h_155, h_155z, hp⟩ := hp
        refine x_callI (vx_runSX (As := [.ref a1, .int (sI S a0 ((x5 + (1 : Int32))).toNatClampNeg), .ref a3]) (rest := []) F (c_L_isOpenFile l hl0 hL_a1 hK_a1 hL_a3 hK_a3 hp H.size) (vx_cwSW 3 hts (wg_S wm_RL_241 wy_L_isOpenFile) rfl rfl rfl ⟨by decide, by decide, by decide +kernel⟩ ⟨Nat.le_of_ble_eq_true rfl, Nat.le_of_ble_eq_true rfl⟩) (w_preS hK hW) rfl rfl hl.1 rfl (lv_room (Nat.le_of_ble_eq_true rfl)) dL_law_1005 ⟨by show _ + 1 ≤ rC; omega, by show _ + 6 ≤ rS; omega⟩) hW (fun E ce q9 S9 H locs hp hW h1 h2 h3 => hp.elim) (fun r_153 S_154 H locs hp hW => ?_)
        obtain ⟨hX_S_154, hp⟩ := hp
        refine W.widen (k := _ + 1) (n := _ + 6) (Nat.le_refl _) (Nat.le_refl _) ?_
        replace hbc := w_spend hbc (show 1 ≤ bc by omega)
        replace hbs := w_spend hbs (show 6 ≤ bs by omega)
        have hE := hE.trans hX_S_154
        have hK_a0 : sK S_154 a0 = 21 := (hX_S_154.2 a0 hL_a0).1.trans hK_a0
        have hL_a0 : wM D S_154 a0 := hX_S_154.M hL_a0
        have hK_a1 : sK S_154 a1 = 16 := (hX_S_154.2 a1 hL_a1).1.trans hK_a1
        have hL_a1 : wM D S_154 a1 := hX_S_154.M hL_a1
        have hK_a2 : sK S_154 a2 = 17 := (hX_S_154.2 a2 hL_a2).1.trans hK_a2
        have hL_a2 : wM D S_154 a2 := hX_S_154.M hL_a2
        have hK_a3 : sK S_154 a3 = 22 := (hX_S_154.2 a3 hL_a3).1.trans hK_a3
        have hL_a3 : wM D S_154 a3 := hX_S_154.M hL_a3
        have hK_a4 : sK S_154 a4 = 25 := (hX_S_154.2 a4 hL_a4).1.trans hK_a4
        have hL_a4 : wM D S_154 a4 := hX_S_154.M hL_a4
        refine lv_istore (lv' := [(6, .int r_153), (0, .ref a0), (1, .ref a1), (2, .ref a2), (3, .ref a3), (4, .ref a4), (5, .int x5)]) hx hb dL_law_1008 hl (by decide) rfl (fun ls hl => ?_)
        refine lv_aload_n hx hb dL_law_1010 rfl (lv_at hl 3 rfl) ?_
        refine lv_aload_n hx hb dL_law_1011 rfl (lv_at hl 1 rfl) ?_
        refine lv_iload hx hb dL_law_1012 (lv_at hl 6 rfl) ?_
        refine lv_iconst (v := 1) hx hb dL_law_1014 (by decide) ?_
        refine lv_iadd hx hb dL_law_1015 ?_
        obtain ⟨h_156, hp⟩ := hp
        refine w_ild F hK hW hL_a0 hK_a0 h_156 dL_law_1016 ?_
        refine w_callI (va_runV (As := [.int (sI S_154 a0 ((x5 + (1 : Int32))).toNatClampNeg)]) (rest := []) F (c_X12_isOpenFile l hL_a2 hK_a2 hp H.size) (cwV (C := RX12) 1 hts (wg_V wm_RL_243 wy_X12_isOpenFile) rfl rfl rfl (by decide +kernel) ⟨Nat.le_of_ble_eq_true rfl, Nat.le_of_ble_eq_true rfl⟩) (w_preV hK hW hL_a2 hK_a2 (by decide) rfl) rfl rfl hl.1 rfl (lv_room (Nat.le_of_ble_eq_true rfl)) dL_law_1017 ⟨by show _ ≤ rC; exact Nat.le_trans (Nat.le_add_right _ _) hbc, by show _ ≤ rS; exact Nat.le_trans (Nat.le_add_right _ _) hbs⟩) hW (fun r_157 S_158 H locs hp hW => ?_)
        obtain ⟨hX_S_158, hp⟩ := hp
        refine w_same ?_
        have hE := hE.trans hX_S_158
        have hK_a0 : sK S_158 a0 = 21 := (hX_S_158.2 a0 hL_a0).1.trans hK_a0
        have hL_a0 : wM D S_158 a0 := hX_S_158.M hL_a0
        have hK_a1 : sK S_158 a1 = 16 := (hX_S_158.2 a1 hL_a1).1.trans hK_a1
        have hL_a1 : wM D S_158 a1 := hX_S_158.M hL_a1
        have hK_a2 : sK S_158 a2 = 17 := (hX_S_158.2 a2 hL_a2).1.trans hK_a2
        have hL_a2 : wM D S_158 a2 := hX_S_158.M hL_a2
        have hK_a3 : sK S_158 a3 = 22 := (hX_S_158.2 a3 hL_a3).1.trans hK_a3
        have hL_a3 : wM D S_158 a3 := hX_S_158.M hL_a3
        have hK_a4 : sK S_158 a4 = 25 := (hX_S_158.2 a4 hL_a4).1.trans hK_a4
        have hL_a4 : wM D S_158 a4 := hX_S_158.M hL_a4
        refine lv_istore (lv' := [(7, .int r_157), (6, .int r_153), (0, .ref a0), (1, .ref a1), (2, .ref a2), (3, .ref a3), (4, .ref a4), (5, .int x5)]) hx hb dL_law_1020 hl (by decide) rfl (fun ls hl => ?_)
        refine lv_aload_n hx hb dL_law_1022 rfl (lv_at hl 4 rfl) ?_
        refine w_callI (va_runV (As := []) (rest := []) F (c_X12_thrown l hL_a2 hK_a2 hp H.size) (cwV (C := RX12) 0 hts (wg_V wm_RL_181 wy_X12_thrown) rfl rfl rfl (by decide +kernel) ⟨Nat.le_of_ble_eq_true rfl, Nat.le_of_ble_eq_true rfl⟩) (w_preV hK hW hL_a2 hK_a2 (by decide) rfl) rfl rfl hl.1 rfl (lv_room (Nat.le_of_ble_eq_true rfl)) dL_law_1023 ⟨by show _ ≤ rC; exact Nat.le_trans (Nat.le_add_right _ _) hbc, by show _ ≤ rS; exact Nat.le_trans (Nat.le_add_right _ _) hbs⟩) hW (fun r_159 S_160 H locs hp hW => ?_)
        obtain ⟨hX_S_160, hp⟩ := hp
        refine w_same ?_
        have hE := hE.trans hX_S_160
        have hK_a0 : sK S_160 a0 = 21 := (hX_S_160.2 a0 hL_a0).1.trans hK_a0
        have hL_a0 : wM D S_160 a0 := hX_S_160.M hL_a0
        have hK_a1 : sK S_160 a1 = 16 := (hX_S_160.2 a1 hL_a1).1.trans hK_a1
        have hL_a1 : wM D S_160 a1 := hX_S_160.M hL_a1
        have hK_a2 : sK S_160 a2 = 17 := (hX_S_160.2 a2 hL_a2).1.trans hK_a2
        have hL_a2 : wM D S_160 a2 := hX_S_160.M hL_a2
        have hK_a3 : sK S_160 a3 = 22 := (hX_S_160.2 a3 hL_a3).1.trans hK_a3
        have hL_a3 : wM D S_160 a3 := hX_S_160.M hL_a3
        have hK_a4 : sK S_160 a4 = 25 := (hX_S_160.2 a4 hL_a4).1.trans hK_a4
        have hL_a4 : wM D S_160 a4 := hX_S_160.M hL_a4
        refine lv_iload hx hb dL_law_1026 (lv_at hl 1 rfl) ?_
        refine lv_icmp_eq (tgt := 1033) hx hb dL_law_1028 (by decide) (fun c_161 => ?_) (fun c_161 => ?_)
        · replace hp := hp.1 c_161
          refine lv_iload hx hb dL_law_1033 (lv_at hl 1 rfl) ?_
          refine lv_if_ne (tgt := 1057) hx hb dL_law_1035 (by decide) (fun c_162 => ?_) (fun c_162 => ?_)
          · replace hp := hp.1 c_162
            exact t_L_law_1057 F hr hlocks hK hl0 hQ ih hbc hbs hp hW hE (lv_sub hl [2, 3, 4, 5, 6, 7] rfl) hL_a0 hK_a0 hL_a1 hK_a1 hL_a2 hK_a2 hL_a3 hK_a3 hL_a4 hK_a4
          · replace hp := hp.2 c_162
            refine lv_aload_n hx hb dL_law_1038 rfl (lv_at hl 5 rfl) ?_
            refine lv_iconst (v := 0) hx hb dL_law_1039 (by decide) ?_
            obtain ⟨h_163, hp⟩ := hp
            refine w_lld F hK hW hL_a3 hK_a3 h_163 dL_law_1040 ?_
            refine lv_iload hx hb dL_law_1041 (lv_at hl 0 rfl) ?_
            refine lv_if_eq (tgt := 1050) hx hb dL_law_1043 (by decide) (fun c_164 => ?_) (fun c_164 => ?_)
            · replace hp := hp.1 c_164
              refine lv_lconst (v := 0) hx hb dL_law_1050 (by decide) ?_
              exact t_L_law_1051 F hr hlocks hK hl0 hQ ih hbc hbs hp hW hE (lv_sub hl [2, 3, 4, 5, 6, 7] rfl) hL_a0 hK_a0 hL_a1 hK_a1 hL_a2 hK_a2 hL_a3 hK_a3 hL_a4 hK_a4
            · replace hp := hp.2 c_164
              refine lv_lconst (v := 1) hx hb dL_law_1046 (by decide) ?_
              refine lv_goto (tgt := 1051) hx hb dL_law_1047 (by decide) ?_
              exact t_L_law_1051 F hr hlocks hK hl0 hQ ih hbc hbs hp hW hE (lv_sub hl [2, 3, 4, 5, 6, 7] rfl) hL_a0 hK_a0 hL_a1 hK_a1 hL_a2 hK_a2 hL_a3 hK_a3 hL_a4 hK_a4
        · replace hp := hp.2 c_161
          refine lv_iconst (v := 0) hx hb dL_law_1031 (by decide) ?_
          refine W.widen (k := rC) (n := rS) (Nat.le_trans (Nat.le_add_right _ _) hbc) (Nat.le_trans (Nat.le_add_right _ _) hbs) ?_
          exact hQ hp dL_law_1032 hW
      replace hp := hp.2
      by_cases c_165 : x_3 = 17
      · refine lv_tableIn (tgt := 1060) (x := x_3) (off := 1016) hx hb dL_law_44 (by rw [c_165]; decide) (by rw [c_165]; decide) (by rw [c_165]; decide) (by decide) ?_
        replace hp := hp.1 c_165
        refine lv_aload_n hx hb dL_law_1060 rfl (lv_at hl 1 rfl) ?_
        refine lv_aload_n hx hb dL_law_1061 rfl (lv_at hl 3 rfl) ?_
        obtain ⟨h_168, h_168z, hp⟩ := hp
        refine x_callI (vx_runSX (As := [.ref a1, .ref a3]) (rest := []) F (c_L_moveCount l hl0 hL_a1 hK_a1 hL_a3 hK_a3 hp H.size) (vx_cwSW 2 hts (wg_S wm_RL_244 wy_L_moveCount) rfl rfl rfl ⟨by decide, by decide, by decide +kernel⟩ ⟨Nat.le_of_ble_eq_true rfl, Nat.le_of_ble_eq_true rfl⟩) (w_preS hK hW) rfl rfl hl.1 rfl (lv_room (Nat.le_of_ble_eq_true rfl)) dL_law_1062 ⟨by show _ + 1 ≤ rC; omega, by show _ + 6 ≤ rS; omega⟩) hW (fun E ce q9 S9 H locs hp hW h1 h2 h3 => hp.elim) (fun r_166 S_167 H locs hp hW => ?_)
        obtain ⟨hX_S_167, hp⟩ := hp
        refine W.widen (k := _ + 1) (n := _ + 6) (Nat.le_refl _) (Nat.le_refl _) ?_
        replace hbc := w_spend hbc (show 1 ≤ bc by omega)
        replace hbs := w_spend hbs (show 6 ≤ bs by omega)
        have hE := hE.trans hX_S_167
        have hK_a0 : sK S_167 a0 = 21 := (hX_S_167.2 a0 hL_a0).1.trans hK_a0
        have hL_a0 : wM D S_167 a0 := hX_S_167.M hL_a0
        have hK_a1 : sK S_167 a1 = 16 := (hX_S_167.2 a1 hL_a1).1.trans hK_a1
        have hL_a1 : wM D S_167 a1 := hX_S_167.M hL_a1
        have hK_a2 : sK S_167 a2 = 17 := (hX_S_167.2 a2 hL_a2).1.trans hK_a2
        have hL_a2 : wM D S_167 a2 := hX_S_167.M hL_a2
        have hK_a3 : sK S_167 a3 = 22 := (hX_S_167.2 a3 hL_a3).1.trans hK_a3
        have hL_a3 : wM D S_167 a3 := hX_S_167.M hL_a3
        have hK_a4 : sK S_167 a4 = 25 := (hX_S_167.2 a4 hL_a4).1.trans hK_a4
        have hL_a4 : wM D S_167 a4 := hX_S_167.M hL_a4
        refine lv_istore (lv' := [(6, .int r_166), (0, .ref a0), (1, .ref a1), (2, .ref a2), (3, .ref a3), (4, .ref a4), (5, .int x5)]) hx hb dL_law_1065 hl (by decide) rfl (fun ls hl => ?_)
        refine lv_aload_n hx hb dL_law_1067 rfl (lv_at hl 3 rfl) ?_
        refine w_callI (va_runV (As := []) (rest := []) F (c_X12_moveCount l hL_a2 hK_a2 hp H.size) (cwV (C := RX12) 0 hts (wg_V wm_RL_246 wy_X12_moveCount) rfl rfl rfl (by decide +kernel) ⟨Nat.le_of_ble_eq_true rfl, Nat.le_of_ble_eq_true rfl⟩) (w_preV hK hW hL_a2 hK_a2 (by decide) rfl) rfl rfl hl.1 rfl (lv_room (Nat.le_of_ble_eq_true rfl)) dL_law_1068 ⟨by show _ ≤ rC; exact Nat.le_trans (Nat.le_add_right _ _) hbc, by show _ ≤ rS; exact Nat.le_trans (Nat.le_add_right _ _) hbs⟩) hW (fun r_169 S_170 H locs hp hW => ?_)
        obtain ⟨hX_S_170, hp⟩ := hp
        refine w_same ?_
        have hE := hE.trans hX_S_170
        have hK_a0 : sK S_170 a0 = 21 := (hX_S_170.2 a0 hL_a0).1.trans hK_a0
        have hL_a0 : wM D S_170 a0 := hX_S_170.M hL_a0
        have hK_a1 : sK S_170 a1 = 16 := (hX_S_170.2 a1 hL_a1).1.trans hK_a1
        have hL_a1 : wM D S_170 a1 := hX_S_170.M hL_a1
        have hK_a2 : sK S_170 a2 = 17 := (hX_S_170.2 a2 hL_a2).1.trans hK_a2
        have hL_a2 : wM D S_170 a2 := hX_S_170.M hL_a2
        have hK_a3 : sK S_170 a3 = 22 := (hX_S_170.2 a3 hL_a3).1.trans hK_a3
        have hL_a3 : wM D S_170 a3 := hX_S_170.M hL_a3
        have hK_a4 : sK S_170 a4 = 25 := (hX_S_170.2 a4 hL_a4).1.trans hK_a4
        have hL_a4 : wM D S_170 a4 := hX_S_170.M hL_a4
        refine lv_istore (lv' := [(7, .int r_169), (6, .int r_166), (0, .ref a0), (1, .ref a1), (2, .ref a2), (3, .ref a3), (4, .ref a4), (5, .int x5)]) hx hb dL_law_1071 hl (by decide) rfl (fun ls hl => ?_)
        refine lv_aload_n hx hb dL_law_1073 rfl (lv_at hl 4 rfl) ?_
        refine w_callI (va_runV (As := []) (rest := []) F (c_X12_thrown l hL_a2 hK_a2 hp H.size) (cwV (C := RX12) 0 hts (wg_V wm_RL_181 wy_X12_thrown) rfl rfl rfl (by decide +kernel) ⟨Nat.le_of_ble_eq_true rfl, Nat.le_of_ble_eq_true rfl⟩) (w_preV hK hW hL_a2 hK_a2 (by decide) rfl) rfl rfl hl.1 rfl (lv_room (Nat.le_of_ble_eq_true rfl)) dL_law_1074 ⟨by show _ ≤ rC; exact Nat.le_trans (Nat.le_add_right _ _) hbc, by show _ ≤ rS; exact Nat.le_trans (Nat.le_add_right _ _) hbs⟩) hW (fun r_171 S_172 H locs hp hW => ?_)
        obtain ⟨hX_S_172, hp⟩ := hp
        refine w_same ?_
        have hE := hE.trans hX_S_172
        have hK_a0 : sK S_172 a0 = 21 := (hX_S_172.2 a0 hL_a0).1.trans hK_a0
        have hL_a0 : wM D S_172 a0 := hX_S_172.M hL_a0
        have hK_a1 : sK S_172 a1 = 16 := (hX_S_172.2 a1 hL_a1).1.trans hK_a1
        have hL_a1 : wM D S_172 a1 := hX_S_172.M hL_a1
        have hK_a2 : sK S_172 a2 = 17 := (hX_S_172.2 a2 hL_a2).1.trans hK_a2
        have hL_a2 : wM D S_172 a2 := hX_S_172.M hL_a2
        have hK_a3 : sK S_172 a3 = 22 := (hX_S_172.2 a3 hL_a3).1.trans hK_a3
        have hL_a3 : wM D S_172 a3 := hX_S_172.M hL_a3
        have hK_a4 : sK S_172 a4 = 25 := (hX_S_172.2 a4 hL_a4).1.trans hK_a4
        have hL_a4 : wM D S_172 a4 := hX_S_172.M hL_a4
        refine lv_iload hx hb dL_law_1077 (lv_at hl 1 rfl) ?_
        refine lv_icmp_eq (tgt := 1084) hx hb dL_law_1079 (by decide) (fun c_173 => ?_) (fun c_173 => ?_)
        · replace hp := hp.1 c_173
          refine lv_iload hx hb dL_law_1084 (lv_at hl 1 rfl) ?_
          refine lv_if_ne (tgt := 1101) hx hb dL_law_1086 (by decide) (fun c_174 => ?_) (fun c_174 => ?_)
          · replace hp := hp.1 c_174
            exact t_L_law_1101 F hr hlocks hK hl0 hQ ih hbc hbs hp hW hE (lv_sub hl [2, 3, 4, 5, 6, 7] rfl) hL_a0 hK_a0 hL_a1 hK_a1 hL_a2 hK_a2 hL_a3 hK_a3 hL_a4 hK_a4
          · replace hp := hp.2 c_174
            refine lv_aload_n hx hb dL_law_1089 rfl (lv_at hl 5 rfl) ?_
            refine lv_iconst (v := 0) hx hb dL_law_1090 (by decide) ?_
            obtain ⟨h_175, hp⟩ := hp
            refine w_lld F hK hW hL_a3 hK_a3 h_175 dL_law_1091 ?_
            refine lv_iload hx hb dL_law_1092 (lv_at hl 0 rfl) ?_
            refine lv_i2l (v := (Int32.toInt64 r_169)) hx hb dL_law_1094 rfl ?_
            refine W.lcmp hx hb dL_law_1095 ?_
            refine lv_if_eq (tgt := 1101) hx hb dL_law_1096 (by decide) (fun c_176 => ?_) (fun c_176 => ?_)
            · replace hp := hp.1 c_176
              exact t_L_law_1101 F hr hlocks hK hl0 hQ ih hbc hbs hp hW hE (lv_sub hl [2, 3, 4, 5, 6, 7] rfl) hL_a0 hK_a0 hL_a1 hK_a1 hL_a2 hK_a2 hL_a3 hK_a3 hL_a4 hK_a4
            · replace hp := hp.2 c_176
              refine lv_iconst (v := 0) hx hb dL_law_1099 (by decide) ?_
              refine W.widen (k := rC) (n := rS) (Nat.le_trans (Nat.le_add_right _ _) hbc) (Nat.le_trans (Nat.le_add_right _ _) hbs) ?_
              exact hQ hp dL_law_1100 hW
        · replace hp := hp.2 c_173
          refine lv_iconst (v := 0) hx hb dL_law_1082 (by decide) ?_
          refine W.widen (k := rC) (n := rS) (Nat.le_trans (Nat.le_add_right _ _) hbc) (Nat.le_trans (Nat.le_add_right _ _) hbs) ?_
          exact hQ hp dL_law_1083 hW
      replace hp := hp.2
      by_cases c_177 : x_3 = 18
      · refine lv_tableIn (tgt := 1104) (x := x_3) (off := 1060) hx hb dL_law_44 (by rw [c_177]; decide) (by rw [c_177]; decide) (by rw [c_177]; decide) (by decide) ?_
        replace hp := hp.1 c_177
        refine lv_aload_n hx hb dL_law_1104 rfl (lv_at hl 1 rfl) ?_
        refine lv_aload_n hx hb dL_law_1105 rfl (lv_at hl 0 rfl) ?_
        refine lv_iload hx hb dL_law_1106 (lv_at hl 5 rfl) ?_
        refine lv_iconst (v := 1) hx hb dL_law_1108 (by decide) ?_
        refine lv_iadd hx hb dL_law_1109 ?_
        obtain ⟨h_178, hp⟩ := hp
        refine w_ild F hK hW hL_a0 hK_a0 h_178 dL_law_1110 ?_
        refine lv_aload_n hx hb dL_law_1111 rfl (lv_at hl 3 rfl) ?_
        obtain ⟨h_181, h_181z, hp⟩ := hp
        refine x_callI (vx_runSX (As := [.ref a1, .int (sI S a0 ((x5 + (1 : Int32))).toNatClampNeg), .ref a3]) (rest := []) F (c_L_moveFrom l hl0 hL_a1 hK_a1 hL_a3 hK_a3 hp H.size) (vx_cwSW 3 hts (wg_S wm_RL_247 wy_L_moveFrom) rfl rfl rfl ⟨by decide, by decide, by decide +kernel⟩ ⟨Nat.le_of_ble_eq_true rfl, Nat.le_of_ble_eq_true rfl⟩) (w_preS hK hW) rfl rfl hl.1 rfl (lv_room (Nat.le_of_ble_eq_true rfl)) dL_law_1112 ⟨by show _ + 2 ≤ rC; omega, by show _ + 12 ≤ rS; omega⟩) hW (fun E ce q9 S9 H locs hp hW h1 h2 h3 => hp.elim) (fun r_179 S_180 H locs hp hW => ?_)
        obtain ⟨hX_S_180, hp⟩ := hp
        refine W.widen (k := _ + 2) (n := _ + 12) (Nat.le_refl _) (Nat.le_refl _) ?_
        replace hbc := w_spend hbc (show 2 ≤ bc by omega)
        replace hbs := w_spend hbs (show 12 ≤ bs by omega)
        have hE := hE.trans hX_S_180
        have hK_a0 : sK S_180 a0 = 21 := (hX_S_180.2 a0 hL_a0).1.trans hK_a0
        have hL_a0 : wM D S_180 a0 := hX_S_180.M hL_a0
        have hK_a1 : sK S_180 a1 = 16 := (hX_S_180.2 a1 hL_a1).1.trans hK_a1
        have hL_a1 : wM D S_180 a1 := hX_S_180.M hL_a1
        have hK_a2 : sK S_180 a2 = 17 := (hX_S_180.2 a2 hL_a2).1.trans hK_a2
        have hL_a2 : wM D S_180 a2 := hX_S_180.M hL_a2
        have hK_a3 : sK S_180 a3 = 22 := (hX_S_180.2 a3 hL_a3).1.trans hK_a3
        have hL_a3 : wM D S_180 a3 := hX_S_180.M hL_a3
        have hK_a4 : sK S_180 a4 = 25 := (hX_S_180.2 a4 hL_a4).1.trans hK_a4
        have hL_a4 : wM D S_180 a4 := hX_S_180.M hL_a4
        refine lv_istore (lv' := [(6, .int r_179), (0, .ref a0), (1, .ref a1), (2, .ref a2), (3, .ref a3), (4, .ref a4), (5, .int x5)]) hx hb dL_law_1115 hl (by decide) rfl (fun ls hl => ?_)
        refine lv_aload_n hx hb dL_law_1117 rfl (lv_at hl 3 rfl) ?_
        refine lv_aload_n hx hb dL_law_1118 rfl (lv_at hl 1 rfl) ?_
        refine lv_iload hx hb dL_law_1119 (lv_at hl 6 rfl) ?_
        refine lv_iconst (v := 1) hx hb dL_law_1121 (by decide) ?_
        refine lv_iadd hx hb dL_law_1122 ?_
        obtain ⟨h_182, hp⟩ := hp
        refine w_ild F hK hW hL_a0 hK_a0 h_182 dL_law_1123 ?_
        refine w_callI (va_runV (As := [.int (sI S_180 a0 ((x5 + (1 : Int32))).toNatClampNeg)]) (rest := []) F (c_X12_moveFrom l hL_a2 hK_a2 hp H.size) (cwV (C := RX12) 1 hts (wg_V wm_RL_249 wy_X12_moveFrom) rfl rfl rfl (by decide +kernel) ⟨Nat.le_of_ble_eq_true rfl, Nat.le_of_ble_eq_true rfl⟩) (w_preV hK hW hL_a2 hK_a2 (by decide) rfl) rfl rfl hl.1 rfl (lv_room (Nat.le_of_ble_eq_true rfl)) dL_law_1124 ⟨by show _ ≤ rC; exact Nat.le_trans (Nat.le_add_right _ _) hbc, by show _ ≤ rS; exact Nat.le_trans (Nat.le_add_right _ _) hbs⟩) hW (fun r_183 S_184 H locs hp hW => ?_)
        obtain ⟨hX_S_184, hp⟩ := hp
        refine w_same ?_
        have hE := hE.trans hX_S_184
        have hK_a0 : sK S_184 a0 = 21 := (hX_S_184.2 a0 hL_a0).1.trans hK_a0
        have hL_a0 : wM D S_184 a0 := hX_S_184.M hL_a0
        have hK_a1 : sK S_184 a1 = 16 := (hX_S_184.2 a1 hL_a1).1.trans hK_a1
        have hL_a1 : wM D S_184 a1 := hX_S_184.M hL_a1
        have hK_a2 : sK S_184 a2 = 17 := (hX_S_184.2 a2 hL_a2).1.trans hK_a2
        have hL_a2 : wM D S_184 a2 := hX_S_184.M hL_a2
        have hK_a3 : sK S_184 a3 = 22 := (hX_S_184.2 a3 hL_a3).1.trans hK_a3
        have hL_a3 : wM D S_184 a3 := hX_S_184.M hL_a3
        have hK_a4 : sK S_184 a4 = 25 := (hX_S_184.2 a4 hL_a4).1.trans hK_a4
        have hL_a4 : wM D S_184 a4 := hX_S_184.M hL_a4
        refine lv_istore (lv' := [(7, .int r_183), (6, .int r_179), (0, .ref a0), (1, .ref a1), (2, .ref a2), (3, .ref a3), (4, .ref a4), (5, .int x5)]) hx hb dL_law_1127 hl (by decide) rfl (fun ls hl => ?_)
        refine lv_aload_n hx hb dL_law_1129 rfl (lv_at hl 4 rfl) ?_
        refine w_callI (va_runV (As := []) (rest := []) F (c_X12_thrown l hL_a2 hK_a2 hp H.size) (cwV (C := RX12) 0 hts (wg_V wm_RL_181 wy_X12_thrown) rfl rfl rfl (by decide +kernel) ⟨Nat.le_of_ble_eq_true rfl, Nat.le_of_ble_eq_true rfl⟩) (w_preV hK hW hL_a2 hK_a2 (by decide) rfl) rfl rfl hl.1 rfl (lv_room (Nat.le_of_ble_eq_true rfl)) dL_law_1130 ⟨by show _ ≤ rC; exact Nat.le_trans (Nat.le_add_right _ _) hbc, by show _ ≤ rS; exact Nat.le_trans (Nat.le_add_right _ _) hbs⟩) hW (fun r_185 S_186 H locs hp hW => ?_)
        obtain ⟨hX_S_186, hp⟩ := hp
        refine w_same ?_
        have hE := hE.trans hX_S_186
        have hK_a0 : sK S_186 a0 = 21 := (hX_S_186.2 a0 hL_a0).1.trans hK_a0
        have hL_a0 : wM D S_186 a0 := hX_S_186.M hL_a0
        have hK_a1 : sK S_186 a1 = 16 := (hX_S_186.2 a1 hL_a1).1.trans hK_a1
        have hL_a1 : wM D S_186 a1 := hX_S_186.M hL_a1
        have hK_a2 : sK S_186 a2 = 17 := (hX_S_186.2 a2 hL_a2).1.trans hK_a2
        have hL_a2 : wM D S_186 a2 := hX_S_186.M hL_a2
        have hK_a3 : sK S_186 a3 = 22 := (hX_S_186.2 a3 hL_a3).1.trans hK_a3
        have hL_a3 : wM D S_186 a3 := hX_S_186.M hL_a3
        have hK_a4 : sK S_186 a4 = 25 := (hX_S_186.2 a4 hL_a4).1.trans hK_a4
        have hL_a4 : wM D S_186 a4 := hX_S_186.M hL_a4
        refine lv_iload hx hb dL_law_1133 (lv_at hl 1 rfl) ?_
        refine lv_icmp_eq (tgt := 1140) hx hb dL_law_1135 (by decide) (fun c_187 => ?_) (fun c_187 => ?_)
        · replace hp := hp.1 c_187
          refine lv_iload hx hb dL_law_1140 (lv_at hl 1 rfl) ?_
          refine lv_if_ne (tgt := 1157) hx hb dL_law_1142 (by decide) (fun c_188 => ?_) (fun c_188 => ?_)
          · replace hp := hp.1 c_188
            exact t_L_law_1157 F hr hlocks hK hl0 hQ ih hbc hbs hp hW hE (lv_sub hl [2, 3, 4, 5, 6, 7] rfl) hL_a0 hK_a0 hL_a1 hK_a1 hL_a2 hK_a2 hL_a3 hK_a3 hL_a4 hK_a4
          · replace hp := hp.2 c_188
            refine lv_aload_n hx hb dL_law_1145 rfl (lv_at hl 5 rfl) ?_
            refine lv_iconst (v := 0) hx hb dL_law_1146 (by decide) ?_
            obtain ⟨h_189, hp⟩ := hp
            refine w_lld F hK hW hL_a3 hK_a3 h_189 dL_law_1147 ?_
            refine lv_iload hx hb dL_law_1148 (lv_at hl 0 rfl) ?_
            refine lv_i2l (v := (Int32.toInt64 r_183)) hx hb dL_law_1150 rfl ?_
            refine W.lcmp hx hb dL_law_1151 ?_
            refine lv_if_eq (tgt := 1157) hx hb dL_law_1152 (by decide) (fun c_190 => ?_) (fun c_190 => ?_)
            · replace hp := hp.1 c_190
              exact t_L_law_1157 F hr hlocks hK hl0 hQ ih hbc hbs hp hW hE (lv_sub hl [2, 3, 4, 5, 6, 7] rfl) hL_a0 hK_a0 hL_a1 hK_a1 hL_a2 hK_a2 hL_a3 hK_a3 hL_a4 hK_a4
            · replace hp := hp.2 c_190
              refine lv_iconst (v := 0) hx hb dL_law_1155 (by decide) ?_
              refine W.widen (k := rC) (n := rS) (Nat.le_trans (Nat.le_add_right _ _) hbc) (Nat.le_trans (Nat.le_add_right _ _) hbs) ?_
              exact hQ hp dL_law_1156 hW
        · replace hp := hp.2 c_187
          refine lv_iconst (v := 0) hx hb dL_law_1138 (by decide) ?_
          refine W.widen (k := rC) (n := rS) (Nat.le_trans (Nat.le_add_right _ _) hbc) (Nat.le_trans (Nat.le_add_right _ _) hbs) ?_
          exact hQ hp dL_law_1139 hW
      replace hp := hp.2
      by_cases c_191 : x_3 = 19
      · refine lv_tableIn (tgt := 1160) (x := x_3) (off := 1116) hx hb dL_law_44 (by rw [c_191]; decide) (by rw [c_191]; decide) (by rw [c_191]; decide) (by decide) ?_
        replace hp := hp.1 c_191
        refine lv_aload_n hx hb dL_law_1160 rfl (lv_at hl 1 rfl) ?_
        refine lv_aload_n hx hb dL_law_1161 rfl (lv_at hl 0 rfl) ?_
        refine lv_iload hx hb dL_law_1162 (lv_at hl 5 rfl) ?_
        refine lv_iconst (v := 1) hx hb dL_law_1164 (by decide) ?_
        refine lv_iadd hx hb dL_law_1165 ?_
        obtain ⟨h_192, hp⟩ := hp
        refine w_ild F hK hW hL_a0 hK_a0 h_192 dL_law_1166 ?_
        refine lv_aload_n hx hb dL_law_1167 rfl (lv_at hl 3 rfl) ?_
        obtain ⟨h_195, h_195z, hp⟩ := hp
        refine x_callI (vx_runSX (As := [.ref a1, .int (sI S a0 ((x5 + (1 : Int32))).toNatClampNeg), .ref a3]) (rest := []) F (c_L_moveTo l hl0 hL_a1 hK_a1 hL_a3 hK_a3 hp H.size) (vx_cwSW 3 hts (wg_S wm_RL_250 wy_L_moveTo) rfl rfl rfl ⟨by decide, by decide, by decide +kernel⟩ ⟨Nat.le_of_ble_eq_true rfl, Nat.le_of_ble_eq_true rfl⟩) (w_preS hK hW) rfl rfl hl.1 rfl (lv_room (Nat.le_of_ble_eq_true rfl)) dL_law_1168 ⟨by show _ + 2 ≤ rC; omega, by show _ + 12 ≤ rS; omega⟩) hW (fun E ce q9 S9 H locs hp hW h1 h2 h3 => hp.elim) (fun r_193 S_194 H locs hp hW => ?_)
        obtain ⟨hX_S_194, hp⟩ := hp
        refine W.widen (k := _ + 2) (n := _ + 12) (Nat.le_refl _) (Nat.le_refl _) ?_
        replace hbc := w_spend hbc (show 2 ≤ bc by omega)
        replace hbs := w_spend hbs (show 12 ≤ bs by omega)
        have hE := hE.trans hX_S_194
        have hK_a0 : sK S_194 a0 = 21 := (hX_S_194.2 a0 hL_a0).1.trans hK_a0
        have hL_a0 : wM D S_194 a0 := hX_S_194.M hL_a0
        have hK_a1 : sK S_194 a1 = 16 := (hX_S_194.2 a1 hL_a1).1.trans hK_a1
        have hL_a1 : wM D S_194 a1 := hX_S_194.M hL_a1
        have hK_a2 : sK S_194 a2 = 17 := (hX_S_194.2 a2 hL_a2).1.trans hK_a2
        have hL_a2 : wM D S_194 a2 := hX_S_194.M hL_a2
        have hK_a3 : sK S_194 a3 = 22 := (hX_S_194.2 a3 hL_a3).1.trans hK_a3
        have hL_a3 : wM D S_194 a3 := hX_S_194.M hL_a3
        have hK_a4 : sK S_194 a4 = 25 := (hX_S_194.2 a4 hL_a4).1.trans hK_a4
        have hL_a4 : wM D S_194 a4 := hX_S_194.M hL_a4
        refine lv_istore (lv' := [(6, .int r_193), (0, .ref a0), (1, .ref a1), (2, .ref a2), (3, .ref a3), (4, .ref a4), (5, .int x5)]) hx hb dL_law_1171 hl (by decide) rfl (fun ls hl => ?_)
        refine lv_aload_n hx hb dL_law_1173 rfl (lv_at hl 3 rfl) ?_
        refine lv_aload_n hx hb dL_law_1174 rfl (lv_at hl 1 rfl) ?_
        refine lv_iload hx hb dL_law_1175 (lv_at hl 6 rfl) ?_
        refine lv_iconst (v := 1) hx hb dL_law_1177 (by decide) ?_
        refine lv_iadd hx hb dL_law_1178 ?_
        obtain ⟨h_196, hp⟩ := hp
        refine w_ild F hK hW hL_a0 hK_a0 h_196 dL_law_1179 ?_
        refine w_callI (va_runV (As := [.int (sI S_194 a0 ((x5 + (1 : Int32))).toNatClampNeg)]) (rest := []) F (c_X12_moveTo l hL_a2 hK_a2 hp H.size) (cwV (C := RX12) 1 hts (wg_V wm_RL_252 wy_X12_moveTo) rfl rfl rfl (by decide +kernel) ⟨Nat.le_of_ble_eq_true rfl, Nat.le_of_ble_eq_true rfl⟩) (w_preV hK hW hL_a2 hK_a2 (by decide) rfl) rfl rfl hl.1 rfl (lv_room (Nat.le_of_ble_eq_true rfl)) dL_law_1180 ⟨by show _ ≤ rC; exact Nat.le_trans (Nat.le_add_right _ _) hbc, by show _ ≤ rS; exact Nat.le_trans (Nat.le_add_right _ _) hbs⟩) hW (fun r_197 S_198 H locs hp hW => ?_)
        obtain ⟨hX_S_198, hp⟩ := hp
        refine w_same ?_
        have hE := hE.trans hX_S_198
        have hK_a0 : sK S_198 a0 = 21 := (hX_S_198.2 a0 hL_a0).1.trans hK_a0
        have hL_a0 : wM D S_198 a0 := hX_S_198.M hL_a0
        have hK_a1 : sK S_198 a1 = 16 := (hX_S_198.2 a1 hL_a1).1.trans hK_a1
        have hL_a1 : wM D S_198 a1 := hX_S_198.M hL_a1
        have hK_a2 : sK S_198 a2 = 17 := (hX_S_198.2 a2 hL_a2).1.trans hK_a2
        have hL_a2 : wM D S_198 a2 := hX_S_198.M hL_a2
        have hK_a3 : sK S_198 a3 = 22 := (hX_S_198.2 a3 hL_a3).1.trans hK_a3
        have hL_a3 : wM D S_198 a3 := hX_S_198.M hL_a3
        have hK_a4 : sK S_198 a4 = 25 := (hX_S_198.2 a4 hL_a4).1.trans hK_a4
        have hL_a4 : wM D S_198 a4 := hX_S_198.M hL_a4
        refine lv_istore (lv' := [(7, .int r_197), (6, .int r_193), (0, .ref a0), (1, .ref a1), (2, .ref a2), (3, .ref a3), (4, .ref a4), (5, .int x5)]) hx hb dL_law_1183 hl (by decide) rfl (fun ls hl => ?_)
        refine lv_aload_n hx hb dL_law_1185 rfl (lv_at hl 4 rfl) ?_
        refine w_callI (va_runV (As := []) (rest := []) F (c_X12_thrown l hL_a2 hK_a2 hp H.size) (cwV (C := RX12) 0 hts (wg_V wm_RL_181 wy_X12_thrown) rfl rfl rfl (by decide +kernel) ⟨Nat.le_of_ble_eq_true rfl, Nat.le_of_ble_eq_true rfl⟩) (w_preV hK hW hL_a2 hK_a2 (by decide) rfl) rfl rfl hl.1 rfl (lv_room (Nat.le_of_ble_eq_true rfl)) dL_law_1186 ⟨by show _ ≤ rC; exact Nat.le_trans (Nat.le_add_right _ _) hbc, by show _ ≤ rS; exact Nat.le_trans (Nat.le_add_right _ _) hbs⟩) hW (fun r_199 S_200 H locs hp hW => ?_)
        obtain ⟨hX_S_200, hp⟩ := hp
        refine w_same ?_
        have hE := hE.trans hX_S_200
        have hK_a0 : sK S_200 a0 = 21 := (hX_S_200.2 a0 hL_a0).1.trans hK_a0
        have hL_a0 : wM D S_200 a0 := hX_S_200.M hL_a0
        have hK_a1 : sK S_200 a1 = 16 := (hX_S_200.2 a1 hL_a1).1.trans hK_a1
        have hL_a1 : wM D S_200 a1 := hX_S_200.M hL_a1
        have hK_a2 : sK S_200 a2 = 17 := (hX_S_200.2 a2 hL_a2).1.trans hK_a2
        have hL_a2 : wM D S_200 a2 := hX_S_200.M hL_a2
        have hK_a3 : sK S_200 a3 = 22 := (hX_S_200.2 a3 hL_a3).1.trans hK_a3
        have hL_a3 : wM D S_200 a3 := hX_S_200.M hL_a3
        have hK_a4 : sK S_200 a4 = 25 := (hX_S_200.2 a4 hL_a4).1.trans hK_a4
        have hL_a4 : wM D S_200 a4 := hX_S_200.M hL_a4
        refine lv_iload hx hb dL_law_1189 (lv_at hl 1 rfl) ?_
        refine lv_icmp_eq (tgt := 1196) hx hb dL_law_1191 (by decide) (fun c_201 => ?_) (fun c_201 => ?_)
        · replace hp := hp.1 c_201
          refine lv_iload hx hb dL_law_1196 (lv_at hl 1 rfl) ?_
          refine lv_if_ne (tgt := 1213) hx hb dL_law_1198 (by decide) (fun c_202 => ?_) (fun c_202 => ?_)
          · replace hp := hp.1 c_202
            exact t_L_law_1213 F hr hlocks hK hl0 hQ ih hbc hbs hp hW hE (lv_sub hl [2, 3, 4, 5, 6, 7] rfl) hL_a0 hK_a0 hL_a1 hK_a1 hL_a2 hK_a2 hL_a3 hK_a3 hL_a4 hK_a4
          · replace hp := hp.2 c_202
            refine lv_aload_n hx hb dL_law_1201 rfl (lv_at hl 5 rfl) ?_
            refine lv_iconst (v := 0) hx hb dL_law_1202 (by decide) ?_
            obtain ⟨h_203, hp⟩ := hp
            refine w_lld F hK hW hL_a3 hK_a3 h_203 dL_law_1203 ?_
            refine lv_iload hx hb dL_law_1204 (lv_at hl 0 rfl) ?_
            refine lv_i2l (v := (Int32.toInt64 r_197)) hx hb dL_law_1206 rfl ?_
            refine W.lcmp hx hb dL_law_1207 ?_
            refine lv_if_eq (tgt := 1213) hx hb dL_law_1208 (by decide) (fun c_204 => ?_) (fun c_204 => ?_)
            · replace hp := hp.1 c_204
              exact t_L_law_1213 F hr hlocks hK hl0 hQ ih hbc hbs hp hW hE (lv_sub hl [2, 3, 4, 5, 6, 7] rfl) hL_a0 hK_a0 hL_a1 hK_a1 hL_a2 hK_a2 hL_a3 hK_a3 hL_a4 hK_a4
            · replace hp := hp.2 c_204
              refine lv_iconst (v := 0) hx hb dL_law_1211 (by decide) ?_
              refine W.widen (k := rC) (n := rS) (Nat.le_trans (Nat.le_add_right _ _) hbc) (Nat.le_trans (Nat.le_add_right _ _) hbs) ?_
              exact hQ hp dL_law_1212 hW
        · replace hp := hp.2 c_201
          refine lv_iconst (v := 0) hx hb dL_law_1194 (by decide) ?_
          refine W.widen (k := rC) (n := rS) (Nat.le_trans (Nat.le_add_right _ _) hbc) (Nat.le_trans (Nat.le_add_right _ _) hbs) ?_
          exact hQ hp dL_law_1195 hW
      replace hp := hp.2
      by_cases c_205 : x_3 = 20
      · refine lv_tableIn (tgt := 1216) (x := x_3) (off := 1172) hx hb dL_law_44 (by rw [c_205]; decide) (by rw [c_205]; decide) (by rw [c_205]; decide) (by decide) ?_
        replace hp := hp.1 c_205
        refine lv_aload_n hx hb dL_law_1216 rfl (lv_at hl 1 rfl) ?_
        refine lv_aload_n hx hb dL_law_1217 rfl (lv_at hl 0 rfl) ?_
        refine lv_iload hx hb dL_law_1218 (lv_at hl 5 rfl) ?_
        refine lv_iconst (v := 1) hx hb dL_law_1220 (by decide) ?_
        refine lv_iadd hx hb dL_law_1221 ?_
        obtain ⟨h_206, hp⟩ := hp
        refine w_ild F hK hW hL_a0 hK_a0 h_206 dL_law_1222 ?_
        refine lv_aload_n hx hb dL_law_1223 rfl (lv_at hl 3 rfl) ?_
        obtain ⟨h_209, h_209z, hp⟩ := hp
        refine x_callI (vx_runSX (As := [.ref a1, .int (sI S a0 ((x5 + (1 : Int32))).toNatClampNeg), .ref a3]) (rest := []) F (c_L_moveBecomes l hl0 hL_a1 hK_a1 hL_a3 hK_a3 hp H.size) (vx_cwSW 3 hts (wg_S wm_RL_253 wy_L_moveBecomes) rfl rfl rfl ⟨by decide, by decide, by decide +kernel⟩ ⟨Nat.le_of_ble_eq_true rfl, Nat.le_of_ble_eq_true rfl⟩) (w_preS hK hW) rfl rfl hl.1 rfl (lv_room (Nat.le_of_ble_eq_true rfl)) dL_law_1224 ⟨by show _ + 2 ≤ rC; omega, by show _ + 12 ≤ rS; omega⟩) hW (fun E ce q9 S9 H locs hp hW h1 h2 h3 => hp.elim) (fun r_207 S_208 H locs hp hW => ?_)
        obtain ⟨hX_S_208, hp⟩ := hp
        refine W.widen (k := _ + 2) (n := _ + 12) (Nat.le_refl _) (Nat.le_refl _) ?_
        replace hbc := w_spend hbc (show 2 ≤ bc by omega)
        replace hbs := w_spend hbs (show 12 ≤ bs by omega)
        have hE := hE.trans hX_S_208
        have hK_a0 : sK S_208 a0 = 21 := (hX_S_208.2 a0 hL_a0).1.trans hK_a0
        have hL_a0 : wM D S_208 a0 := hX_S_208.M hL_a0
        have hK_a1 : sK S_208 a1 = 16 := (hX_S_208.2 a1 hL_a1).1.trans hK_a1
        have hL_a1 : wM D S_208 a1 := hX_S_208.M hL_a1
        have hK_a2 : sK S_208 a2 = 17 := (hX_S_208.2 a2 hL_a2).1.trans hK_a2
        have hL_a2 : wM D S_208 a2 := hX_S_208.M hL_a2
        have hK_a3 : sK S_208 a3 = 22 := (hX_S_208.2 a3 hL_a3).1.trans hK_a3
        have hL_a3 : wM D S_208 a3 := hX_S_208.M hL_a3
        have hK_a4 : sK S_208 a4 = 25 := (hX_S_208.2 a4 hL_a4).1.trans hK_a4
        have hL_a4 : wM D S_208 a4 := hX_S_208.M hL_a4
        refine lv_istore (lv' := [(6, .int r_207), (0, .ref a0), (1, .ref a1), (2, .ref a2), (3, .ref a3), (4, .ref a4), (5, .int x5)]) hx hb dL_law_1227 hl (by decide) rfl (fun ls hl => ?_)
        refine lv_aload_n hx hb dL_law_1229 rfl (lv_at hl 3 rfl) ?_
        refine lv_aload_n hx hb dL_law_1230 rfl (lv_at hl 1 rfl) ?_
        refine lv_iload hx hb dL_law_1231 (lv_at hl 6 rfl) ?_
        refine lv_iconst (v := 1) hx hb dL_law_1233 (by decide) ?_
        refine lv_iadd hx hb dL_law_1234 ?_
        obtain ⟨h_210, hp⟩ := hp
        refine w_ild F hK hW hL_a0 hK_a0 h_210 dL_law_1235 ?_
        refine w_callI (va_runV (As := [.int (sI S_208 a0 ((x5 + (1 : Int32))).toNatClampNeg)]) (rest := []) F (c_X12_moveBecomes l hL_a2 hK_a2 hp H.size) (cwV (C := RX12) 1 hts (wg_V wm_RL_255 wy_X12_moveBecomes) rfl rfl rfl (by decide +kernel) ⟨Nat.le_of_ble_eq_true rfl, Nat.le_of_ble_eq_true rfl⟩) (w_preV hK hW hL_a2 hK_a2 (by decide) rfl) rfl rfl hl.1 rfl (lv_room (Nat.le_of_ble_eq_true rfl)) dL_law_1236 ⟨by show _ ≤ rC; exact Nat.le_trans (Nat.le_add_right _ _) hbc, by show _ ≤ rS; exact Nat.le_trans (Nat.le_add_right _ _) hbs⟩) hW (fun r_211 S_212 H locs hp hW => ?_)
        obtain ⟨hX_S_212, hp⟩ := hp
        refine w_same ?_
        have hE := hE.trans hX_S_212
        have hK_a0 : sK S_212 a0 = 21 := (hX_S_212.2 a0 hL_a0).1.trans hK_a0
        have hL_a0 : wM D S_212 a0 := hX_S_212.M hL_a0
        have hK_a1 : sK S_212 a1 = 16 := (hX_S_212.2 a1 hL_a1).1.trans hK_a1
        have hL_a1 : wM D S_212 a1 := hX_S_212.M hL_a1
        have hK_a2 : sK S_212 a2 = 17 := (hX_S_212.2 a2 hL_a2).1.trans hK_a2
        have hL_a2 : wM D S_212 a2 := hX_S_212.M hL_a2
        have hK_a3 : sK S_212 a3 = 22 := (hX_S_212.2 a3 hL_a3).1.trans hK_a3
        have hL_a3 : wM D S_212 a3 := hX_S_212.M hL_a3
        have hK_a4 : sK S_212 a4 = 25 := (hX_S_212.2 a4 hL_a4).1.trans hK_a4
        have hL_a4 : wM D S_212 a4 := hX_S_212.M hL_a4
        refine lv_istore (lv' := [(7, .int r_211), (6, .int r_207), (0, .ref a0), (1, .ref a1), (2, .ref a2), (3, .ref a3), (4, .ref a4), (5, .int x5)]) hx hb dL_law_1239 hl (by decide) rfl (fun ls hl => ?_)
        refine lv_aload_n hx hb dL_law_1241 rfl (lv_at hl 4 rfl) ?_
        refine w_callI (va_runV (As := []) (rest := []) F (c_X12_thrown l hL_a2 hK_a2 hp H.size) (cwV (C := RX12) 0 hts (wg_V wm_RL_181 wy_X12_thrown) rfl rfl rfl (by decide +kernel) ⟨Nat.le_of_ble_eq_true rfl, Nat.le_of_ble_eq_true rfl⟩) (w_preV hK hW hL_a2 hK_a2 (by decide) rfl) rfl rfl hl.1 rfl (lv_room (Nat.le_of_ble_eq_true rfl)) dL_law_1242 ⟨by show _ ≤ rC; exact Nat.le_trans (Nat.le_add_right _ _) hbc, by show _ ≤ rS; exact Nat.le_trans (Nat.le_add_right _ _) hbs⟩) hW (fun r_213 S_214 H locs hp hW => ?_)
        obtain ⟨hX_S_214, hp⟩ := hp
        refine w_same ?_
        have hE := hE.trans hX_S_214
        have hK_a0 : sK S_214 a0 = 21 := (hX_S_214.2 a0 hL_a0).1.trans hK_a0
        have hL_a0 : wM D S_214 a0 := hX_S_214.M hL_a0
        have hK_a1 : sK S_214 a1 = 16 := (hX_S_214.2 a1 hL_a1).1.trans hK_a1
        have hL_a1 : wM D S_214 a1 := hX_S_214.M hL_a1
        have hK_a2 : sK S_214 a2 = 17 := (hX_S_214.2 a2 hL_a2).1.trans hK_a2
        have hL_a2 : wM D S_214 a2 := hX_S_214.M hL_a2
        have hK_a3 : sK S_214 a3 = 22 := (hX_S_214.2 a3 hL_a3).1.trans hK_a3
        have hL_a3 : wM D S_214 a3 := hX_S_214.M hL_a3
        have hK_a4 : sK S_214 a4 = 25 := (hX_S_214.2 a4 hL_a4).1.trans hK_a4
        have hL_a4 : wM D S_214 a4 := hX_S_214.M hL_a4
        refine lv_iload hx hb dL_law_1245 (lv_at hl 1 rfl) ?_
        refine lv_icmp_eq (tgt := 1252) hx hb dL_law_1247 (by decide) (fun c_215 => ?_) (fun c_215 => ?_)
        · replace hp := hp.1 c_215
          refine lv_iload hx hb dL_law_1252 (lv_at hl 1 rfl) ?_
          refine lv_if_ne (tgt := 1269) hx hb dL_law_1254 (by decide) (fun c_216 => ?_) (fun c_216 => ?_)
          · replace hp := hp.1 c_216
            exact t_L_law_1269 F hr hlocks hK hl0 hQ ih hbc hbs hp hW hE (lv_sub hl [2, 3, 4, 5, 6, 7] rfl) hL_a0 hK_a0 hL_a1 hK_a1 hL_a2 hK_a2 hL_a3 hK_a3 hL_a4 hK_a4
          · replace hp := hp.2 c_216
            refine lv_aload_n hx hb dL_law_1257 rfl (lv_at hl 5 rfl) ?_
            refine lv_iconst (v := 0) hx hb dL_law_1258 (by decide) ?_
            obtain ⟨h_217, hp⟩ := hp
            refine w_lld F hK hW hL_a3 hK_a3 h_217 dL_law_1259 ?_
            refine lv_iload hx hb dL_law_1260 (lv_at hl 0 rfl) ?_
            refine lv_i2l (v := (Int32.toInt64 r_211)) hx hb dL_law_1262 rfl ?_
            refine W.lcmp hx hb dL_law_1263 ?_
            refine lv_if_eq (tgt := 1269) hx hb dL_law_1264 (by decide) (fun c_218 => ?_) (fun c_218 => ?_)
            · replace hp := hp.1 c_218
              exact t_L_law_1269 F hr hlocks hK hl0 hQ ih hbc hbs hp hW hE (lv_sub hl [2, 3, 4, 5, 6, 7] rfl) hL_a0 hK_a0 hL_a1 hK_a1 hL_a2 hK_a2 hL_a3 hK_a3 hL_a4 hK_a4
            · replace hp := hp.2 c_218
              refine lv_iconst (v := 0) hx hb dL_law_1267 (by decide) ?_
              refine W.widen (k := rC) (n := rS) (Nat.le_trans (Nat.le_add_right _ _) hbc) (Nat.le_trans (Nat.le_add_right _ _) hbs) ?_
              exact hQ hp dL_law_1268 hW
        · replace hp := hp.2 c_215
          refine lv_iconst (v := 0) hx hb dL_law_1250 (by decide) ?_
          refine W.widen (k := rC) (n := rS) (Nat.le_trans (Nat.le_add_right _ _) hbc) (Nat.le_trans (Nat.le_add_right _ _) hbs) ?_
          exact hQ hp dL_law_1251 hW
      replace hp := hp.2
      by_cases c_219 : x_3 = 21
      · refine lv_tableIn (tgt := 1272) (x := x_3) (off := 1228) hx hb dL_law_44 (by rw [c_219]; decide) (by rw [c_219]; decide) (by rw [c_219]; decide) (by decide) ?_
        replace hp := hp.1 c_219
        refine lv_aload_n hx hb dL_law_1272 rfl (lv_at hl 1 rfl) ?_
        refine lv_aload_n hx hb dL_law_1273 rfl (lv_at hl 0 rfl) ?_
        refine lv_iload hx hb dL_law_1274 (lv_at hl 5 rfl) ?_
        refine lv_iconst (v := 1) hx hb dL_law_1276 (by decide) ?_
        refine lv_iadd hx hb dL_law_1277 ?_
        obtain ⟨h_220, hp⟩ := hp
        refine w_ild F hK hW hL_a0 hK_a0 h_220 dL_law_1278 ?_
        refine lv_aload_n hx hb dL_law_1279 rfl (lv_at hl 3 rfl) ?_
        obtain ⟨m_223, z_224, hm_223, hz_224, hp⟩ := hp
        refine x_callI (vx_runSX (As := [.ref a1, .int (sI S a0 ((x5 + (1 : Int32))).toNatClampNeg), .ref a3]) (rest := []) F (c_L_writeMove l hl0 hL_a1 hK_a1 hL_a3 hK_a3 hp H.size) (vx_cwSW 3 hts (wg_S wm_RL_256 wy_L_writeMove) rfl rfl rfl ⟨by decide, by decide, by decide +kernel⟩ ⟨Nat.le_of_ble_eq_true rfl, Nat.le_of_ble_eq_true rfl⟩) (w_preS hK hW) rfl rfl hl.1 rfl (lv_room (Nat.le_of_ble_eq_true rfl)) dL_law_1280 ⟨by show _ + m_223 ≤ rC; omega, by show _ + z_224 ≤ rS; omega⟩) hW (fun E ce q9 S9 H locs hp hW h1 h2 h3 => hp.elim) (fun r_221 S_222 H locs hp hW => ?_)
        obtain ⟨hX_S_222, hp⟩ := hp
        refine W.widen (k := _ + m_223) (n := _ + z_224) (Nat.le_refl _) (Nat.le_refl _) ?_
        replace hbc := w_spend hbc (show m_223 ≤ bc by omega)
        replace hbs := w_spend hbs (show z_224 ≤ bs by omega)
        have hE := hE.trans hX_S_222
        have hK_a0 : sK S_222 a0 = 21 := (hX_S_222.2 a0 hL_a0).1.trans hK_a0
        have hL_a0 : wM D S_222 a0 := hX_S_222.M hL_a0
        have hK_a1 : sK S_222 a1 = 16 := (hX_S_222.2 a1 hL_a1).1.trans hK_a1
        have hL_a1 : wM D S_222 a1 := hX_S_222.M hL_a1
        have hK_a2 : sK S_222 a2 = 17 := (hX_S_222.2 a2 hL_a2).1.trans hK_a2
        have hL_a2 : wM D S_222 a2 := hX_S_222.M hL_a2
        have hK_a3 : sK S_222 a3 = 22 := (hX_S_222.2 a3 hL_a3).1.trans hK_a3
        have hL_a3 : wM D S_222 a3 := hX_S_222.M hL_a3
        have hK_a4 : sK S_222 a4 = 25 := (hX_S_222.2 a4 hL_a4).1.trans hK_a4
        have hL_a4 : wM D S_222 a4 := hX_S_222.M hL_a4
        refine lv_istore (lv' := [(6, .int r_221), (0, .ref a0), (1, .ref a1), (2, .ref a2), (3, .ref a3), (4, .ref a4), (5, .int x5)]) hx hb dL_law_1283 hl (by decide) rfl (fun ls hl => ?_)
        refine lv_aload_n hx hb dL_law_1285 rfl (lv_at hl 3 rfl) ?_
        refine lv_aload_n hx hb dL_law_1286 rfl (lv_at hl 1 rfl) ?_
        refine lv_iload hx hb dL_law_1287 (lv_at hl 6 rfl) ?_
        refine lv_iconst (v := 1) hx hb dL_law_1289 (by decide) ?_
        refine lv_iadd hx hb dL_law_1290 ?_
        obtain ⟨h_225, hp⟩ := hp
        refine w_ild F hK hW hL_a0 hK_a0 h_225 dL_law_1291 ?_
        refine w_callI (va_runV (As := [.int (sI S_222 a0 ((x5 + (1 : Int32))).toNatClampNeg)]) (rest := []) F (c_X12_writeMove l hL_a2 hK_a2 hp H.size) (cwV (C := RX12) 1 hts (wg_V wm_RL_258 wy_X12_writeMove) rfl rfl rfl (by decide +kernel) ⟨Nat.le_of_ble_eq_true rfl, Nat.le_of_ble_eq_true rfl⟩) (w_preV hK hW hL_a2 hK_a2 (by decide) rfl) rfl rfl hl.1 rfl (lv_room (Nat.le_of_ble_eq_true rfl)) dL_law_1292 ⟨by show _ ≤ rC; exact Nat.le_trans (Nat.le_add_right _ _) hbc, by show _ ≤ rS; exact Nat.le_trans (Nat.le_add_right _ _) hbs⟩) hW (fun r_226 S_227 H locs hp hW => ?_)
        obtain ⟨hX_S_227, hp⟩ := hp
        refine w_same ?_
        have hE := hE.trans hX_S_227
        have hK_a0 : sK S_227 a0 = 21 := (hX_S_227.2 a0 hL_a0).1.trans hK_a0
        have hL_a0 : wM D S_227 a0 := hX_S_227.M hL_a0
        have hK_a1 : sK S_227 a1 = 16 := (hX_S_227.2 a1 hL_a1).1.trans hK_a1
        have hL_a1 : wM D S_227 a1 := hX_S_227.M hL_a1
        have hK_a2 : sK S_227 a2 = 17 := (hX_S_227.2 a2 hL_a2).1.trans hK_a2
        have hL_a2 : wM D S_227 a2 := hX_S_227.M hL_a2
        have hK_a3 : sK S_227 a3 = 22 := (hX_S_227.2 a3 hL_a3).1.trans hK_a3
        have hL_a3 : wM D S_227 a3 := hX_S_227.M hL_a3
        have hK_a4 : sK S_227 a4 = 25 := (hX_S_227.2 a4 hL_a4).1.trans hK_a4
        have hL_a4 : wM D S_227 a4 := hX_S_227.M hL_a4
        refine lv_istore (lv' := [(7, .int r_226), (6, .int r_221), (0, .ref a0), (1, .ref a1), (2, .ref a2), (3, .ref a3), (4, .ref a4), (5, .int x5)]) hx hb dL_law_1295 hl (by decide) rfl (fun ls hl => ?_)
        refine lv_aload_n hx hb dL_law_1297 rfl (lv_at hl 4 rfl) ?_
        refine w_callI (va_runV (As := []) (rest := []) F (c_X12_thrown l hL_a2 hK_a2 hp H.size) (cwV (C := RX12) 0 hts (wg_V wm_RL_181 wy_X12_thrown) rfl rfl rfl (by decide +kernel) ⟨Nat.le_of_ble_eq_true rfl, Nat.le_of_ble_eq_true rfl⟩) (w_preV hK hW hL_a2 hK_a2 (by decide) rfl) rfl rfl hl.1 rfl (lv_room (Nat.le_of_ble_eq_true rfl)) dL_law_1298 ⟨by show _ ≤ rC; exact Nat.le_trans (Nat.le_add_right _ _) hbc, by show _ ≤ rS; exact Nat.le_trans (Nat.le_add_right _ _) hbs⟩) hW (fun r_228 S_229 H locs hp hW => ?_)
        obtain ⟨hX_S_229, hp⟩ := hp
        refine w_same ?_
        have hE := hE.trans hX_S_229
        have hK_a0 : sK S_229 a0 = 21 := (hX_S_229.2 a0 hL_a0).1.trans hK_a0
        have hL_a0 : wM D S_229 a0 := hX_S_229.M hL_a0
        have hK_a1 : sK S_229 a1 = 16 := (hX_S_229.2 a1 hL_a1).1.trans hK_a1
        have hL_a1 : wM D S_229 a1 := hX_S_229.M hL_a1
        have hK_a2 : sK S_229 a2 = 17 := (hX_S_229.2 a2 hL_a2).1.trans hK_a2
        have hL_a2 : wM D S_229 a2 := hX_S_229.M hL_a2
        have hK_a3 : sK S_229 a3 = 22 := (hX_S_229.2 a3 hL_a3).1.trans hK_a3
        have hL_a3 : wM D S_229 a3 := hX_S_229.M hL_a3
        have hK_a4 : sK S_229 a4 = 25 := (hX_S_229.2 a4 hL_a4).1.trans hK_a4
        have hL_a4 : wM D S_229 a4 := hX_S_229.M hL_a4
        refine lv_iload hx hb dL_law_1301 (lv_at hl 1 rfl) ?_
        refine lv_icmp_eq (tgt := 1308) hx hb dL_law_1303 (by decide) (fun c_230 => ?_) (fun c_230 => ?_)
        · replace hp := hp.1 c_230
          refine lv_iload hx hb dL_law_1308 (lv_at hl 1 rfl) ?_
          refine lv_if_ne (tgt := 1325) hx hb dL_law_1310 (by decide) (fun c_231 => ?_) (fun c_231 => ?_)
          · replace hp := hp.1 c_231
            exact t_L_law_1325 F hr hlocks hK hl0 hQ ih hbc hbs hp hW hE (lv_sub hl [2, 3, 4, 5, 6, 7] rfl) hL_a0 hK_a0 hL_a1 hK_a1 hL_a2 hK_a2 hL_a3 hK_a3 hL_a4 hK_a4
          · replace hp := hp.2 c_231
            refine lv_aload_n hx hb dL_law_1313 rfl (lv_at hl 5 rfl) ?_
            refine lv_iconst (v := 0) hx hb dL_law_1314 (by decide) ?_
            obtain ⟨h_232, hp⟩ := hp
            refine w_lld F hK hW hL_a3 hK_a3 h_232 dL_law_1315 ?_
            refine lv_iload hx hb dL_law_1316 (lv_at hl 0 rfl) ?_
            refine lv_i2l (v := (Int32.toInt64 r_226)) hx hb dL_law_1318 rfl ?_
            refine W.lcmp hx hb dL_law_1319 ?_
            refine lv_if_eq (tgt := 1325) hx hb dL_law_1320 (by decide) (fun c_233 => ?_) (fun c_233 => ?_)
            · replace hp := hp.1 c_233
              exact t_L_law_1325 F hr hlocks hK hl0 hQ ih hbc hbs hp hW hE (lv_sub hl [2, 3, 4, 5, 6, 7] rfl) hL_a0 hK_a0 hL_a1 hK_a1 hL_a2 hK_a2 hL_a3 hK_a3 hL_a4 hK_a4
            · replace hp := hp.2 c_233
              refine lv_iconst (v := 0) hx hb dL_law_1323 (by decide) ?_
              refine W.widen (k := rC) (n := rS) (Nat.le_trans (Nat.le_add_right _ _) hbc) (Nat.le_trans (Nat.le_add_right _ _) hbs) ?_
              exact hQ hp dL_law_1324 hW
        · replace hp := hp.2 c_230
          refine lv_iconst (v := 0) hx hb dL_law_1306 (by decide) ?_
          refine W.widen (k := rC) (n := rS) (Nat.le_trans (Nat.le_add_right _ _) hbc) (Nat.le_trans (Nat.le_add_right _ _) hbs) ?_
          exact hQ hp dL_law_1307 hW
      replace hp := hp.2
      by_cases c_234 : x_3 = 22
      · refine lv_tableIn (tgt := 1328) (x := x_3) (off := 1284) hx hb dL_law_44 (by rw [c_234]; decide) (by rw [c_234]; decide) (by rw [c_234]; decide) (by decide) ?_
        replace hp := hp.1 c_234
        refine lv_aload_n hx hb dL_law_1328 rfl (lv_at hl 1 rfl) ?_
        refine lv_aload_n hx hb dL_law_1329 rfl (lv_at hl 0 rfl) ?_
        refine lv_iload hx hb dL_law_1330 (lv_at hl 5 rfl) ?_
        refine lv_iconst (v := 1) hx hb dL_law_1332 (by decide) ?_
        refine lv_iadd hx hb dL_law_1333 ?_
        obtain ⟨h_235, hp⟩ := hp
        refine w_ild F hK hW hL_a0 hK_a0 h_235 dL_law_1334 ?_
        refine lv_aload_n hx hb dL_law_1335 rfl (lv_at hl 3 rfl) ?_
        obtain ⟨h_238, h_238z, hp⟩ := hp
        refine x_callI (vx_runSX (As := [.ref a1, .int (sI S a0 ((x5 + (1 : Int32))).toNatClampNeg), .ref a3]) (rest := []) F (c_L_play l hl0 hL_a1 hK_a1 hL_a3 hK_a3 hp H.size) (vx_cwSW 3 hts (wg_S wm_RL_259 wy_L_play) rfl rfl rfl ⟨by decide, by decide, by decide +kernel⟩ ⟨Nat.le_of_ble_eq_true rfl, Nat.le_of_ble_eq_true rfl⟩) (w_preS hK hW) rfl rfl hl.1 rfl (lv_room (Nat.le_of_ble_eq_true rfl)) dL_law_1336 ⟨by show _ + 3 ≤ rC; omega, by show _ + 18 ≤ rS; omega⟩) hW (fun E ce q9 S9 H locs hp hW h1 h2 h3 => hp.elim) (fun r_236 S_237 H locs hp hW => ?_)
        obtain ⟨hX_S_237, hp⟩ := hp
        refine W.widen (k := _ + 3) (n := _ + 18) (Nat.le_refl _) (Nat.le_refl _) ?_
        replace hbc := w_spend hbc (show 3 ≤ bc by omega)
        replace hbs := w_spend hbs (show 18 ≤ bs by omega)
        have hE := hE.trans hX_S_237
        have hK_a0 : sK S_237 a0 = 21 := (hX_S_237.2 a0 hL_a0).1.trans hK_a0
        have hL_a0 : wM D S_237 a0 := hX_S_237.M hL_a0
        have hK_a1 : sK S_237 a1 = 16 := (hX_S_237.2 a1 hL_a1).1.trans hK_a1
        have hL_a1 : wM D S_237 a1 := hX_S_237.M hL_a1
        have hK_a2 : sK S_237 a2 = 17 := (hX_S_237.2 a2 hL_a2).1.trans hK_a2
        have hL_a2 : wM D S_237 a2 := hX_S_237.M hL_a2
        have hK_a3 : sK S_237 a3 = 22 := (hX_S_237.2 a3 hL_a3).1.trans hK_a3
        have hL_a3 : wM D S_237 a3 := hX_S_237.M hL_a3
        have hK_a4 : sK S_237 a4 = 25 := (hX_S_237.2 a4 hL_a4).1.trans hK_a4
        have hL_a4 : wM D S_237 a4 := hX_S_237.M hL_a4
        refine lv_istore (lv' := [(6, .int r_236), (0, .ref a0), (1, .ref a1), (2, .ref a2), (3, .ref a3), (4, .ref a4), (5, .int x5)]) hx hb dL_law_1339 hl (by decide) rfl (fun ls hl => ?_)
        refine lv_aload_n hx hb dL_law_1341 rfl (lv_at hl 3 rfl) ?_
        refine lv_aload_n hx hb dL_law_1342 rfl (lv_at hl 1 rfl) ?_
        refine lv_iload hx hb dL_law_1343 (lv_at hl 6 rfl) ?_
        refine lv_iconst (v := 1) hx hb dL_law_1345 (by decide) ?_
        refine lv_iadd hx hb dL_law_1346 ?_
        obtain ⟨h_239, hp⟩ := hp
        refine w_ild F hK hW hL_a0 hK_a0 h_239 dL_law_1347 ?_
        refine w_callI (va_runV (As := [.int (sI S_237 a0 ((x5 + (1 : Int32))).toNatClampNeg)]) (rest := []) F (c_X12_play l hL_a2 hK_a2 hp H.size) (cwV (C := RX12) 1 hts (wg_V wm_RL_261 wy_X12_play) rfl rfl rfl (by decide +kernel) ⟨Nat.le_of_ble_eq_true rfl, Nat.le_of_ble_eq_true rfl⟩) (w_preV hK hW hL_a2 hK_a2 (by decide) rfl) rfl rfl hl.1 rfl (lv_room (Nat.le_of_ble_eq_true rfl)) dL_law_1348 ⟨by show _ ≤ rC; exact Nat.le_trans (Nat.le_add_right _ _) hbc, by show _ ≤ rS; exact Nat.le_trans (Nat.le_add_right _ _) hbs⟩) hW (fun r_240 S_241 H locs hp hW => ?_)
        obtain ⟨hX_S_241, hp⟩ := hp
        refine w_same ?_
        have hE := hE.trans hX_S_241
        have hK_a0 : sK S_241 a0 = 21 := (hX_S_241.2 a0 hL_a0).1.trans hK_a0
        have hL_a0 : wM D S_241 a0 := hX_S_241.M hL_a0
        have hK_a1 : sK S_241 a1 = 16 := (hX_S_241.2 a1 hL_a1).1.trans hK_a1
        have hL_a1 : wM D S_241 a1 := hX_S_241.M hL_a1
        have hK_a2 : sK S_241 a2 = 17 := (hX_S_241.2 a2 hL_a2).1.trans hK_a2
        have hL_a2 : wM D S_241 a2 := hX_S_241.M hL_a2
        have hK_a3 : sK S_241 a3 = 22 := (hX_S_241.2 a3 hL_a3).1.trans hK_a3
        have hL_a3 : wM D S_241 a3 := hX_S_241.M hL_a3
        have hK_a4 : sK S_241 a4 = 25 := (hX_S_241.2 a4 hL_a4).1.trans hK_a4
        have hL_a4 : wM D S_241 a4 := hX_S_241.M hL_a4
        refine lv_istore (lv' := [(7, .int r_240), (6, .int r_236), (0, .ref a0), (1, .ref a1), (2, .ref a2), (3, .ref a3), (4, .ref a4), (5, .int x5)]) hx hb dL_law_1351 hl (by decide) rfl (fun ls hl => ?_)
        refine lv_aload_n hx hb dL_law_1353 rfl (lv_at hl 4 rfl) ?_
        refine w_callI (va_runV (As := []) (rest := []) F (c_X12_thrown l hL_a2 hK_a2 hp H.size) (cwV (C := RX12) 0 hts (wg_V wm_RL_181 wy_X12_thrown) rfl rfl rfl (by decide +kernel) ⟨Nat.le_of_ble_eq_true rfl, Nat.le_of_ble_eq_true rfl⟩) (w_preV hK hW hL_a2 hK_a2 (by decide) rfl) rfl rfl hl.1 rfl (lv_room (Nat.le_of_ble_eq_true rfl)) dL_law_1354 ⟨by show _ ≤ rC; exact Nat.le_trans (Nat.le_add_right _ _) hbc, by show _ ≤ rS; exact Nat.le_trans (Nat.le_add_right _ _) hbs⟩) hW (fun r_242 S_243 H locs hp hW => ?_)
        obtain ⟨hX_S_243, hp⟩ := hp
        refine w_same ?_
        have hE := hE.trans hX_S_243
        have hK_a0 : sK S_243 a0 = 21 := (hX_S_243.2 a0 hL_a0).1.trans hK_a0
        have hL_a0 : wM D S_243 a0 := hX_S_243.M hL_a0
        have hK_a1 : sK S_243 a1 = 16 := (hX_S_243.2 a1 hL_a1).1.trans hK_a1
        have hL_a1 : wM D S_243 a1 := hX_S_243.M hL_a1
        have hK_a2 : sK S_243 a2 = 17 := (hX_S_243.2 a2 hL_a2).1.trans hK_a2
        have hL_a2 : wM D S_243 a2 := hX_S_243.M hL_a2
        have hK_a3 : sK S_243 a3 = 22 := (hX_S_243.2 a3 hL_a3).1.trans hK_a3
        have hL_a3 : wM D S_243 a3 := hX_S_243.M hL_a3
        have hK_a4 : sK S_243 a4 = 25 := (hX_S_243.2 a4 hL_a4).1.trans hK_a4
        have hL_a4 : wM D S_243 a4 := hX_S_243.M hL_a4
        refine lv_iload hx hb dL_law_1357 (lv_at hl 1 rfl) ?_
        refine lv_icmp_eq (tgt := 1364) hx hb dL_law_1359 (by decide) (fun c_244 => ?_) (fun c_244 => ?_)
        · replace hp := hp.1 c_244
          refine lv_iload hx hb dL_law_1364 (lv_at hl 1 rfl) ?_
          refine lv_if_ne (tgt := 1381) hx hb dL_law_1366 (by decide) (fun c_245 => ?_) (fun c_245 => ?_)
          · replace hp := hp.1 c_245
            exact t_L_law_1381 F hr hlocks hK hl0 hQ ih hbc hbs hp hW hE (lv_sub hl [2, 3, 4, 5, 6, 7] rfl) hL_a0 hK_a0 hL_a1 hK_a1 hL_a2 hK_a2 hL_a3 hK_a3 hL_a4 hK_a4
          · replace hp := hp.2 c_245
            refine lv_aload_n hx hb dL_law_1369 rfl (lv_at hl 5 rfl) ?_
            refine lv_iconst (v := 0) hx hb dL_law_1370 (by decide) ?_
            obtain ⟨h_246, hp⟩ := hp
            refine w_lld F hK hW hL_a3 hK_a3 h_246 dL_law_1371 ?_
            refine lv_iload hx hb dL_law_1372 (lv_at hl 0 rfl) ?_
            refine lv_i2l (v := (Int32.toInt64 r_240)) hx hb dL_law_1374 rfl ?_
            refine W.lcmp hx hb dL_law_1375 ?_
            refine lv_if_eq (tgt := 1381) hx hb dL_law_1376 (by decide) (fun c_247 => ?_) (fun c_247 => ?_)
            · replace hp := hp.1 c_247
              exact t_L_law_1381 F hr hlocks hK hl0 hQ ih hbc hbs hp hW hE (lv_sub hl [2, 3, 4, 5, 6, 7] rfl) hL_a0 hK_a0 hL_a1 hK_a1 hL_a2 hK_a2 hL_a3 hK_a3 hL_a4 hK_a4
            · replace hp := hp.2 c_247
              refine lv_iconst (v := 0) hx hb dL_law_1379 (by decide) ?_
              refine W.widen (k := rC) (n := rS) (Nat.le_trans (Nat.le_add_right _ _) hbc) (Nat.le_trans (Nat.le_add_right _ _) hbs) ?_
              exact hQ hp dL_law_1380 hW
        · replace hp := hp.2 c_244
          refine lv_iconst (v := 0) hx hb dL_law_1362 (by decide) ?_
          refine W.widen (k := rC) (n := rS) (Nat.le_trans (Nat.le_add_right _ _) hbc) (Nat.le_trans (Nat.le_add_right _ _) hbs) ?_
          exact hQ hp dL_law_1363 hW
      replace hp := hp.2
      by_cases c_248 : x_3 = 23
      · refine lv_tableIn (tgt := 1384) (x := x_3) (off := 1340) hx hb dL_law_44 (by rw [c_248]; decide) (by rw [c_248]; decide) (by rw [c_248]; decide) (by decide) ?_
        replace hp := hp.1 c_248
        refine lv_aload_n hx hb dL_law_1384 rfl (lv_at hl 1 rfl) ?_
        refine lv_aload_n hx hb dL_law_1385 rfl (lv_at hl 3 rfl) ?_
        obtain ⟨h_251, h_251z, hp⟩ := hp
        refine x_callI (vx_runSX (As := [.ref a1, .ref a3]) (rest := []) F (c_L_takeBack l hl0 hL_a1 hK_a1 hL_a3 hK_a3 hp H.size) (vx_cwSW 2 hts (wg_S wm_RL_262 wy_L_takeBack) rfl rfl rfl ⟨by decide, by decide, by decide +kernel⟩ ⟨Nat.le_of_ble_eq_true rfl, Nat.le_of_ble_eq_true rfl⟩) (w_preS hK hW) rfl rfl hl.1 rfl (lv_room (Nat.le_of_ble_eq_true rfl)) dL_law_1386 ⟨by show _ + 1 ≤ rC; omega, by show _ + 6 ≤ rS; omega⟩) hW (fun E ce q9 S9 H locs hp hW h1 h2 h3 => hp.elim) (fun r_249 S_250 H locs hp hW => ?_)
        obtain ⟨hX_S_250, hp⟩ := hp
        refine W.widen (k := _ + 1) (n := _ + 6) (Nat.le_refl _) (Nat.le_refl _) ?_
        replace hbc := w_spend hbc (show 1 ≤ bc by omega)
        replace hbs := w_spend hbs (show 6 ≤ bs by omega)
        have hE := hE.trans hX_S_250
        have hK_a0 : sK S_250 a0 = 21 := (hX_S_250.2 a0 hL_a0).1.trans hK_a0
        have hL_a0 : wM D S_250 a0 := hX_S_250.M hL_a0
        have hK_a1 : sK S_250 a1 = 16 := (hX_S_250.2 a1 hL_a1).1.trans hK_a1
        have hL_a1 : wM D S_250 a1 := hX_S_250.M hL_a1
        have hK_a2 : sK S_250 a2 = 17 := (hX_S_250.2 a2 hL_a2).1.trans hK_a2
        have hL_a2 : wM D S_250 a2 := hX_S_250.M hL_a2
        have hK_a3 : sK S_250 a3 = 22 := (hX_S_250.2 a3 hL_a3).1.trans hK_a3
        have hL_a3 : wM D S_250 a3 := hX_S_250.M hL_a3
        have hK_a4 : sK S_250 a4 = 25 := (hX_S_250.2 a4 hL_a4).1.trans hK_a4
        have hL_a4 : wM D S_250 a4 := hX_S_250.M hL_a4
        refine lv_istore (lv' := [(6, .int r_249), (0, .ref a0), (1, .ref a1), (2, .ref a2), (3, .ref a3), (4, .ref a4), (5, .int x5)]) hx hb dL_law_1389 hl (by decide) rfl (fun ls hl => ?_)
        refine lv_aload_n hx hb dL_law_1391 rfl (lv_at hl 3 rfl) ?_
        refine w_callI (va_runV (As := []) (rest := []) F (c_X12_takeBack l hL_a2 hK_a2 hp H.size) (cwV (C := RX12) 0 hts (wg_V wm_RL_264 wy_X12_takeBack) rfl rfl rfl (by decide +kernel) ⟨Nat.le_of_ble_eq_true rfl, Nat.le_of_ble_eq_true rfl⟩) (w_preV hK hW hL_a2 hK_a2 (by decide) rfl) rfl rfl hl.1 rfl (lv_room (Nat.le_of_ble_eq_true rfl)) dL_law_1392 ⟨by show _ ≤ rC; exact Nat.le_trans (Nat.le_add_right _ _) hbc, by show _ ≤ rS; exact Nat.le_trans (Nat.le_add_right _ _) hbs⟩) hW (fun r_252 S_253 H locs hp hW => ?_)
        obtain ⟨hX_S_253, hp⟩ := hp
        refine w_same ?_
        have hE := hE.trans hX_S_253
        have hK_a0 : sK S_253 a0 = 21 := (hX_S_253.2 a0 hL_a0).1.trans hK_a0
        have hL_a0 : wM D S_253 a0 := hX_S_253.M hL_a0
        have hK_a1 : sK S_253 a1 = 16 := (hX_S_253.2 a1 hL_a1).1.trans hK_a1
        have hL_a1 : wM D S_253 a1 := hX_S_253.M hL_a1
        have hK_a2 : sK S_253 a2 = 17 := (hX_S_253.2 a2 hL_a2).1.trans hK_a2
        have hL_a2 : wM D S_253 a2 := hX_S_253.M hL_a2
        have hK_a3 : sK S_253 a3 = 22 := (hX_S_253.2 a3 hL_a3).1.trans hK_a3
        have hL_a3 : wM D S_253 a3 := hX_S_253.M hL_a3
        have hK_a4 : sK S_253 a4 = 25 := (hX_S_253.2 a4 hL_a4).1.trans hK_a4
        have hL_a4 : wM D S_253 a4 := hX_S_253.M hL_a4
        refine lv_istore (lv' := [(7, .int r_252), (6, .int r_249), (0, .ref a0), (1, .ref a1), (2, .ref a2), (3, .ref a3), (4, .ref a4), (5, .int x5)]) hx hb dL_law_1395 hl (by decide) rfl (fun ls hl => ?_)
        refine lv_aload_n hx hb dL_law_1397 rfl (lv_at hl 4 rfl) ?_
        refine w_callI (va_runV (As := []) (rest := []) F (c_X12_thrown l hL_a2 hK_a2 hp H.size) (cwV (C := RX12) 0 hts (wg_V wm_RL_181 wy_X12_thrown) rfl rfl rfl (by decide +kernel) ⟨Nat.le_of_ble_eq_true rfl, Nat.le_of_ble_eq_true rfl⟩) (w_preV hK hW hL_a2 hK_a2 (by decide) rfl) rfl rfl hl.1 rfl (lv_room (Nat.le_of_ble_eq_true rfl)) dL_law_1398 ⟨by show _ ≤ rC; exact Nat.le_trans (Nat.le_add_right _ _) hbc, by show _ ≤ rS; exact Nat.le_trans (Nat.le_add_right _ _) hbs⟩) hW (fun r_254 S_255 H locs hp hW => ?_)
        obtain ⟨hX_S_255, hp⟩ := hp
        refine w_same ?_
        have hE := hE.trans hX_S_255
        have hK_a0 : sK S_255 a0 = 21 := (hX_S_255.2 a0 hL_a0).1.trans hK_a0
        have hL_a0 : wM D S_255 a0 := hX_S_255.M hL_a0
        have hK_a1 : sK S_255 a1 = 16 := (hX_S_255.2 a1 hL_a1).1.trans hK_a1
        have hL_a1 : wM D S_255 a1 := hX_S_255.M hL_a1
        have hK_a2 : sK S_255 a2 = 17 := (hX_S_255.2 a2 hL_a2).1.trans hK_a2
        have hL_a2 : wM D S_255 a2 := hX_S_255.M hL_a2
        have hK_a3 : sK S_255 a3 = 22 := (hX_S_255.2 a3 hL_a3).1.trans hK_a3
        have hL_a3 : wM D S_255 a3 := hX_S_255.M hL_a3
        have hK_a4 : sK S_255 a4 = 25 := (hX_S_255.2 a4 hL_a4).1.trans hK_a4
        have hL_a4 : wM D S_255 a4 := hX_S_255.M hL_a4
        refine lv_iload hx hb dL_law_1401 (lv_at hl 1 rfl) ?_
        refine lv_icmp_eq (tgt := 1408) hx hb dL_law_1403 (by decide) (fun c_256 => ?_) (fun c_256 => ?_)
        · replace hp := hp.1 c_256
          refine lv_iload hx hb dL_law_1408 (lv_at hl 1 rfl) ?_
          refine lv_if_ne (tgt := 1425) hx hb dL_law_1410 (by decide) (fun c_257 => ?_) (fun c_257 => ?_)
          · replace hp := hp.1 c_257
            exact t_L_law_1425 F hr hlocks hK hl0 hQ ih hbc hbs hp hW hE (lv_sub hl [2, 3, 4, 5, 6, 7] rfl) hL_a0 hK_a0 hL_a1 hK_a1 hL_a2 hK_a2 hL_a3 hK_a3 hL_a4 hK_a4
          · replace hp := hp.2 c_257
            refine lv_aload_n hx hb dL_law_1413 rfl (lv_at hl 5 rfl) ?_
            refine lv_iconst (v := 0) hx hb dL_law_1414 (by decide) ?_
            obtain ⟨h_258, hp⟩ := hp
            refine w_lld F hK hW hL_a3 hK_a3 h_258 dL_law_1415 ?_
            refine lv_iload hx hb dL_law_1416 (lv_at hl 0 rfl) ?_
            refine lv_i2l (v := (Int32.toInt64 r_252)) hx hb dL_law_1418 rfl ?_
            refine W.lcmp hx hb dL_law_1419 ?_
            refine lv_if_eq (tgt := 1425) hx hb dL_law_1420 (by decide) (fun c_259 => ?_) (fun c_259 => ?_)
            · replace hp := hp.1 c_259
              exact t_L_law_1425 F hr hlocks hK hl0 hQ ih hbc hbs hp hW hE (lv_sub hl [2, 3, 4, 5, 6, 7] rfl) hL_a0 hK_a0 hL_a1 hK_a1 hL_a2 hK_a2 hL_a3 hK_a3 hL_a4 hK_a4
            · replace hp := hp.2 c_259
              refine lv_iconst (v := 0) hx hb dL_law_1423 (by decide) ?_
              refine W.widen (k := rC) (n := rS) (Nat.le_trans (Nat.le_add_right _ _) hbc) (Nat.le_trans (Nat.le_add_right _ _) hbs) ?_
              exact hQ hp dL_law_1424 hW
        · replace hp := hp.2 c_256
          refine lv_iconst (v := 0) hx hb dL_law_1406 (by decide) ?_
          refine W.widen (k := rC) (n := rS) (Nat.le_trans (Nat.le_add_right _ _) hbc) (Nat.le_trans (Nat.le_add_right _ _) hbs) ?_
          exact hQ hp dL_law_1407 hW
      replace hp := hp.2
      by_cases c_260 : x_3 = 24
      · refine lv_tableIn (tgt := 1428) (x := x_3) (off := 1384) hx hb dL_law_44 (by rw [c_260]; decide) (by rw [c_260]; decide) (by rw [c_260]; decide) (by decide) ?_
        replace hp := hp.1 c_260
        refine lv_aload_n hx hb dL_law_1428 rfl (lv_at hl 1 rfl) ?_
        refine w_callI (va_runV (As := []) (rest := []) F (c_X11_madeCount l hL_a1 hK_a1 hp H.size) (cwV (C := RX11) 0 hts (wg_V wm_RL_265 wy_X11_madeCount) rfl rfl rfl (by decide +kernel) ⟨Nat.le_of_ble_eq_true rfl, Nat.le_of_ble_eq_true rfl⟩) (w_preV hK hW hL_a1 hK_a1 (by decide) rfl) rfl rfl hl.1 rfl (lv_room (Nat.le_of_ble_eq_true rfl)) dL_law_1429 ⟨by show _ ≤ rC; exact Nat.le_trans (Nat.le_add_right _ _) hbc, by show _ ≤ rS; exact Nat.le_trans (Nat.le_add_right _ _) hbs⟩) hW (fun r_261 S_262 H locs hp hW => ?_)
        obtain ⟨hX_S_262, hp⟩ := hp
        refine w_same ?_
        have hE := hE.trans hX_S_262
        have hK_a0 : sK S_262 a0 = 21 := (hX_S_262.2 a0 hL_a0).1.trans hK_a0
        have hL_a0 : wM D S_262 a0 := hX_S_262.M hL_a0
        have hK_a1 : sK S_262 a1 = 16 := (hX_S_262.2 a1 hL_a1).1.trans hK_a1
        have hL_a1 : wM D S_262 a1 := hX_S_262.M hL_a1
        have hK_a2 : sK S_262 a2 = 17 := (hX_S_262.2 a2 hL_a2).1.trans hK_a2
        have hL_a2 : wM D S_262 a2 := hX_S_262.M hL_a2
        have hK_a3 : sK S_262 a3 = 22 := (hX_S_262.2 a3 hL_a3).1.trans hK_a3
        have hL_a3 : wM D S_262 a3 := hX_S_262.M hL_a3
        have hK_a4 : sK S_262 a4 = 25 := (hX_S_262.2 a4 hL_a4).1.trans hK_a4
        have hL_a4 : wM D S_262 a4 := hX_S_262.M hL_a4
        refine lv_aload_n hx hb dL_law_1432 rfl (lv_at hl 2 rfl) ?_
        refine w_callI (va_runV (As := []) (rest := [.int r_261]) F (c_X12_madeCount l hL_a2 hK_a2 hp H.size) (cwV (C := RX12) 0 hts (wg_V wm_RL_268 wy_X12_madeCount) rfl rfl rfl (by decide +kernel) ⟨Nat.le_of_ble_eq_true rfl, Nat.le_of_ble_eq_true rfl⟩) (w_preV hK hW hL_a2 hK_a2 (by decide) rfl) rfl rfl hl.1 rfl (lv_room (Nat.le_of_ble_eq_true rfl)) dL_law_1433 ⟨by show _ ≤ rC; exact Nat.le_trans (Nat.le_add_right _ _) hbc, by show _ ≤ rS; exact Nat.le_trans (Nat.le_add_right _ _) hbs⟩) hW (fun r_263 S_264 H locs hp hW => ?_)
        obtain ⟨hX_S_264, hp⟩ := hp
        refine w_same ?_
        have hE := hE.trans hX_S_264
        have hK_a0 : sK S_264 a0 = 21 := (hX_S_264.2 a0 hL_a0).1.trans hK_a0
        have hL_a0 : wM D S_264 a0 := hX_S_264.M hL_a0
        have hK_a1 : sK S_264 a1 = 16 := (hX_S_264.2 a1 hL_a1).1.trans hK_a1
        have hL_a1 : wM D S_264 a1 := hX_S_264.M hL_a1
        have hK_a2 : sK S_264 a2 = 17 := (hX_S_264.2 a2 hL_a2).1.trans hK_a2
        have hL_a2 : wM D S_264 a2 := hX_S_264.M hL_a2
        have hK_a3 : sK S_264 a3 = 22 := (hX_S_264.2 a3 hL_a3).1.trans hK_a3
        have hL_a3 : wM D S_264 a3 := hX_S_264.M hL_a3
        have hK_a4 : sK S_264 a4 = 25 := (hX_S_264.2 a4 hL_a4).1.trans hK_a4
        have hL_a4 : wM D S_264 a4 := hX_S_264.M hL_a4
        refine lv_icmp_eq (tgt := 3394) hx hb dL_law_1436 (by decide) (fun c_265 => ?_) (fun c_265 => ?_)
        · replace hp := hp.1 c_265
          exact t_L_law_3394 F hr hlocks hK hl0 hQ ih hbc hbs hp hW hE (lv_sub hl [0, 1, 2, 3, 4, 5] rfl) hL_a0 hK_a0 hL_a1 hK_a1 hL_a2 hK_a2 hL_a3 hK_a3 hL_a4 hK_a4
        · replace hp := hp.2 c_265
          refine lv_iconst (v := 0) hx hb dL_law_1439 (by decide) ?_
          refine W.widen (k := rC) (n := rS) (Nat.le_trans (Nat.le_add_right _ _) hbc) (Nat.le_trans (Nat.le_add_right _ _) hbs) ?_
          exact hQ hp dL_law_1440 hW
      replace hp := hp.2
      by_cases c_266 : x_3 = 25
      · refine lv_tableIn (tgt := 1441) (x := x_3) (off := 1397) hx hb dL_law_44 (by rw [c_266]; decide) (by rw [c_266]; decide) (by rw [c_266]; decide) (by decide) ?_
        replace hp := hp.1 c_266
        refine lv_aload_n hx hb dL_law_1441 rfl (lv_at hl 1 rfl) ?_
        refine lv_aload_n hx hb dL_law_1442 rfl (lv_at hl 3 rfl) ?_
        obtain ⟨h_269, h_269z, hp⟩ := hp
        refine x_callI (vx_runSX (As := [.ref a1, .ref a3]) (rest := []) F (c_L_state l hl0 hL_a1 hK_a1 hL_a3 hK_a3 hp H.size) (vx_cwSW 2 hts (wg_S wm_RL_269 wy_L_state) rfl rfl rfl ⟨by decide, by decide, by decide +kernel⟩ ⟨Nat.le_of_ble_eq_true rfl, Nat.le_of_ble_eq_true rfl⟩) (w_preS hK hW) rfl rfl hl.1 rfl (lv_room (Nat.le_of_ble_eq_true rfl)) dL_law_1443 ⟨by show _ + 1 ≤ rC; omega, by show _ + 6 ≤ rS; omega⟩) hW (fun E ce q9 S9 H locs hp hW h1 h2 h3 => hp.elim) (fun r_267 S_268 H locs hp hW => ?_)
        obtain ⟨hX_S_268, hp⟩ := hp
        refine W.widen (k := _ + 1) (n := _ + 6) (Nat.le_refl _) (Nat.le_refl _) ?_
        replace hbc := w_spend hbc (show 1 ≤ bc by omega)
        replace hbs := w_spend hbs (show 6 ≤ bs by omega)
        have hE := hE.trans hX_S_268
        have hK_a0 : sK S_268 a0 = 21 := (hX_S_268.2 a0 hL_a0).1.trans hK_a0
        have hL_a0 : wM D S_268 a0 := hX_S_268.M hL_a0
        have hK_a1 : sK S_268 a1 = 16 := (hX_S_268.2 a1 hL_a1).1.trans hK_a1
        have hL_a1 : wM D S_268 a1 := hX_S_268.M hL_a1
        have hK_a2 : sK S_268 a2 = 17 := (hX_S_268.2 a2 hL_a2).1.trans hK_a2
        have hL_a2 : wM D S_268 a2 := hX_S_268.M hL_a2
        have hK_a3 : sK S_268 a3 = 22 := (hX_S_268.2 a3 hL_a3).1.trans hK_a3
        have hL_a3 : wM D S_268 a3 := hX_S_268.M hL_a3
        have hK_a4 : sK S_268 a4 = 25 := (hX_S_268.2 a4 hL_a4).1.trans hK_a4
        have hL_a4 : wM D S_268 a4 := hX_S_268.M hL_a4
        refine lv_istore (lv' := [(6, .int r_267), (0, .ref a0), (1, .ref a1), (2, .ref a2), (3, .ref a3), (4, .ref a4), (5, .int x5)]) hx hb dL_law_1446 hl (by decide) rfl (fun ls hl => ?_)
        refine lv_aload_n hx hb dL_law_1448 rfl (lv_at hl 3 rfl) ?_
        refine w_callI (va_runV (As := []) (rest := []) F (c_X12_state l hL_a2 hK_a2 hp H.size) (cwV (C := RX12) 0 hts (wg_V wm_RL_271 wy_X12_state) rfl rfl rfl (by decide +kernel) ⟨Nat.le_of_ble_eq_true rfl, Nat.le_of_ble_eq_true rfl⟩) (w_preV hK hW hL_a2 hK_a2 (by decide) rfl) rfl rfl hl.1 rfl (lv_room (Nat.le_of_ble_eq_true rfl)) dL_law_1449 ⟨by show _ ≤ rC; exact Nat.le_trans (Nat.le_add_right _ _) hbc, by show _ ≤ rS; exact Nat.le_trans (Nat.le_add_right _ _) hbs⟩) hW (fun r_270 S_271 H locs hp hW => ?_)
        obtain ⟨hX_S_271, hp⟩ := hp
        refine w_same ?_
        have hE := hE.trans hX_S_271
        have hK_a0 : sK S_271 a0 = 21 := (hX_S_271.2 a0 hL_a0).1.trans hK_a0
        have hL_a0 : wM D S_271 a0 := hX_S_271.M hL_a0
        have hK_a1 : sK S_271 a1 = 16 := (hX_S_271.2 a1 hL_a1).1.trans hK_a1
        have hL_a1 : wM D S_271 a1 := hX_S_271.M hL_a1
        have hK_a2 : sK S_271 a2 = 17 := (hX_S_271.2 a2 hL_a2).1.trans hK_a2
        have hL_a2 : wM D S_271 a2 := hX_S_271.M hL_a2
        have hK_a3 : sK S_271 a3 = 22 := (hX_S_271.2 a3 hL_a3).1.trans hK_a3
        have hL_a3 : wM D S_271 a3 := hX_S_271.M hL_a3
        have hK_a4 : sK S_271 a4 = 25 := (hX_S_271.2 a4 hL_a4).1.trans hK_a4
        have hL_a4 : wM D S_271 a4 := hX_S_271.M hL_a4
        refine lv_istore (lv' := [(7, .int r_270), (6, .int r_267), (0, .ref a0), (1, .ref a1), (2, .ref a2), (3, .ref a3), (4, .ref a4), (5, .int x5)]) hx hb dL_law_1452 hl (by decide) rfl (fun ls hl => ?_)
        refine lv_aload_n hx hb dL_law_1454 rfl (lv_at hl 4 rfl) ?_
        refine w_callI (va_runV (As := []) (rest := []) F (c_X12_thrown l hL_a2 hK_a2 hp H.size) (cwV (C := RX12) 0 hts (wg_V wm_RL_181 wy_X12_thrown) rfl rfl rfl (by decide +kernel) ⟨Nat.le_of_ble_eq_true rfl, Nat.le_of_ble_eq_true rfl⟩) (w_preV hK hW hL_a2 hK_a2 (by decide) rfl) rfl rfl hl.1 rfl (lv_room (Nat.le_of_ble_eq_true rfl)) dL_law_1455 ⟨by show _ ≤ rC; exact Nat.le_trans (Nat.le_add_right _ _) hbc, by show _ ≤ rS; exact Nat.le_trans (Nat.le_add_right _ _) hbs⟩) hW (fun r_272 S_273 H locs hp hW => ?_)
        obtain ⟨hX_S_273, hp⟩ := hp
        refine w_same ?_
        have hE := hE.trans hX_S_273
        have hK_a0 : sK S_273 a0 = 21 := (hX_S_273.2 a0 hL_a0).1.trans hK_a0
        have hL_a0 : wM D S_273 a0 := hX_S_273.M hL_a0
        have hK_a1 : sK S_273 a1 = 16 := (hX_S_273.2 a1 hL_a1).1.trans hK_a1
        have hL_a1 : wM D S_273 a1 := hX_S_273.M hL_a1
        have hK_a2 : sK S_273 a2 = 17 := (hX_S_273.2 a2 hL_a2).1.trans hK_a2
        have hL_a2 : wM D S_273 a2 := hX_S_273.M hL_a2
        have hK_a3 : sK S_273 a3 = 22 := (hX_S_273.2 a3 hL_a3).1.trans hK_a3
        have hL_a3 : wM D S_273 a3 := hX_S_273.M hL_a3
        have hK_a4 : sK S_273 a4 = 25 := (hX_S_273.2 a4 hL_a4).1.trans hK_a4
        have hL_a4 : wM D S_273 a4 := hX_S_273.M hL_a4
        refine lv_iload hx hb dL_law_1458 (lv_at hl 1 rfl) ?_
        refine lv_icmp_eq (tgt := 1465) hx hb dL_law_1460 (by decide) (fun c_274 => ?_) (fun c_274 => ?_)
        · replace hp := hp.1 c_274
          refine lv_iload hx hb dL_law_1465 (lv_at hl 1 rfl) ?_
          refine lv_if_ne (tgt := 1482) hx hb dL_law_1467 (by decide) (fun c_275 => ?_) (fun c_275 => ?_)
          · replace hp := hp.1 c_275
            exact t_L_law_1482 F hr hlocks hK hl0 hQ ih hbc hbs hp hW hE (lv_sub hl [2, 3, 4, 5, 6, 7] rfl) hL_a0 hK_a0 hL_a1 hK_a1 hL_a2 hK_a2 hL_a3 hK_a3 hL_a4 hK_a4
          · replace hp := hp.2 c_275
            refine lv_aload_n hx hb dL_law_1470 rfl (lv_at hl 5 rfl) ?_
            refine lv_iconst (v := 0) hx hb dL_law_1471 (by decide) ?_
            obtain ⟨h_276, hp⟩ := hp
            refine w_lld F hK hW hL_a3 hK_a3 h_276 dL_law_1472 ?_
            refine lv_iload hx hb dL_law_1473 (lv_at hl 0 rfl) ?_
            refine lv_i2l (v := (Int32.toInt64 r_270)) hx hb dL_law_1475 rfl ?_
            refine W.lcmp hx hb dL_law_1476 ?_
            refine lv_if_eq (tgt := 1482) hx hb dL_law_1477 (by decide) (fun c_277 => ?_) (fun c_277 => ?_)
            · replace hp := hp.1 c_277
              exact t_L_law_1482 F hr hlocks hK hl0 hQ ih hbc hbs hp hW hE (lv_sub hl [2, 3, 4, 5, 6, 7] rfl) hL_a0 hK_a0 hL_a1 hK_a1 hL_a2 hK_a2 hL_a3 hK_a3 hL_a4 hK_a4
            · replace hp := hp.2 c_277
              refine lv_iconst (v := 0) hx hb dL_law_1480 (by decide) ?_
              refine W.widen (k := rC) (n := rS) (Nat.le_trans (Nat.le_add_right _ _) hbc) (Nat.le_trans (Nat.le_add_right _ _) hbs) ?_
              exact hQ hp dL_law_1481 hW
        · replace hp := hp.2 c_274
          refine lv_iconst (v := 0) hx hb dL_law_1463 (by decide) ?_
          refine W.widen (k := rC) (n := rS) (Nat.le_trans (Nat.le_add_right _ _) hbc) (Nat.le_trans (Nat.le_add_right _ _) hbs) ?_
          exact hQ hp dL_law_1464 hW
      replace hp := hp.2
      by_cases c_278 : x_3 = 26
      · refine lv_tableIn (tgt := 1485) (x := x_3) (off := 1441) hx hb dL_law_44 (by rw [c_278]; decide) (by rw [c_278]; decide) (by rw [c_278]; decide) (by decide) ?_
        replace hp := hp.1 c_278
        refine lv_aload_n hx hb dL_law_1485 rfl (lv_at hl 1 rfl) ?_
        refine w_callI (va_runV (As := []) (rest := []) F (c_X11_repetitions l hL_a1 hK_a1 hp H.size) (cwV (C := RX11) 0 hts (wg_V wm_RL_272 wy_X11_repetitions) rfl rfl rfl (by decide +kernel) ⟨Nat.le_of_ble_eq_true rfl, Nat.le_of_ble_eq_true rfl⟩) (w_preV hK hW hL_a1 hK_a1 (by decide) rfl) rfl rfl hl.1 rfl (lv_room (Nat.le_of_ble_eq_true rfl)) dL_law_1486 ⟨by show _ ≤ rC; exact Nat.le_trans (Nat.le_add_right _ _) hbc, by show _ ≤ rS; exact Nat.le_trans (Nat.le_add_right _ _) hbs⟩) hW (fun r_279 S_280 H locs hp hW => ?_)
        obtain ⟨hX_S_280, hp⟩ := hp
        refine w_same ?_
        have hE := hE.trans hX_S_280
        have hK_a0 : sK S_280 a0 = 21 := (hX_S_280.2 a0 hL_a0).1.trans hK_a0
        have hL_a0 : wM D S_280 a0 := hX_S_280.M hL_a0
        have hK_a1 : sK S_280 a1 = 16 := (hX_S_280.2 a1 hL_a1).1.trans hK_a1
        have hL_a1 : wM D S_280 a1 := hX_S_280.M hL_a1
        have hK_a2 : sK S_280 a2 = 17 := (hX_S_280.2 a2 hL_a2).1.trans hK_a2
        have hL_a2 : wM D S_280 a2 := hX_S_280.M hL_a2
        have hK_a3 : sK S_280 a3 = 22 := (hX_S_280.2 a3 hL_a3).1.trans hK_a3
        have hL_a3 : wM D S_280 a3 := hX_S_280.M hL_a3
        have hK_a4 : sK S_280 a4 = 25 := (hX_S_280.2 a4 hL_a4).1.trans hK_a4
        have hL_a4 : wM D S_280 a4 := hX_S_280.M hL_a4
        refine lv_aload_n hx hb dL_law_1489 rfl (lv_at hl 2 rfl) ?_
        refine w_callI (va_runV (As := []) (rest := [.int r_279]) F (c_X12_repetitions l hL_a2 hK_a2 hp H.size) (cwV (C := RX12) 0 hts (wg_V wm_RL_275 wy_X12_repetitions) rfl rfl rfl (by decide +kernel) ⟨Nat.le_of_ble_eq_true rfl, Nat.le_of_ble_eq_true rfl⟩) (w_preV hK hW hL_a2 hK_a2 (by decide) rfl) rfl rfl hl.1 rfl (lv_room (Nat.le_of_ble_eq_true rfl)) dL_law_1490 ⟨by show _ ≤ rC; exact Nat.le_trans (Nat.le_add_right _ _) hbc, by show _ ≤ rS; exact Nat.le_trans (Nat.le_add_right _ _) hbs⟩) hW (fun r_281 S_282 H locs hp hW => ?_)
        obtain ⟨hX_S_282, hp⟩ := hp
        refine w_same ?_
        have hE := hE.trans hX_S_282
        have hK_a0 : sK S_282 a0 = 21 := (hX_S_282.2 a0 hL_a0).1.trans hK_a0
        have hL_a0 : wM D S_282 a0 := hX_S_282.M hL_a0
        have hK_a1 : sK S_282 a1 = 16 := (hX_S_282.2 a1 hL_a1).1.trans hK_a1
        have hL_a1 : wM D S_282 a1 := hX_S_282.M hL_a1
        have hK_a2 : sK S_282 a2 = 17 := (hX_S_282.2 a2 hL_a2).1.trans hK_a2
        have hL_a2 : wM D S_282 a2 := hX_S_282.M hL_a2
        have hK_a3 : sK S_282 a3 = 22 := (hX_S_282.2 a3 hL_a3).1.trans hK_a3
        have hL_a3 : wM D S_282 a3 := hX_S_282.M hL_a3
        have hK_a4 : sK S_282 a4 = 25 := (hX_S_282.2 a4 hL_a4).1.trans hK_a4
        have hL_a4 : wM D S_282 a4 := hX_S_282.M hL_a4
        refine lv_icmp_eq (tgt := 3394) hx hb dL_law_1493 (by decide) (fun c_283 => ?_) (fun c_283 => ?_)
        · replace hp := hp.1 c_283
          exact t_L_law_3394 F hr hlocks hK hl0 hQ ih hbc hbs hp hW hE (lv_sub hl [0, 1, 2, 3, 4, 5] rfl) hL_a0 hK_a0 hL_a1 hK_a1 hL_a2 hK_a2 hL_a3 hK_a3 hL_a4 hK_a4
        · replace hp := hp.2 c_283
          refine lv_iconst (v := 0) hx hb dL_law_1496 (by decide) ?_
          refine W.widen (k := rC) (n := rS) (Nat.le_trans (Nat.le_add_right _ _) hbc) (Nat.le_trans (Nat.le_add_right _ _) hbs) ?_
          exact hQ hp dL_law_1497 hW
      replace hp := hp.2
      by_cases c_284 : x_3 = 27
      · refine lv_tableIn (tgt := 1498) (x := x_3) (off := 1454) hx hb dL_law_44 (by rw [c_284]; decide) (by rw [c_284]; decide) (by rw [c_284]; decide) (by decide) ?_
        replace hp := hp.1 c_284
        refine lv_aload_n hx hb dL_law_1498 rfl (lv_at hl 1 rfl) ?_
        refine lv_aload_n hx hb dL_law_1499 rfl (lv_at hl 0 rfl) ?_
        refine lv_iload hx hb dL_law_1500 (lv_at hl 5 rfl) ?_
        refine lv_iconst (v := 1) hx hb dL_law_1502 (by decide) ?_
        refine lv_iadd hx hb dL_law_1503 ?_
        obtain ⟨h_285, hp⟩ := hp
        refine w_ild F hK hW hL_a0 hK_a0 h_285 dL_law_1504 ?_
        refine lv_aload_n hx hb dL_law_1505 rfl (lv_at hl 0 rfl) ?_
        refine lv_iload hx hb dL_law_1506 (lv_at hl 5 rfl) ?_
        refine lv_iconst (v := 2) hx hb dL_law_1508 (by decide) ?_
        refine lv_iadd hx hb dL_law_1509 ?_
        obtain ⟨h_286, hp⟩ := hp
        refine w_ild F hK hW hL_a0 hK_a0 h_286 dL_law_1510 ?_
        refine lv_if_eq (tgt := 1518) hx hb dL_law_1511 (by decide) (fun c_287 => ?_) (fun c_287 => ?_)
        · replace hp := hp.1 c_287
          refine lv_iconst (v := 0) hx hb dL_law_1518 (by decide) ?_
          exact t_L_law_1519 F hr hlocks hK hl0 hQ ih hbc hbs hp hW hE (lv_sub hl [0, 1, 2, 3, 4, 5] rfl) hL_a0 hK_a0 hL_a1 hK_a1 hL_a2 hK_a2 hL_a3 hK_a3 hL_a4 hK_a4 hL_a1 hK_a1
        · replace hp := hp.2 c_287
          refine lv_iconst (v := 1) hx hb dL_law_1514 (by decide) ?_
          refine lv_goto (tgt := 1519) hx hb dL_law_1515 (by decide) ?_
          exact t_L_law_1519 F hr hlocks hK hl0 hQ ih hbc hbs hp hW hE (lv_sub hl [0, 1, 2, 3, 4, 5] rfl) hL_a0 hK_a0 hL_a1 hK_a1 hL_a2 hK_a2 hL_a3 hK_a3 hL_a4 hK_a4 hL_a1 hK_a1
      replace hp := hp.2
      by_cases c_288 : x_3 = 28
      · refine lv_tableIn (tgt := 1582) (x := x_3) (off := 1538) hx hb dL_law_44 (by rw [c_288]; decide) (by rw [c_288]; decide) (by rw [c_288]; decide) (by decide) ?_
        replace hp := hp.1 c_288
        refine lv_aload_n hx hb dL_law_1582 rfl (lv_at hl 1 rfl) ?_
        refine lv_aload_n hx hb dL_law_1583 rfl (lv_at hl 0 rfl) ?_
        refine lv_iload hx hb dL_law_1584 (lv_at hl 5 rfl) ?_
        refine lv_iconst (v := 1) hx hb dL_law_1586 (by decide) ?_
        refine lv_iadd hx hb dL_law_1587 ?_
        obtain ⟨h_289, hp⟩ := hp
        refine w_ild F hK hW hL_a0 hK_a0 h_289 dL_law_1588 ?_
        refine lv_i2l (v := (Int32.toInt64 (sI S a0 ((x5 + (1 : Int32))).toNatClampNeg))) hx hb dL_law_1589 rfl ?_
        refine lv_bipush (v := 32) hx hb dL_law_1590 (by decide) ?_
        refine lv_lshl (v := (jlshl (Int32.toInt64 (sI S a0 ((x5 + (1 : Int32))).toNatClampNeg)) (32 : Int32))) hx hb dL_law_1592 rfl ?_
        refine lv_aload_n hx hb dL_law_1593 rfl (lv_at hl 0 rfl) ?_
        refine lv_iload hx hb dL_law_1594 (lv_at hl 5 rfl) ?_
        refine lv_iconst (v := 2) hx hb dL_law_1596 (by decide) ?_
        refine lv_iadd hx hb dL_law_1597 ?_
        obtain ⟨h_290, hp⟩ := hp
        refine w_ild F hK hW hL_a0 hK_a0 h_290 dL_law_1598 ?_
        refine lv_i2l (v := (Int32.toInt64 (sI S a0 ((x5 + (2 : Int32))).toNatClampNeg))) hx hb dL_law_1599 rfl ?_
        refine lv_ldc2 (v := 4294967295) hx hb hown (hwg _ wJ_RL_279) dL_law_1600 ?_
        refine lv_land hx hb dL_law_1603 ?_
        refine lv_lor hx hb dL_law_1604 ?_
        refine lv_aload_n hx hb dL_law_1605 rfl (lv_at hl 3 rfl) ?_
        obtain ⟨m_293, z_294, hm_293, hz_294, hp⟩ := hp
        refine x_callI (vx_runSX (As := [.ref a1, .long ((jlshl (Int32.toInt64 (sI S a0 ((x5 + (1 : Int32))).toNatClampNeg)) (32 : Int32)) ||| ((Int32.toInt64 (sI S a0 ((x5 + (2 : Int32))).toNatClampNeg)) &&& (4294967295 : Int64))), .ref a3]) (rest := []) F (c_L_type l hl0 hL_a1 hK_a1 hL_a3 hK_a3 hp H.size) (vx_cwSW 3 hts (wg_S wm_RL_281 wy_L_type) rfl rfl rfl ⟨by decide, by decide, by decide +kernel⟩ ⟨Nat.le_of_ble_eq_true rfl, Nat.le_of_ble_eq_true rfl⟩) (w_preS hK hW) rfl rfl hl.1 rfl (lv_room (Nat.le_of_ble_eq_true rfl)) dL_law_1606 ⟨by show _ + m_293 ≤ rC; omega, by show _ + z_294 ≤ rS; omega⟩) hW (fun E ce q9 S9 H locs hp hW h1 h2 h3 => hp.elim) (fun r_291 S_292 H locs hp hW => ?_)
        obtain ⟨hX_S_292, hp⟩ := hp
        refine W.widen (k := _ + m_293) (n := _ + z_294) (Nat.le_refl _) (Nat.le_refl _) ?_
        replace hbc := w_spend hbc (show m_293 ≤ bc by omega)
        replace hbs := w_spend hbs (show z_294 ≤ bs by omega)
        have hE := hE.trans hX_S_292
        have hK_a0 : sK S_292 a0 = 21 := (hX_S_292.2 a0 hL_a0).1.trans hK_a0
        have hL_a0 : wM D S_292 a0 := hX_S_292.M hL_a0
        have hK_a1 : sK S_292 a1 = 16 := (hX_S_292.2 a1 hL_a1).1.trans hK_a1
        have hL_a1 : wM D S_292 a1 := hX_S_292.M hL_a1
        have hK_a2 : sK S_292 a2 = 17 := (hX_S_292.2 a2 hL_a2).1.trans hK_a2
        have hL_a2 : wM D S_292 a2 := hX_S_292.M hL_a2
        have hK_a3 : sK S_292 a3 = 22 := (hX_S_292.2 a3 hL_a3).1.trans hK_a3
        have hL_a3 : wM D S_292 a3 := hX_S_292.M hL_a3
        have hK_a4 : sK S_292 a4 = 25 := (hX_S_292.2 a4 hL_a4).1.trans hK_a4
        have hL_a4 : wM D S_292 a4 := hX_S_292.M hL_a4
        refine lv_istore (lv' := [(6, .int r_291), (0, .ref a0), (1, .ref a1), (2, .ref a2), (3, .ref a3), (4, .ref a4), (5, .int x5)]) hx hb dL_law_1609 hl (by decide) rfl (fun ls hl => ?_)
        refine lv_aload_n hx hb dL_law_1611 rfl (lv_at hl 3 rfl) ?_
        refine lv_aload_n hx hb dL_law_1612 rfl (lv_at hl 1 rfl) ?_
        refine lv_iload hx hb dL_law_1613 (lv_at hl 6 rfl) ?_
        refine lv_iconst (v := 1) hx hb dL_law_1615 (by decide) ?_
        refine lv_iadd hx hb dL_law_1616 ?_
        obtain ⟨h_295, hp⟩ := hp
        refine w_ild F hK hW hL_a0 hK_a0 h_295 dL_law_1617 ?_
        refine lv_i2l (v := (Int32.toInt64 (sI S_292 a0 ((x5 + (1 : Int32))).toNatClampNeg))) hx hb dL_law_1618 rfl ?_
        refine lv_bipush (v := 32) hx hb dL_law_1619 (by decide) ?_
        refine lv_lshl (v := (jlshl (Int32.toInt64 (sI S_292 a0 ((x5 + (1 : Int32))).toNatClampNeg)) (32 : Int32))) hx hb dL_law_1621 rfl ?_
        refine lv_aload_n hx hb dL_law_1622 rfl (lv_at hl 1 rfl) ?_
        refine lv_iload hx hb dL_law_1623 (lv_at hl 6 rfl) ?_
        refine lv_iconst (v := 2) hx hb dL_law_1625 (by decide) ?_
        refine lv_iadd hx hb dL_law_1626 ?_
        obtain ⟨h_296, hp⟩ := hp
        refine w_ild F hK hW hL_a0 hK_a0 h_296 dL_law_1627 ?_
        refine lv_i2l (v := (Int32.toInt64 (sI S_292 a0 ((x5 + (2 : Int32))).toNatClampNeg))) hx hb dL_law_1628 rfl ?_
        refine lv_ldc2 (v := 4294967295) hx hb hown (hwg _ wJ_RL_279) dL_law_1629 ?_
        refine lv_land hx hb dL_law_1632 ?_
        refine lv_lor hx hb dL_law_1633 ?_
        refine w_callI (va_runV (As := [.long ((jlshl (Int32.toInt64 (sI S_292 a0 ((x5 + (1 : Int32))).toNatClampNeg)) (32 : Int32)) ||| ((Int32.toInt64 (sI S_292 a0 ((x5 + (2 : Int32))).toNatClampNeg)) &&& (4294967295 : Int64)))]) (rest := []) F (c_X12_type l hL_a2 hK_a2 hp H.size) (cwV (C := RX12) 1 hts (wg_V wm_RL_284 wy_X12_type) rfl rfl rfl (by decide +kernel) ⟨Nat.le_of_ble_eq_true rfl, Nat.le_of_ble_eq_true rfl⟩) (w_preV hK hW hL_a2 hK_a2 (by decide) rfl) rfl rfl hl.1 rfl (lv_room (Nat.le_of_ble_eq_true rfl)) dL_law_1634 ⟨by show _ ≤ rC; exact Nat.le_trans (Nat.le_add_right _ _) hbc, by show _ ≤ rS; exact Nat.le_trans (Nat.le_add_right _ _) hbs⟩) hW (fun r_297 S_298 H locs hp hW => ?_)
        obtain ⟨hX_S_298, hp⟩ := hp
        refine w_same ?_
        have hE := hE.trans hX_S_298
        have hK_a0 : sK S_298 a0 = 21 := (hX_S_298.2 a0 hL_a0).1.trans hK_a0
        have hL_a0 : wM D S_298 a0 := hX_S_298.M hL_a0
        have hK_a1 : sK S_298 a1 = 16 := (hX_S_298.2 a1 hL_a1).1.trans hK_a1
        have hL_a1 : wM D S_298 a1 := hX_S_298.M hL_a1
        have hK_a2 : sK S_298 a2 = 17 := (hX_S_298.2 a2 hL_a2).1.trans hK_a2
        have hL_a2 : wM D S_298 a2 := hX_S_298.M hL_a2
        have hK_a3 : sK S_298 a3 = 22 := (hX_S_298.2 a3 hL_a3).1.trans hK_a3
        have hL_a3 : wM D S_298 a3 := hX_S_298.M hL_a3
        have hK_a4 : sK S_298 a4 = 25 := (hX_S_298.2 a4 hL_a4).1.trans hK_a4
        have hL_a4 : wM D S_298 a4 := hX_S_298.M hL_a4
        refine lv_istore (lv' := [(7, .int r_297), (6, .int r_291), (0, .ref a0), (1, .ref a1), (2, .ref a2), (3, .ref a3), (4, .ref a4), (5, .int x5)]) hx hb dL_law_1637 hl (by decide) rfl (fun ls hl => ?_)
        refine lv_aload_n hx hb dL_law_1639 rfl (lv_at hl 4 rfl) ?_
        refine w_callI (va_runV (As := []) (rest := []) F (c_X12_thrown l hL_a2 hK_a2 hp H.size) (cwV (C := RX12) 0 hts (wg_V wm_RL_181 wy_X12_thrown) rfl rfl rfl (by decide +kernel) ⟨Nat.le_of_ble_eq_true rfl, Nat.le_of_ble_eq_true rfl⟩) (w_preV hK hW hL_a2 hK_a2 (by decide) rfl) rfl rfl hl.1 rfl (lv_room (Nat.le_of_ble_eq_true rfl)) dL_law_1640 ⟨by show _ ≤ rC; exact Nat.le_trans (Nat.le_add_right _ _) hbc, by show _ ≤ rS; exact Nat.le_trans (Nat.le_add_right _ _) hbs⟩) hW (fun r_299 S_300 H locs hp hW => ?_)
        obtain ⟨hX_S_300, hp⟩ := hp
        refine w_same ?_
        have hE := hE.trans hX_S_300
        have hK_a0 : sK S_300 a0 = 21 := (hX_S_300.2 a0 hL_a0).1.trans hK_a0
        have hL_a0 : wM D S_300 a0 := hX_S_300.M hL_a0
        have hK_a1 : sK S_300 a1 = 16 := (hX_S_300.2 a1 hL_a1).1.trans hK_a1
        have hL_a1 : wM D S_300 a1 := hX_S_300.M hL_a1
        have hK_a2 : sK S_300 a2 = 17 := (hX_S_300.2 a2 hL_a2).1.trans hK_a2
        have hL_a2 : wM D S_300 a2 := hX_S_300.M hL_a2
        have hK_a3 : sK S_300 a3 = 22 := (hX_S_300.2 a3 hL_a3).1.trans hK_a3
        have hL_a3 : wM D S_300 a3 := hX_S_300.M hL_a3
        have hK_a4 : sK S_300 a4 = 25 := (hX_S_300.2 a4 hL_a4).1.trans hK_a4
        have hL_a4 : wM D S_300 a4 := hX_S_300.M hL_a4
        refine lv_iload hx hb dL_law_1643 (lv_at hl 1 rfl) ?_
        refine lv_icmp_eq (tgt := 1650) hx hb dL_law_1645 (by decide) (fun c_301 => ?_) (fun c_301 => ?_)
        · replace hp := hp.1 c_301
          refine lv_iload hx hb dL_law_1650 (lv_at hl 1 rfl) ?_
          refine lv_if_ne (tgt := 1667) hx hb dL_law_1652 (by decide) (fun c_302 => ?_) (fun c_302 => ?_)
          · replace hp := hp.1 c_302
            exact t_L_law_1667 F hr hlocks hK hl0 hQ ih hbc hbs hp hW hE (lv_sub hl [2, 3, 4, 5, 6, 7] rfl) hL_a0 hK_a0 hL_a1 hK_a1 hL_a2 hK_a2 hL_a3 hK_a3 hL_a4 hK_a4
          · replace hp := hp.2 c_302
            refine lv_aload_n hx hb dL_law_1655 rfl (lv_at hl 5 rfl) ?_
            refine lv_iconst (v := 0) hx hb dL_law_1656 (by decide) ?_
            obtain ⟨h_303, hp⟩ := hp
            refine w_lld F hK hW hL_a3 hK_a3 h_303 dL_law_1657 ?_
            refine lv_iload hx hb dL_law_1658 (lv_at hl 0 rfl) ?_
            refine lv_i2l (v := (Int32.toInt64 r_297)) hx hb dL_law_1660 rfl ?_
            refine W.lcmp hx hb dL_law_1661 ?_
            refine lv_if_eq (tgt := 1667) hx hb dL_law_1662 (by decide) (fun c_304 => ?_) (fun c_304 => ?_)
            · replace hp := hp.1 c_304
              exact t_L_law_1667 F hr hlocks hK hl0 hQ ih hbc hbs hp hW hE (lv_sub hl [2, 3, 4, 5, 6, 7] rfl) hL_a0 hK_a0 hL_a1 hK_a1 hL_a2 hK_a2 hL_a3 hK_a3 hL_a4 hK_a4
            · replace hp := hp.2 c_304
              refine lv_iconst (v := 0) hx hb dL_law_1665 (by decide) ?_
              refine W.widen (k := rC) (n := rS) (Nat.le_trans (Nat.le_add_right _ _) hbc) (Nat.le_trans (Nat.le_add_right _ _) hbs) ?_
              exact hQ hp dL_law_1666 hW
        · replace hp := hp.2 c_301
          refine lv_iconst (v := 0) hx hb dL_law_1648 (by decide) ?_
          refine W.widen (k := rC) (n := rS) (Nat.le_trans (Nat.le_add_right _ _) hbc) (Nat.le_trans (Nat.le_add_right _ _) hbs) ?_
          exact hQ hp dL_law_1649 hW
      replace hp := hp.2
      by_cases c_305 : x_3 = 29
      · refine lv_tableIn (tgt := 1670) (x := x_3) (off := 1626) hx hb dL_law_44 (by rw [c_305]; decide) (by rw [c_305]; decide) (by rw [c_305]; decide) (by decide) ?_
        replace hp := hp.1 c_305
        refine lv_aload_n hx hb dL_law_1670 rfl (lv_at hl 1 rfl) ?_
        obtain ⟨m_308, z_309, hm_308, hz_309, hp⟩ := hp
        refine w_callI (va_runV (As := []) (rest := []) F (c_X11_clearText l hL_a1 hK_a1 hp H.size) (cwV (C := RX11) 0 hts (wg_V wm_RL_285 wy_X11_clearText) rfl rfl rfl (by decide +kernel) ⟨Nat.le_of_ble_eq_true rfl, Nat.le_of_ble_eq_true rfl⟩) (w_preV hK hW hL_a1 hK_a1 (by decide) rfl) rfl rfl hl.1 rfl (lv_room (Nat.le_of_ble_eq_true rfl)) dL_law_1671 ⟨by show _ + m_308 ≤ rC; omega, by show _ + z_309 ≤ rS; omega⟩) hW (fun r_306 S_307 H locs hp hW => ?_)
        obtain ⟨hX_S_307, hp⟩ := hp
        refine W.widen (k := _ + m_308) (n := _ + z_309) (Nat.le_refl _) (Nat.le_refl _) ?_
        replace hbc := w_spend hbc (show m_308 ≤ bc by omega)
        replace hbs := w_spend hbs (show z_309 ≤ bs by omega)
        have hE := hE.trans hX_S_307
        have hK_a0 : sK S_307 a0 = 21 := (hX_S_307.2 a0 hL_a0).1.trans hK_a0
        have hL_a0 : wM D S_307 a0 := hX_S_307.M hL_a0
        have hK_a1 : sK S_307 a1 = 16 := (hX_S_307.2 a1 hL_a1).1.trans hK_a1
        have hL_a1 : wM D S_307 a1 := hX_S_307.M hL_a1
        have hK_a2 : sK S_307 a2 = 17 := (hX_S_307.2 a2 hL_a2).1.trans hK_a2
        have hL_a2 : wM D S_307 a2 := hX_S_307.M hL_a2
        have hK_a3 : sK S_307 a3 = 22 := (hX_S_307.2 a3 hL_a3).1.trans hK_a3
        have hL_a3 : wM D S_307 a3 := hX_S_307.M hL_a3
        have hK_a4 : sK S_307 a4 = 25 := (hX_S_307.2 a4 hL_a4).1.trans hK_a4
        have hL_a4 : wM D S_307 a4 := hX_S_307.M hL_a4
        refine lv_aload_n hx hb dL_law_1674 rfl (lv_at hl 2 rfl) ?_
        refine w_callI (va_runV (As := []) (rest := [.int r_306]) F (c_X12_clearText l hL_a2 hK_a2 hp H.size) (cwV (C := RX12) 0 hts (wg_V wm_RL_288 wy_X12_clearText) rfl rfl rfl (by decide +kernel) ⟨Nat.le_of_ble_eq_true rfl, Nat.le_of_ble_eq_true rfl⟩) (w_preV hK hW hL_a2 hK_a2 (by decide) rfl) rfl rfl hl.1 rfl (lv_room (Nat.le_of_ble_eq_true rfl)) dL_law_1675 ⟨by show _ ≤ rC; exact Nat.le_trans (Nat.le_add_right _ _) hbc, by show _ ≤ rS; exact Nat.le_trans (Nat.le_add_right _ _) hbs⟩) hW (fun r_310 S_311 H locs hp hW => ?_)
        obtain ⟨hX_S_311, hp⟩ := hp
        refine w_same ?_
        have hE := hE.trans hX_S_311
        have hK_a0 : sK S_311 a0 = 21 := (hX_S_311.2 a0 hL_a0).1.trans hK_a0
        have hL_a0 : wM D S_311 a0 := hX_S_311.M hL_a0
        have hK_a1 : sK S_311 a1 = 16 := (hX_S_311.2 a1 hL_a1).1.trans hK_a1
        have hL_a1 : wM D S_311 a1 := hX_S_311.M hL_a1
        have hK_a2 : sK S_311 a2 = 17 := (hX_S_311.2 a2 hL_a2).1.trans hK_a2
        have hL_a2 : wM D S_311 a2 := hX_S_311.M hL_a2
        have hK_a3 : sK S_311 a3 = 22 := (hX_S_311.2 a3 hL_a3).1.trans hK_a3
        have hL_a3 : wM D S_311 a3 := hX_S_311.M hL_a3
        have hK_a4 : sK S_311 a4 = 25 := (hX_S_311.2 a4 hL_a4).1.trans hK_a4
        have hL_a4 : wM D S_311 a4 := hX_S_311.M hL_a4
        refine lv_icmp_eq (tgt := 3394) hx hb dL_law_1678 (by decide) (fun c_312 => ?_) (fun c_312 => ?_)
        · replace hp := hp.1 c_312
          exact t_L_law_3394 F hr hlocks hK hl0 hQ ih hbc hbs hp hW hE (lv_sub hl [0, 1, 2, 3, 4, 5] rfl) hL_a0 hK_a0 hL_a1 hK_a1 hL_a2 hK_a2 hL_a3 hK_a3 hL_a4 hK_a4
        · replace hp := hp.2 c_312
          refine lv_iconst (v := 0) hx hb dL_law_1681 (by decide) ?_
          refine W.widen (k := rC) (n := rS) (Nat.le_trans (Nat.le_add_right _ _) hbc) (Nat.le_trans (Nat.le_add_right _ _) hbs) ?_
          exact hQ hp dL_law_1682 hW
      replace hp := hp.2
      by_cases c_313 : x_3 = 30
      · refine lv_tableIn (tgt := 1683) (x := x_3) (off := 1639) hx hb dL_law_44 (by rw [c_313]; decide) (by rw [c_313]; decide) (by rw [c_313]; decide) (by decide) ?_
        replace hp := hp.1 c_313
        refine lv_aload_n hx hb dL_law_1683 rfl (lv_at hl 1 rfl) ?_
        refine lv_aload_n hx hb dL_law_1684 rfl (lv_at hl 3 rfl) ?_
        obtain ⟨h_316, h_316z, hp⟩ := hp
        refine x_callI (vx_runSX (As := [.ref a1, .ref a3]) (rest := []) F (c_L_fault l hl0 hL_a1 hK_a1 hL_a3 hK_a3 hp H.size) (vx_cwSW 2 hts (wg_S wm_RL_289 wy_L_fault) rfl rfl rfl ⟨by decide, by decide, by decide +kernel⟩ ⟨Nat.le_of_ble_eq_true rfl, Nat.le_of_ble_eq_true rfl⟩) (w_preS hK hW) rfl rfl hl.1 rfl (lv_room (Nat.le_of_ble_eq_true rfl)) dL_law_1685 ⟨by show _ + 1 ≤ rC; omega, by show _ + 6 ≤ rS; omega⟩) hW (fun E ce q9 S9 H locs hp hW h1 h2 h3 => hp.elim) (fun r_314 S_315 H locs hp hW => ?_)
        obtain ⟨hX_S_315, hp⟩ := hp
        refine W.widen (k := _ + 1) (n := _ + 6) (Nat.le_refl _) (Nat.le_refl _) ?_
        replace hbc := w_spend hbc (show 1 ≤ bc by omega)
        replace hbs := w_spend hbs (show 6 ≤ bs by omega)
        have hE := hE.trans hX_S_315
        have hK_a0 : sK S_315 a0 = 21 := (hX_S_315.2 a0 hL_a0).1.trans hK_a0
        have hL_a0 : wM D S_315 a0 := hX_S_315.M hL_a0
        have hK_a1 : sK S_315 a1 = 16 := (hX_S_315.2 a1 hL_a1).1.trans hK_a1
        have hL_a1 : wM D S_315 a1 := hX_S_315.M hL_a1
        have hK_a2 : sK S_315 a2 = 17 := (hX_S_315.2 a2 hL_a2).1.trans hK_a2
        have hL_a2 : wM D S_315 a2 := hX_S_315.M hL_a2
        have hK_a3 : sK S_315 a3 = 22 := (hX_S_315.2 a3 hL_a3).1.trans hK_a3
        have hL_a3 : wM D S_315 a3 := hX_S_315.M hL_a3
        have hK_a4 : sK S_315 a4 = 25 := (hX_S_315.2 a4 hL_a4).1.trans hK_a4
        have hL_a4 : wM D S_315 a4 := hX_S_315.M hL_a4
        refine lv_istore (lv' := [(6, .int r_314), (0, .ref a0), (1, .ref a1), (2, .ref a2), (3, .ref a3), (4, .ref a4), (5, .int x5)]) hx hb dL_law_1688 hl (by decide) rfl (fun ls hl => ?_)
        refine lv_aload_n hx hb dL_law_1690 rfl (lv_at hl 3 rfl) ?_
        refine w_callI (va_runV (As := []) (rest := []) F (c_X12_fault l hL_a2 hK_a2 hp H.size) (cwV (C := RX12) 0 hts (wg_V wm_RL_291 wy_X12_fault) rfl rfl rfl (by decide +kernel) ⟨Nat.le_of_ble_eq_true rfl, Nat.le_of_ble_eq_true rfl⟩) (w_preV hK hW hL_a2 hK_a2 (by decide) rfl) rfl rfl hl.1 rfl (lv_room (Nat.le_of_ble_eq_true rfl)) dL_law_1691 ⟨by show _ ≤ rC; exact Nat.le_trans (Nat.le_add_right _ _) hbc, by show _ ≤ rS; exact Nat.le_trans (Nat.le_add_right _ _) hbs⟩) hW (fun r_317 S_318 H locs hp hW => ?_)
        obtain ⟨hX_S_318, hp⟩ := hp
        refine w_same ?_
        have hE := hE.trans hX_S_318
        have hK_a0 : sK S_318 a0 = 21 := (hX_S_318.2 a0 hL_a0).1.trans hK_a0
        have hL_a0 : wM D S_318 a0 := hX_S_318.M hL_a0
        have hK_a1 : sK S_318 a1 = 16 := (hX_S_318.2 a1 hL_a1).1.trans hK_a1
        have hL_a1 : wM D S_318 a1 := hX_S_318.M hL_a1
        have hK_a2 : sK S_318 a2 = 17 := (hX_S_318.2 a2 hL_a2).1.trans hK_a2
        have hL_a2 : wM D S_318 a2 := hX_S_318.M hL_a2
        have hK_a3 : sK S_318 a3 = 22 := (hX_S_318.2 a3 hL_a3).1.trans hK_a3
        have hL_a3 : wM D S_318 a3 := hX_S_318.M hL_a3
        have hK_a4 : sK S_318 a4 = 25 := (hX_S_318.2 a4 hL_a4).1.trans hK_a4
        have hL_a4 : wM D S_318 a4 := hX_S_318.M hL_a4
        refine lv_istore (lv' := [(7, .int r_317), (6, .int r_314), (0, .ref a0), (1, .ref a1), (2, .ref a2), (3, .ref a3), (4, .ref a4), (5, .int x5)]) hx hb dL_law_1694 hl (by decide) rfl (fun ls hl => ?_)
        refine lv_aload_n hx hb dL_law_1696 rfl (lv_at hl 4 rfl) ?_
        refine w_callI (va_runV (As := []) (rest := []) F (c_X12_thrown l hL_a2 hK_a2 hp H.size) (cwV (C := RX12) 0 hts (wg_V wm_RL_181 wy_X12_thrown) rfl rfl rfl (by decide +kernel) ⟨Nat.le_of_ble_eq_true rfl, Nat.le_of_ble_eq_true rfl⟩) (w_preV hK hW hL_a2 hK_a2 (by decide) rfl) rfl rfl hl.1 rfl (lv_room (Nat.le_of_ble_eq_true rfl)) dL_law_1697 ⟨by show _ ≤ rC; exact Nat.le_trans (Nat.le_add_right _ _) hbc, by show _ ≤ rS; exact Nat.le_trans (Nat.le_add_right _ _) hbs⟩) hW (fun r_319 S_320 H locs hp hW => ?_)
        obtain ⟨hX_S_320, hp⟩ := hp
        refine w_same ?_
        have hE := hE.trans hX_S_320
        have hK_a0 : sK S_320 a0 = 21 := (hX_S_320.2 a0 hL_a0).1.trans hK_a0
        have hL_a0 : wM D S_320 a0 := hX_S_320.M hL_a0
        have hK_a1 : sK S_320 a1 = 16 := (hX_S_320.2 a1 hL_a1).1.trans hK_a1
        have hL_a1 : wM D S_320 a1 := hX_S_320.M hL_a1
        have hK_a2 : sK S_320 a2 = 17 := (hX_S_320.2 a2 hL_a2).1.trans hK_a2
        have hL_a2 : wM D S_320 a2 := hX_S_320.M hL_a2
        have hK_a3 : sK S_320 a3 = 22 := (hX_S_320.2 a3 hL_a3).1.trans hK_a3
        have hL_a3 : wM D S_320 a3 := hX_S_320.M hL_a3
        have hK_a4 : sK S_320 a4 = 25 := (hX_S_320.2 a4 hL_a4).1.trans hK_a4
        have hL_a4 : wM D S_320 a4 := hX_S_320.M hL_a4
        refine lv_iload hx hb dL_law_1700 (lv_at hl 1 rfl) ?_
        refine lv_icmp_eq (tgt := 1707) hx hb dL_law_1702 (by decide) (fun c_321 => ?_) (fun c_321 => ?_)
        · replace hp := hp.1 c_321
          refine lv_iload hx hb dL_law_1707 (lv_at hl 1 rfl) ?_
          refine lv_if_ne (tgt := 1724) hx hb dL_law_1709 (by decide) (fun c_322 => ?_) (fun c_322 => ?_)
          · replace hp := hp.1 c_322
            exact t_L_law_1724 F hr hlocks hK hl0 hQ ih hbc hbs hp hW hE (lv_sub hl [2, 3, 4, 5, 6, 7] rfl) hL_a0 hK_a0 hL_a1 hK_a1 hL_a2 hK_a2 hL_a3 hK_a3 hL_a4 hK_a4
          · replace hp := hp.2 c_322
            refine lv_aload_n hx hb dL_law_1712 rfl (lv_at hl 5 rfl) ?_
            refine lv_iconst (v := 0) hx hb dL_law_1713 (by decide) ?_
            obtain ⟨h_323, hp⟩ := hp
            refine w_lld F hK hW hL_a3 hK_a3 h_323 dL_law_1714 ?_
            refine lv_iload hx hb dL_law_1715 (lv_at hl 0 rfl) ?_
            refine lv_i2l (v := (Int32.toInt64 r_317)) hx hb dL_law_1717 rfl ?_
            refine W.lcmp hx hb dL_law_1718 ?_
            refine lv_if_eq (tgt := 1724) hx hb dL_law_1719 (by decide) (fun c_324 => ?_) (fun c_324 => ?_)
            · replace hp := hp.1 c_324
              exact t_L_law_1724 F hr hlocks hK hl0 hQ ih hbc hbs hp hW hE (lv_sub hl [2, 3, 4, 5, 6, 7] rfl) hL_a0 hK_a0 hL_a1 hK_a1 hL_a2 hK_a2 hL_a3 hK_a3 hL_a4 hK_a4
            · replace hp := hp.2 c_324
              refine lv_iconst (v := 0) hx hb dL_law_1722 (by decide) ?_
              refine W.widen (k := rC) (n := rS) (Nat.le_trans (Nat.le_add_right _ _) hbc) (Nat.le_trans (Nat.le_add_right _ _) hbs) ?_
              exact hQ hp dL_law_1723 hW
        · replace hp := hp.2 c_321
          refine lv_iconst (v := 0) hx hb dL_law_1705 (by decide) ?_
          refine W.widen (k := rC) (n := rS) (Nat.le_trans (Nat.le_add_right _ _) hbc) (Nat.le_trans (Nat.le_add_right _ _) hbs) ?_
          exact hQ hp dL_law_1706 hW
      replace hp := hp.2
      by_cases c_325 : x_3 = 31
      · refine lv_tableIn (tgt := 1727) (x := x_3) (off := 1683) hx hb dL_law_44 (by rw [c_325]; decide) (by rw [c_325]; decide) (by rw [c_325]; decide) (by decide) ?_
        replace hp := hp.1 c_325
        refine lv_aload_n hx hb dL_law_1727 rfl (lv_at hl 1 rfl) ?_
        refine lv_aload_n hx hb dL_law_1728 rfl (lv_at hl 3 rfl) ?_
        obtain ⟨m_328, z_329, hm_328, hz_329, hp⟩ := hp
        refine x_callI (vx_runSX (As := [.ref a1, .ref a3]) (rest := []) F (c_L_readMoves l hl0 hL_a1 hK_a1 hL_a3 hK_a3 hp H.size) (vx_cwSW 2 hts (wg_S wm_RL_292 wy_L_readMoves) rfl rfl rfl ⟨by decide, by decide, by decide +kernel⟩ ⟨Nat.le_of_ble_eq_true rfl, Nat.le_of_ble_eq_true rfl⟩) (w_preS hK hW) rfl rfl hl.1 rfl (lv_room (Nat.le_of_ble_eq_true rfl)) dL_law_1729 ⟨by show _ + m_328 ≤ rC; omega, by show _ + z_329 ≤ rS; omega⟩) hW (fun E ce q9 S9 H locs hp hW h1 h2 h3 => hp.elim) (fun r_326 S_327 H locs hp hW => ?_)
        obtain ⟨hX_S_327, hp⟩ := hp
        refine W.widen (k := _ + m_328) (n := _ + z_329) (Nat.le_refl _) (Nat.le_refl _) ?_
        replace hbc := w_spend hbc (show m_328 ≤ bc by omega)
        replace hbs := w_spend hbs (show z_329 ≤ bs by omega)
        have hE := hE.trans hX_S_327
        have hK_a0 : sK S_327 a0 = 21 := (hX_S_327.2 a0 hL_a0).1.trans hK_a0
        have hL_a0 : wM D S_327 a0 := hX_S_327.M hL_a0
        have hK_a1 : sK S_327 a1 = 16 := (hX_S_327.2 a1 hL_a1).1.trans hK_a1
        have hL_a1 : wM D S_327 a1 := hX_S_327.M hL_a1
        have hK_a2 : sK S_327 a2 = 17 := (hX_S_327.2 a2 hL_a2).1.trans hK_a2
        have hL_a2 : wM D S_327 a2 := hX_S_327.M hL_a2
        have hK_a3 : sK S_327 a3 = 22 := (hX_S_327.2 a3 hL_a3).1.trans hK_a3
        have hL_a3 : wM D S_327 a3 := hX_S_327.M hL_a3
        have hK_a4 : sK S_327 a4 = 25 := (hX_S_327.2 a4 hL_a4).1.trans hK_a4
        have hL_a4 : wM D S_327 a4 := hX_S_327.M hL_a4
        refine lv_istore (lv' := [(6, .int r_326), (0, .ref a0), (1, .ref a1), (2, .ref a2), (3, .ref a3), (4, .ref a4), (5, .int x5)]) hx hb dL_law_1732 hl (by decide) rfl (fun ls hl => ?_)
        refine lv_aload_n hx hb dL_law_1734 rfl (lv_at hl 3 rfl) ?_
        refine w_callI (va_runV (As := []) (rest := []) F (c_X12_readMoves l hL_a2 hK_a2 hp H.size) (cwV (C := RX12) 0 hts (wg_V wm_RL_294 wy_X12_readMoves) rfl rfl rfl (by decide +kernel) ⟨Nat.le_of_ble_eq_true rfl, Nat.le_of_ble_eq_true rfl⟩) (w_preV hK hW hL_a2 hK_a2 (by decide) rfl) rfl rfl hl.1 rfl (lv_room (Nat.le_of_ble_eq_true rfl)) dL_law_1735 ⟨by show _ ≤ rC; exact Nat.le_trans (Nat.le_add_right _ _) hbc, by show _ ≤ rS; exact Nat.le_trans (Nat.le_add_right _ _) hbs⟩) hW (fun r_330 S_331 H locs hp hW => ?_)
        obtain ⟨hX_S_331, hp⟩ := hp
        refine w_same ?_
        have hE := hE.trans hX_S_331
        have hK_a0 : sK S_331 a0 = 21 := (hX_S_331.2 a0 hL_a0).1.trans hK_a0
        have hL_a0 : wM D S_331 a0 := hX_S_331.M hL_a0
        have hK_a1 : sK S_331 a1 = 16 := (hX_S_331.2 a1 hL_a1).1.trans hK_a1
        have hL_a1 : wM D S_331 a1 := hX_S_331.M hL_a1
        have hK_a2 : sK S_331 a2 = 17 := (hX_S_331.2 a2 hL_a2).1.trans hK_a2
        have hL_a2 : wM D S_331 a2 := hX_S_331.M hL_a2
        have hK_a3 : sK S_331 a3 = 22 := (hX_S_331.2 a3 hL_a3).1.trans hK_a3
        have hL_a3 : wM D S_331 a3 := hX_S_331.M hL_a3
        have hK_a4 : sK S_331 a4 = 25 := (hX_S_331.2 a4 hL_a4).1.trans hK_a4
        have hL_a4 : wM D S_331 a4 := hX_S_331.M hL_a4
        refine lv_istore (lv' := [(7, .int r_330), (6, .int r_326), (0, .ref a0), (1, .ref a1), (2, .ref a2), (3, .ref a3), (4, .ref a4), (5, .int x5)]) hx hb dL_law_1738 hl (by decide) rfl (fun ls hl => ?_)
        refine lv_aload_n hx hb dL_law_1740 rfl (lv_at hl 4 rfl) ?_
        refine w_callI (va_runV (As := []) (rest := []) F (c_X12_thrown l hL_a2 hK_a2 hp H.size) (cwV (C := RX12) 0 hts (wg_V wm_RL_181 wy_X12_thrown) rfl rfl rfl (by decide +kernel) ⟨Nat.le_of_ble_eq_true rfl, Nat.le_of_ble_eq_true rfl⟩) (w_preV hK hW hL_a2 hK_a2 (by decide) rfl) rfl rfl hl.1 rfl (lv_room (Nat.le_of_ble_eq_true rfl)) dL_law_1741 ⟨by show _ ≤ rC; exact Nat.le_trans (Nat.le_add_right _ _) hbc, by show _ ≤ rS; exact Nat.le_trans (Nat.le_add_right _ _) hbs⟩) hW (fun r_332 S_333 H locs hp hW => ?_)
        obtain ⟨hX_S_333, hp⟩ := hp
        refine w_same ?_
        have hE := hE.trans hX_S_333
        have hK_a0 : sK S_333 a0 = 21 := (hX_S_333.2 a0 hL_a0).1.trans hK_a0
        have hL_a0 : wM D S_333 a0 := hX_S_333.M hL_a0
        have hK_a1 : sK S_333 a1 = 16 := (hX_S_333.2 a1 hL_a1).1.trans hK_a1
        have hL_a1 : wM D S_333 a1 := hX_S_333.M hL_a1
        have hK_a2 : sK S_333 a2 = 17 := (hX_S_333.2 a2 hL_a2).1.trans hK_a2
        have hL_a2 : wM D S_333 a2 := hX_S_333.M hL_a2
        have hK_a3 : sK S_333 a3 = 22 := (hX_S_333.2 a3 hL_a3).1.trans hK_a3
        have hL_a3 : wM D S_333 a3 := hX_S_333.M hL_a3
        have hK_a4 : sK S_333 a4 = 25 := (hX_S_333.2 a4 hL_a4).1.trans hK_a4
        have hL_a4 : wM D S_333 a4 := hX_S_333.M hL_a4
        refine lv_iload hx hb dL_law_1744 (lv_at hl 1 rfl) ?_
        refine lv_icmp_eq (tgt := 1751) hx hb dL_law_1746 (by decide) (fun c_334 => ?_) (fun c_334 => ?_)
        · replace hp := hp.1 c_334
          refine lv_iload hx hb dL_law_1751 (lv_at hl 1 rfl) ?_
          refine lv_if_ne (tgt := 1768) hx hb dL_law_1753 (by decide) (fun c_335 => ?_) (fun c_335 => ?_)
          · replace hp := hp.1 c_335
            exact t_L_law_1768 F hr hlocks hK hl0 hQ ih hbc hbs hp hW hE (lv_sub hl [2, 3, 4, 5, 6, 7] rfl) hL_a0 hK_a0 hL_a1 hK_a1 hL_a2 hK_a2 hL_a3 hK_a3 hL_a4 hK_a4
          · replace hp := hp.2 c_335
            refine lv_aload_n hx hb dL_law_1756 rfl (lv_at hl 5 rfl) ?_
            refine lv_iconst (v := 0) hx hb dL_law_1757 (by decide) ?_
            obtain ⟨h_336, hp⟩ := hp
            refine w_lld F hK hW hL_a3 hK_a3 h_336 dL_law_1758 ?_
            refine lv_iload hx hb dL_law_1759 (lv_at hl 0 rfl) ?_
            refine lv_i2l (v := (Int32.toInt64 r_330)) hx hb dL_law_1761 rfl ?_
            refine W.lcmp hx hb dL_law_1762 ?_
            refine lv_if_eq (tgt := 1768) hx hb dL_law_1763 (by decide) (fun c_337 => ?_) (fun c_337 => ?_)
            · replace hp := hp.1 c_337
              exact t_L_law_1768 F hr hlocks hK hl0 hQ ih hbc hbs hp hW hE (lv_sub hl [2, 3, 4, 5, 6, 7] rfl) hL_a0 hK_a0 hL_a1 hK_a1 hL_a2 hK_a2 hL_a3 hK_a3 hL_a4 hK_a4
            · replace hp := hp.2 c_337
              refine lv_iconst (v := 0) hx hb dL_law_1766 (by decide) ?_
              refine W.widen (k := rC) (n := rS) (Nat.le_trans (Nat.le_add_right _ _) hbc) (Nat.le_trans (Nat.le_add_right _ _) hbs) ?_
              exact hQ hp dL_law_1767 hW
        · replace hp := hp.2 c_334
          refine lv_iconst (v := 0) hx hb dL_law_1749 (by decide) ?_
          refine W.widen (k := rC) (n := rS) (Nat.le_trans (Nat.le_add_right _ _) hbc) (Nat.le_trans (Nat.le_add_right _ _) hbs) ?_
          exact hQ hp dL_law_1750 hW
      replace hp := hp.2
      by_cases c_338 : x_3 = 32
      · refine lv_tableIn (tgt := 1771) (x := x_3) (off := 1727) hx hb dL_law_44 (by rw [c_338]; decide) (by rw [c_338]; decide) (by rw [c_338]; decide) (by decide) ?_
        replace hp := hp.1 c_338
        refine lv_aload_n hx hb dL_law_1771 rfl (lv_at hl 1 rfl) ?_
        refine w_callI (va_runV (As := []) (rest := []) F (c_X11_variationMoves l hL_a1 hK_a1 hp H.size) (cwV (C := RX11) 0 hts (wg_V wm_RL_295 wy_X11_variationMoves) rfl rfl rfl (by decide +kernel) ⟨Nat.le_of_ble_eq_true rfl, Nat.le_of_ble_eq_true rfl⟩) (w_preV hK hW hL_a1 hK_a1 (by decide) rfl) rfl rfl hl.1 rfl (lv_room (Nat.le_of_ble_eq_true rfl)) dL_law_1772 ⟨by show _ ≤ rC; exact Nat.le_trans (Nat.le_add_right _ _) hbc, by show _ ≤ rS; exact Nat.le_trans (Nat.le_add_right _ _) hbs⟩) hW (fun r_339 S_340 H locs hp hW => ?_)
        obtain ⟨hX_S_340, hp⟩ := hp
        refine w_same ?_
        have hE := hE.trans hX_S_340
        have hK_a0 : sK S_340 a0 = 21 := (hX_S_340.2 a0 hL_a0).1.trans hK_a0
        have hL_a0 : wM D S_340 a0 := hX_S_340.M hL_a0
        have hK_a1 : sK S_340 a1 = 16 := (hX_S_340.2 a1 hL_a1).1.trans hK_a1
        have hL_a1 : wM D S_340 a1 := hX_S_340.M hL_a1
        have hK_a2 : sK S_340 a2 = 17 := (hX_S_340.2 a2 hL_a2).1.trans hK_a2
        have hL_a2 : wM D S_340 a2 := hX_S_340.M hL_a2
        have hK_a3 : sK S_340 a3 = 22 := (hX_S_340.2 a3 hL_a3).1.trans hK_a3
        have hL_a3 : wM D S_340 a3 := hX_S_340.M hL_a3
        have hK_a4 : sK S_340 a4 = 25 := (hX_S_340.2 a4 hL_a4).1.trans hK_a4
        have hL_a4 : wM D S_340 a4 := hX_S_340.M hL_a4
        refine lv_aload_n hx hb dL_law_1775 rfl (lv_at hl 2 rfl) ?_
        refine w_callI (va_runV (As := []) (rest := [.int r_339]) F (c_X12_variationMoves l hL_a2 hK_a2 hp H.size) (cwV (C := RX12) 0 hts (wg_V wm_RL_298 wy_X12_variationMoves) rfl rfl rfl (by decide +kernel) ⟨Nat.le_of_ble_eq_true rfl, Nat.le_of_ble_eq_true rfl⟩) (w_preV hK hW hL_a2 hK_a2 (by decide) rfl) rfl rfl hl.1 rfl (lv_room (Nat.le_of_ble_eq_true rfl)) dL_law_1776 ⟨by show _ ≤ rC; exact Nat.le_trans (Nat.le_add_right _ _) hbc, by show _ ≤ rS; exact Nat.le_trans (Nat.le_add_right _ _) hbs⟩) hW (fun r_341 S_342 H locs hp hW => ?_)
        obtain ⟨hX_S_342, hp⟩ := hp
        refine w_same ?_
        have hE := hE.trans hX_S_342
        have hK_a0 : sK S_342 a0 = 21 := (hX_S_342.2 a0 hL_a0).1.trans hK_a0
        have hL_a0 : wM D S_342 a0 := hX_S_342.M hL_a0
        have hK_a1 : sK S_342 a1 = 16 := (hX_S_342.2 a1 hL_a1).1.trans hK_a1
        have hL_a1 : wM D S_342 a1 := hX_S_342.M hL_a1
        have hK_a2 : sK S_342 a2 = 17 := (hX_S_342.2 a2 hL_a2).1.trans hK_a2
        have hL_a2 : wM D S_342 a2 := hX_S_342.M hL_a2
        have hK_a3 : sK S_342 a3 = 22 := (hX_S_342.2 a3 hL_a3).1.trans hK_a3
        have hL_a3 : wM D S_342 a3 := hX_S_342.M hL_a3
        have hK_a4 : sK S_342 a4 = 25 := (hX_S_342.2 a4 hL_a4).1.trans hK_a4
        have hL_a4 : wM D S_342 a4 := hX_S_342.M hL_a4
        refine lv_icmp_eq (tgt := 3394) hx hb dL_law_1779 (by decide) (fun c_343 => ?_) (fun c_343 => ?_)
        · replace hp := hp.1 c_343
          exact t_L_law_3394 F hr hlocks hK hl0 hQ ih hbc hbs hp hW hE (lv_sub hl [0, 1, 2, 3, 4, 5] rfl) hL_a0 hK_a0 hL_a1 hK_a1 hL_a2 hK_a2 hL_a3 hK_a3 hL_a4 hK_a4
        · replace hp := hp.2 c_343
          refine lv_iconst (v := 0) hx hb dL_law_1782 (by decide) ?_
          refine W.widen (k := rC) (n := rS) (Nat.le_trans (Nat.le_add_right _ _) hbc) (Nat.le_trans (Nat.le_add_right _ _) hbs) ?_
          exact hQ hp dL_law_1783 hW
      replace hp := hp.2
      by_cases c_344 : x_3 = 33
      · refine lv_tableIn (tgt := 1784) (x := x_3) (off := 1740) hx hb dL_law_44 (by rw [c_344]; decide) (by rw [c_344]; decide) (by rw [c_344]; decide) (by decide) ?_
        replace hp := hp.1 c_344
        refine lv_aload_n hx hb dL_law_1784 rfl (lv_at hl 1 rfl) ?_
        refine lv_aload_n hx hb dL_law_1785 rfl (lv_at hl 0 rfl) ?_
        refine lv_iload hx hb dL_law_1786 (lv_at hl 5 rfl) ?_
        refine lv_iconst (v := 1) hx hb dL_law_1788 (by decide) ?_
        refine lv_iadd hx hb dL_law_1789 ?_
        obtain ⟨h_345, hp⟩ := hp
        refine w_ild F hK hW hL_a0 hK_a0 h_345 dL_law_1790 ?_
        refine lv_aload_n hx hb dL_law_1791 rfl (lv_at hl 0 rfl) ?_
        refine lv_iload hx hb dL_law_1792 (lv_at hl 5 rfl) ?_
        refine lv_iconst (v := 2) hx hb dL_law_1794 (by decide) ?_
        refine lv_iadd hx hb dL_law_1795 ?_
        obtain ⟨h_346, hp⟩ := hp
        refine w_ild F hK hW hL_a0 hK_a0 h_346 dL_law_1796 ?_
        refine lv_aload_n hx hb dL_law_1797 rfl (lv_at hl 0 rfl) ?_
        refine lv_iload hx hb dL_law_1798 (lv_at hl 5 rfl) ?_
        refine lv_iconst (v := 3) hx hb dL_law_1800 (by decide) ?_
        refine lv_iadd hx hb dL_law_1801 ?_
        obtain ⟨h_347, hp⟩ := hp
        refine w_ild F hK hW hL_a0 hK_a0 h_347 dL_law_1802 ?_
        refine lv_aload_n hx hb dL_law_1803 rfl (lv_at hl 0 rfl) ?_
        refine lv_iload hx hb dL_law_1804 (lv_at hl 5 rfl) ?_
        refine lv_iconst (v := 4) hx hb dL_law_1806 (by decide) ?_
        refine lv_iadd hx hb dL_law_1807 ?_
        obtain ⟨h_348, hp⟩ := hp
        refine w_ild F hK hW hL_a0 hK_a0 h_348 dL_law_1808 ?_
        refine lv_aload_n hx hb dL_law_1809 rfl (lv_at hl 3 rfl) ?_
        obtain ⟨m_351, z_352, hm_351, hz_352, hp⟩ := hp
        refine x_callI (vx_runSX (As := [.ref a1, .int (sI S a0 ((x5 + (1 : Int32))).toNatClampNeg), .int (sI S a0 ((x5 + (2 : Int32))).toNatClampNeg), .int (sI S a0 ((x5 + (3 : Int32))).toNatClampNeg), .int (sI S a0 ((x5 + (4 : Int32))).toNatClampNeg), .ref a3]) (rest := []) F (c_L_addGame l hl0 hL_a1 hK_a1 hL_a3 hK_a3 hp H.size) (vx_cwSW 6 hts (wg_S wm_RL_299 wy_L_addGame) rfl rfl rfl ⟨by decide, by decide, by decide +kernel⟩ ⟨Nat.le_of_ble_eq_true rfl, Nat.le_of_ble_eq_true rfl⟩) (w_preS hK hW) rfl rfl hl.1 rfl (lv_room (Nat.le_of_ble_eq_true rfl)) dL_law_1810 ⟨by show _ + m_351 ≤ rC; omega, by show _ + z_352 ≤ rS; omega⟩) hW (fun E ce q9 S9 H locs hp hW h1 h2 h3 => hp.elim) (fun r_349 S_350 H locs hp hW => ?_)
        obtain ⟨hX_S_350, hp⟩ := hp
        refine W.widen (k := _ + m_351) (n := _ + z_352) (Nat.le_refl _) (Nat.le_refl _) ?_
        replace hbc := w_spend hbc (show m_351 ≤ bc by omega)
        replace hbs := w_spend hbs (show z_352 ≤ bs by omega)
        have hE := hE.trans hX_S_350
        have hK_a0 : sK S_350 a0 = 21 := (hX_S_350.2 a0 hL_a0).1.trans hK_a0
        have hL_a0 : wM D S_350 a0 := hX_S_350.M hL_a0
        have hK_a1 : sK S_350 a1 = 16 := (hX_S_350.2 a1 hL_a1).1.trans hK_a1
        have hL_a1 : wM D S_350 a1 := hX_S_350.M hL_a1
        have hK_a2 : sK S_350 a2 = 17 := (hX_S_350.2 a2 hL_a2).1.trans hK_a2
        have hL_a2 : wM D S_350 a2 := hX_S_350.M hL_a2
        have hK_a3 : sK S_350 a3 = 22 := (hX_S_350.2 a3 hL_a3).1.trans hK_a3
        have hL_a3 : wM D S_350 a3 := hX_S_350.M hL_a3
        have hK_a4 : sK S_350 a4 = 25 := (hX_S_350.2 a4 hL_a4).1.trans hK_a4
        have hL_a4 : wM D S_350 a4 := hX_S_350.M hL_a4
        refine lv_istore (lv' := [(6, .int r_349), (0, .ref a0), (1, .ref a1), (2, .ref a2), (3, .ref a3), (4, .ref a4), (5, .int x5)]) hx hb dL_law_1813 hl (by decide) rfl (fun ls hl => ?_)
        refine lv_aload_n hx hb dL_law_1815 rfl (lv_at hl 3 rfl) ?_
        refine lv_aload_n hx hb dL_law_1816 rfl (lv_at hl 1 rfl) ?_
        refine lv_iload hx hb dL_law_1817 (lv_at hl 6 rfl) ?_
        refine lv_iconst (v := 1) hx hb dL_law_1819 (by decide) ?_
        refine lv_iadd hx hb dL_law_1820 ?_
        obtain ⟨h_353, hp⟩ := hp
        refine w_ild F hK hW hL_a0 hK_a0 h_353 dL_law_1821 ?_
        refine lv_aload_n hx hb dL_law_1822 rfl (lv_at hl 1 rfl) ?_
        refine lv_iload hx hb dL_law_1823 (lv_at hl 6 rfl) ?_
        refine lv_iconst (v := 2) hx hb dL_law_1825 (by decide) ?_
        refine lv_iadd hx hb dL_law_1826 ?_
        obtain ⟨h_354, hp⟩ := hp
        refine w_ild F hK hW hL_a0 hK_a0 h_354 dL_law_1827 ?_
        refine lv_aload_n hx hb dL_law_1828 rfl (lv_at hl 1 rfl) ?_
        refine lv_iload hx hb dL_law_1829 (lv_at hl 6 rfl) ?_
        refine lv_iconst (v := 3) hx hb dL_law_1831 (by decide) ?_
        refine lv_iadd hx hb dL_law_1832 ?_
        obtain ⟨h_355, hp⟩ := hp
        refine w_ild F hK hW hL_a0 hK_a0 h_355 dL_law_1833 ?_
        refine lv_aload_n hx hb dL_law_1834 rfl (lv_at hl 1 rfl) ?_
        refine lv_iload hx hb dL_law_1835 (lv_at hl 6 rfl) ?_
        refine lv_iconst (v := 4) hx hb dL_law_1837 (by decide) ?_
        refine lv_iadd hx hb dL_law_1838 ?_
        obtain ⟨h_356, hp⟩ := hp
        refine w_ild F hK hW hL_a0 hK_a0 h_356 dL_law_1839 ?_
        refine w_callI (va_runV (As := [.int (sI S_350 a0 ((x5 + (1 : Int32))).toNatClampNeg), .int (sI S_350 a0 ((x5 + (2 : Int32))).toNatClampNeg), .int (sI S_350 a0 ((x5 + (3 : Int32))).toNatClampNeg), .int (sI S_350 a0 ((x5 + (4 : Int32))).toNatClampNeg)]) (rest := []) F (c_X12_addGame l hL_a2 hK_a2 hp H.size) (cwV (C := RX12) 4 hts (wg_V wm_RL_302 wy_X12_addGame) rfl rfl rfl (by decide +kernel) ⟨Nat.le_of_ble_eq_true rfl, Nat.le_of_ble_eq_true rfl⟩) (w_preV hK hW hL_a2 hK_a2 (by decide) rfl) rfl rfl hl.1 rfl (lv_room (Nat.le_of_ble_eq_true rfl)) dL_law_1840 ⟨by show _ ≤ rC; exact Nat.le_trans (Nat.le_add_right _ _) hbc, by show _ ≤ rS; exact Nat.le_trans (Nat.le_add_right _ _) hbs⟩) hW (fun r_357 S_358 H locs hp hW => ?_)
        obtain ⟨hX_S_358, hp⟩ := hp
        refine w_same ?_
        have hE := hE.trans hX_S_358
        have hK_a0 : sK S_358 a0 = 21 := (hX_S_358.2 a0 hL_a0).1.trans hK_a0
        have hL_a0 : wM D S_358 a0 := hX_S_358.M hL_a0
        have hK_a1 : sK S_358 a1 = 16 := (hX_S_358.2 a1 hL_a1).1.trans hK_a1
        have hL_a1 : wM D S_358 a1 := hX_S_358.M hL_a1
        have hK_a2 : sK S_358 a2 = 17 := (hX_S_358.2 a2 hL_a2).1.trans hK_a2
        have hL_a2 : wM D S_358 a2 := hX_S_358.M hL_a2
        have hK_a3 : sK S_358 a3 = 22 := (hX_S_358.2 a3 hL_a3).1.trans hK_a3
        have hL_a3 : wM D S_358 a3 := hX_S_358.M hL_a3
        have hK_a4 : sK S_358 a4 = 25 := (hX_S_358.2 a4 hL_a4).1.trans hK_a4
        have hL_a4 : wM D S_358 a4 := hX_S_358.M hL_a4
        refine lv_istore (lv' := [(7, .int r_357), (6, .int r_349), (0, .ref a0), (1, .ref a1), (2, .ref a2), (3, .ref a3), (4, .ref a4), (5, .int x5)]) hx hb dL_law_1843 hl (by decide) rfl (fun ls hl => ?_)
        refine lv_aload_n hx hb dL_law_1845 rfl (lv_at hl 4 rfl) ?_
        refine w_callI (va_runV (As := []) (rest := []) F (c_X12_thrown l hL_a2 hK_a2 hp H.size) (cwV (C := RX12) 0 hts (wg_V wm_RL_181 wy_X12_thrown) rfl rfl rfl (by decide +kernel) ⟨Nat.le_of_ble_eq_true rfl, Nat.le_of_ble_eq_true rfl⟩) (w_preV hK hW hL_a2 hK_a2 (by decide) rfl) rfl rfl hl.1 rfl (lv_room (Nat.le_of_ble_eq_true rfl)) dL_law_1846 ⟨by show _ ≤ rC; exact Nat.le_trans (Nat.le_add_right _ _) hbc, by show _ ≤ rS; exact Nat.le_trans (Nat.le_add_right _ _) hbs⟩) hW (fun r_359 S_360 H locs hp hW => ?_)
        obtain ⟨hX_S_360, hp⟩ := hp
        refine w_same ?_
        have hE := hE.trans hX_S_360
        have hK_a0 : sK S_360 a0 = 21 := (hX_S_360.2 a0 hL_a0).1.trans hK_a0
        have hL_a0 : wM D S_360 a0 := hX_S_360.M hL_a0
        have hK_a1 : sK S_360 a1 = 16 := (hX_S_360.2 a1 hL_a1).1.trans hK_a1
        have hL_a1 : wM D S_360 a1 := hX_S_360.M hL_a1
        have hK_a2 : sK S_360 a2 = 17 := (hX_S_360.2 a2 hL_a2).1.trans hK_a2
        have hL_a2 : wM D S_360 a2 := hX_S_360.M hL_a2
        have hK_a3 : sK S_360 a3 = 22 := (hX_S_360.2 a3 hL_a3).1.trans hK_a3
        have hL_a3 : wM D S_360 a3 := hX_S_360.M hL_a3
        have hK_a4 : sK S_360 a4 = 25 := (hX_S_360.2 a4 hL_a4).1.trans hK_a4
        have hL_a4 : wM D S_360 a4 := hX_S_360.M hL_a4
        refine lv_iload hx hb dL_law_1849 (lv_at hl 1 rfl) ?_
        refine lv_icmp_eq (tgt := 1856) hx hb dL_law_1851 (by decide) (fun c_361 => ?_) (fun c_361 => ?_)
        · replace hp := hp.1 c_361
          refine lv_iload hx hb dL_law_1856 (lv_at hl 1 rfl) ?_
          refine lv_if_ne (tgt := 1873) hx hb dL_law_1858 (by decide) (fun c_362 => ?_) (fun c_362 => ?_)
          · replace hp := hp.1 c_362
            exact t_L_law_1873 F hr hlocks hK hl0 hQ ih hbc hbs hp hW hE (lv_sub hl [2, 3, 4, 5, 6, 7] rfl) hL_a0 hK_a0 hL_a1 hK_a1 hL_a2 hK_a2 hL_a3 hK_a3 hL_a4 hK_a4
          · replace hp := hp.2 c_362
            refine lv_aload_n hx hb dL_law_1861 rfl (lv_at hl 5 rfl) ?_
            refine lv_iconst (v := 0) hx hb dL_law_1862 (by decide) ?_
            obtain ⟨h_363, hp⟩ := hp
            refine w_lld F hK hW hL_a3 hK_a3 h_363 dL_law_1863 ?_
            refine lv_iload hx hb dL_law_1864 (lv_at hl 0 rfl) ?_
            refine lv_i2l (v := (Int32.toInt64 r_357)) hx hb dL_law_1866 rfl ?_
            refine W.lcmp hx hb dL_law_1867 ?_
            refine lv_if_eq (tgt := 1873) hx hb dL_law_1868 (by decide) (fun c_364 => ?_) (fun c_364 => ?_)
            · replace hp := hp.1 c_364
              exact t_L_law_1873 F hr hlocks hK hl0 hQ ih hbc hbs hp hW hE (lv_sub hl [2, 3, 4, 5, 6, 7] rfl) hL_a0 hK_a0 hL_a1 hK_a1 hL_a2 hK_a2 hL_a3 hK_a3 hL_a4 hK_a4
            · replace hp := hp.2 c_364
              refine lv_iconst (v := 0) hx hb dL_law_1871 (by decide) ?_
              refine W.widen (k := rC) (n := rS) (Nat.le_trans (Nat.le_add_right _ _) hbc) (Nat.le_trans (Nat.le_add_right _ _) hbs) ?_
              exact hQ hp dL_law_1872 hW
        · replace hp := hp.2 c_361
          refine lv_iconst (v := 0) hx hb dL_law_1854 (by decide) ?_
          refine W.widen (k := rC) (n := rS) (Nat.le_trans (Nat.le_add_right _ _) hbc) (Nat.le_trans (Nat.le_add_right _ _) hbs) ?_
          exact hQ hp dL_law_1855 hW
      replace hp := hp.2
      by_cases c_365 : x_3 = 34
      · refine lv_tableIn (tgt := 1876) (x := x_3) (off := 1832) hx hb dL_law_44 (by rw [c_365]; decide) (by rw [c_365]; decide) (by rw [c_365]; decide) (by decide) ?_
        replace hp := hp.1 c_365
        refine lv_aload_n hx hb dL_law_1876 rfl (lv_at hl 1 rfl) ?_
        refine lv_aload_n hx hb dL_law_1877 rfl (lv_at hl 0 rfl) ?_
        refine lv_iload hx hb dL_law_1878 (lv_at hl 5 rfl) ?_
        refine lv_iconst (v := 1) hx hb dL_law_1880 (by decide) ?_
        refine lv_iadd hx hb dL_law_1881 ?_
        obtain ⟨h_366, hp⟩ := hp
        refine w_ild F hK hW hL_a0 hK_a0 h_366 dL_law_1882 ?_
        refine lv_aload_n hx hb dL_law_1883 rfl (lv_at hl 3 rfl) ?_
        obtain ⟨h_369, h_369z, hp⟩ := hp
        refine x_callI (vx_runSX (As := [.ref a1, .int (sI S a0 ((x5 + (1 : Int32))).toNatClampNeg), .ref a3]) (rest := []) F (c_L_gameCount l hl0 hL_a1 hK_a1 hL_a3 hK_a3 hp H.size) (vx_cwSW 3 hts (wg_S wm_RL_303 wy_L_gameCount) rfl rfl rfl ⟨by decide, by decide, by decide +kernel⟩ ⟨Nat.le_of_ble_eq_true rfl, Nat.le_of_ble_eq_true rfl⟩) (w_preS hK hW) rfl rfl hl.1 rfl (lv_room (Nat.le_of_ble_eq_true rfl)) dL_law_1884 ⟨by show _ + 1 ≤ rC; omega, by show _ + 6 ≤ rS; omega⟩) hW (fun E ce q9 S9 H locs hp hW h1 h2 h3 => hp.elim) (fun r_367 S_368 H locs hp hW => ?_)
        obtain ⟨hX_S_368, hp⟩ := hp
        refine W.widen (k := _ + 1) (n := _ + 6) (Nat.le_refl _) (Nat.le_refl _) ?_
        replace hbc := w_spend hbc (show 1 ≤ bc by omega)
        replace hbs := w_spend hbs (show 6 ≤ bs by omega)
        have hE := hE.trans hX_S_368
        have hK_a0 : sK S_368 a0 = 21 := (hX_S_368.2 a0 hL_a0).1.trans hK_a0
        have hL_a0 : wM D S_368 a0 := hX_S_368.M hL_a0
        have hK_a1 : sK S_368 a1 = 16 := (hX_S_368.2 a1 hL_a1).1.trans hK_a1
        have hL_a1 : wM D S_368 a1 := hX_S_368.M hL_a1
        have hK_a2 : sK S_368 a2 = 17 := (hX_S_368.2 a2 hL_a2).1.trans hK_a2
        have hL_a2 : wM D S_368 a2 := hX_S_368.M hL_a2
        have hK_a3 : sK S_368 a3 = 22 := (hX_S_368.2 a3 hL_a3).1.trans hK_a3
        have hL_a3 : wM D S_368 a3 := hX_S_368.M hL_a3
        have hK_a4 : sK S_368 a4 = 25 := (hX_S_368.2 a4 hL_a4).1.trans hK_a4
        have hL_a4 : wM D S_368 a4 := hX_S_368.M hL_a4
        refine lv_istore (lv' := [(6, .int r_367), (0, .ref a0), (1, .ref a1), (2, .ref a2), (3, .ref a3), (4, .ref a4), (5, .int x5)]) hx hb dL_law_1887 hl (by decide) rfl (fun ls hl => ?_)
        refine lv_aload_n hx hb dL_law_1889 rfl (lv_at hl 3 rfl) ?_
        refine lv_aload_n hx hb dL_law_1890 rfl (lv_at hl 1 rfl) ?_
        refine lv_iload hx hb dL_law_1891 (lv_at hl 6 rfl) ?_
        refine lv_iconst (v := 1) hx hb dL_law_1893 (by decide) ?_
        refine lv_iadd hx hb dL_law_1894 ?_
        obtain ⟨h_370, hp⟩ := hp
        refine w_ild F hK hW hL_a0 hK_a0 h_370 dL_law_1895 ?_
        refine w_callI (va_runV (As := [.int (sI S_368 a0 ((x5 + (1 : Int32))).toNatClampNeg)]) (rest := []) F (c_X12_gameCount l hL_a2 hK_a2 hp H.size) (cwV (C := RX12) 1 hts (wg_V wm_RL_305 wy_X12_gameCount) rfl rfl rfl (by decide +kernel) ⟨Nat.le_of_ble_eq_true rfl, Nat.le_of_ble_eq_true rfl⟩) (w_preV hK hW hL_a2 hK_a2 (by decide) rfl) rfl rfl hl.1 rfl (lv_room (Nat.le_of_ble_eq_true rfl)) dL_law_1896 ⟨by show _ ≤ rC; exact Nat.le_trans (Nat.le_add_right _ _) hbc, by show _ ≤ rS; exact Nat.le_trans (Nat.le_add_right _ _) hbs⟩) hW (fun r_371 S_372 H locs hp hW => ?_)
        obtain ⟨hX_S_372, hp⟩ := hp
        refine w_same ?_
        have hE := hE.trans hX_S_372
        have hK_a0 : sK S_372 a0 = 21 := (hX_S_372.2 a0 hL_a0).1.trans hK_a0
        have hL_a0 : wM D S_372 a0 := hX_S_372.M hL_a0
        have hK_a1 : sK S_372 a1 = 16 := (hX_S_372.2 a1 hL_a1).1.trans hK_a1
        have hL_a1 : wM D S_372 a1 := hX_S_372.M hL_a1
        have hK_a2 : sK S_372 a2 = 17 := (hX_S_372.2 a2 hL_a2).1.trans hK_a2
        have hL_a2 : wM D S_372 a2 := hX_S_372.M hL_a2
        have hK_a3 : sK S_372 a3 = 22 := (hX_S_372.2 a3 hL_a3).1.trans hK_a3
        have hL_a3 : wM D S_372 a3 := hX_S_372.M hL_a3
        have hK_a4 : sK S_372 a4 = 25 := (hX_S_372.2 a4 hL_a4).1.trans hK_a4
        have hL_a4 : wM D S_372 a4 := hX_S_372.M hL_a4
        refine lv_istore (lv' := [(7, .int r_371), (6, .int r_367), (0, .ref a0), (1, .ref a1), (2, .ref a2), (3, .ref a3), (4, .ref a4), (5, .int x5)]) hx hb dL_law_1899 hl (by decide) rfl (fun ls hl => ?_)
        refine lv_aload_n hx hb dL_law_1901 rfl (lv_at hl 4 rfl) ?_
        refine w_callI (va_runV (As := []) (rest := []) F (c_X12_thrown l hL_a2 hK_a2 hp H.size) (cwV (C := RX12) 0 hts (wg_V wm_RL_181 wy_X12_thrown) rfl rfl rfl (by decide +kernel) ⟨Nat.le_of_ble_eq_true rfl, Nat.le_of_ble_eq_true rfl⟩) (w_preV hK hW hL_a2 hK_a2 (by decide) rfl) rfl rfl hl.1 rfl (lv_room (Nat.le_of_ble_eq_true rfl)) dL_law_1902 ⟨by show _ ≤ rC; exact Nat.le_trans (Nat.le_add_right _ _) hbc, by show _ ≤ rS; exact Nat.le_trans (Nat.le_add_right _ _) hbs⟩) hW (fun r_373 S_374 H locs hp hW => ?_)
        obtain ⟨hX_S_374, hp⟩ := hp
        refine w_same ?_
        have hE := hE.trans hX_S_374
        have hK_a0 : sK S_374 a0 = 21 := (hX_S_374.2 a0 hL_a0).1.trans hK_a0
        have hL_a0 : wM D S_374 a0 := hX_S_374.M hL_a0
        have hK_a1 : sK S_374 a1 = 16 := (hX_S_374.2 a1 hL_a1).1.trans hK_a1
        have hL_a1 : wM D S_374 a1 := hX_S_374.M hL_a1
        have hK_a2 : sK S_374 a2 = 17 := (hX_S_374.2 a2 hL_a2).1.trans hK_a2
        have hL_a2 : wM D S_374 a2 := hX_S_374.M hL_a2
        have hK_a3 : sK S_374 a3 = 22 := (hX_S_374.2 a3 hL_a3).1.trans hK_a3
        have hL_a3 : wM D S_374 a3 := hX_S_374.M hL_a3
        have hK_a4 : sK S_374 a4 = 25 := (hX_S_374.2 a4 hL_a4).1.trans hK_a4
        have hL_a4 : wM D S_374 a4 := hX_S_374.M hL_a4
        refine lv_iload hx hb dL_law_1905 (lv_at hl 1 rfl) ?_
        refine lv_icmp_eq (tgt := 1912) hx hb dL_law_1907 (by decide) (fun c_375 => ?_) (fun c_375 => ?_)
        · replace hp := hp.1 c_375
          refine lv_iload hx hb dL_law_1912 (lv_at hl 1 rfl) ?_
          refine lv_if_ne (tgt := 1929) hx hb dL_law_1914 (by decide) (fun c_376 => ?_) (fun c_376 => ?_)
          · replace hp := hp.1 c_376
            exact t_L_law_1929 F hr hlocks hK hl0 hQ ih hbc hbs hp hW hE (lv_sub hl [2, 3, 4, 5, 6, 7] rfl) hL_a0 hK_a0 hL_a1 hK_a1 hL_a2 hK_a2 hL_a3 hK_a3 hL_a4 hK_a4
          · replace hp := hp.2 c_376
            refine lv_aload_n hx hb dL_law_1917 rfl (lv_at hl 5 rfl) ?_
            refine lv_iconst (v := 0) hx hb dL_law_1918 (by decide) ?_
            obtain ⟨h_377, hp⟩ := hp
            refine w_lld F hK hW hL_a3 hK_a3 h_377 dL_law_1919 ?_
            refine lv_iload hx hb dL_law_1920 (lv_at hl 0 rfl) ?_
            refine lv_i2l (v := (Int32.toInt64 r_371)) hx hb dL_law_1922 rfl ?_
            refine W.lcmp hx hb dL_law_1923 ?_
            refine lv_if_eq (tgt := 1929) hx hb dL_law_1924 (by decide) (fun c_378 => ?_) (fun c_378 => ?_)
            · replace hp := hp.1 c_378
              exact t_L_law_1929 F hr hlocks hK hl0 hQ ih hbc hbs hp hW hE (lv_sub hl [2, 3, 4, 5, 6, 7] rfl) hL_a0 hK_a0 hL_a1 hK_a1 hL_a2 hK_a2 hL_a3 hK_a3 hL_a4 hK_a4
            · replace hp := hp.2 c_378
              refine lv_iconst (v := 0) hx hb dL_law_1927 (by decide) ?_
              refine W.widen (k := rC) (n := rS) (Nat.le_trans (Nat.le_add_right _ _) hbc) (Nat.le_trans (Nat.le_add_right _ _) hbs) ?_
              exact hQ hp dL_law_1928 hW
        · replace hp := hp.2 c_375
          refine lv_iconst (v := 0) hx hb dL_law_1910 (by decide) ?_
          refine W.widen (k := rC) (n := rS) (Nat.le_trans (Nat.le_add_right _ _) hbc) (Nat.le_trans (Nat.le_add_right _ _) hbs) ?_
          exact hQ hp dL_law_1911 hW
      replace hp := hp.2
      by_cases c_379 : x_3 = 35
      · refine lv_tableIn (tgt := 1932) (x := x_3) (off := 1888) hx hb dL_law_44 (by rw [c_379]; decide) (by rw [c_379]; decide) (by rw [c_379]; decide) (by decide) ?_
        replace hp := hp.1 c_379
        refine lv_aload_n hx hb dL_law_1932 rfl (lv_at hl 1 rfl) ?_
        refine lv_aload_n hx hb dL_law_1933 rfl (lv_at hl 0 rfl) ?_
        refine lv_iload hx hb dL_law_1934 (lv_at hl 5 rfl) ?_
        refine lv_iconst (v := 1) hx hb dL_law_1936 (by decide) ?_
        refine lv_iadd hx hb dL_law_1937 ?_
        obtain ⟨h_380, hp⟩ := hp
        refine w_ild F hK hW hL_a0 hK_a0 h_380 dL_law_1938 ?_
        refine lv_aload_n hx hb dL_law_1939 rfl (lv_at hl 0 rfl) ?_
        refine lv_iload hx hb dL_law_1940 (lv_at hl 5 rfl) ?_
        refine lv_iconst (v := 2) hx hb dL_law_1942 (by decide) ?_
        refine lv_iadd hx hb dL_law_1943 ?_
        obtain ⟨h_381, hp⟩ := hp
        refine w_ild F hK hW hL_a0 hK_a0 h_381 dL_law_1944 ?_
        refine lv_aload_n hx hb dL_law_1945 rfl (lv_at hl 3 rfl) ?_
        obtain ⟨h_384, h_384z, hp⟩ := hp
        refine x_callI (vx_runSX (As := [.ref a1, .int (sI S a0 ((x5 + (1 : Int32))).toNatClampNeg), .int (sI S a0 ((x5 + (2 : Int32))).toNatClampNeg), .ref a3]) (rest := []) F (c_L_gameLength l hl0 hL_a1 hK_a1 hL_a3 hK_a3 hp H.size) (vx_cwSW 4 hts (wg_S wm_RL_306 wy_L_gameLength) rfl rfl rfl ⟨by decide, by decide, by decide +kernel⟩ ⟨Nat.le_of_ble_eq_true rfl, Nat.le_of_ble_eq_true rfl⟩) (w_preS hK hW) rfl rfl hl.1 rfl (lv_room (Nat.le_of_ble_eq_true rfl)) dL_law_1946 ⟨by show _ + 2 ≤ rC; omega, by show _ + 12 ≤ rS; omega⟩) hW (fun E ce q9 S9 H locs hp hW h1 h2 h3 => hp.elim) (fun r_382 S_383 H locs hp hW => ?_)
        obtain ⟨hX_S_383, hp⟩ := hp
        refine W.widen (k := _ + 2) (n := _ + 12) (Nat.le_refl _) (Nat.le_refl _) ?_
        replace hbc := w_spend hbc (show 2 ≤ bc by omega)
        replace hbs := w_spend hbs (show 12 ≤ bs by omega)
        have hE := hE.trans hX_S_383
        have hK_a0 : sK S_383 a0 = 21 := (hX_S_383.2 a0 hL_a0).1.trans hK_a0
        have hL_a0 : wM D S_383 a0 := hX_S_383.M hL_a0
        have hK_a1 : sK S_383 a1 = 16 := (hX_S_383.2 a1 hL_a1).1.trans hK_a1
        have hL_a1 : wM D S_383 a1 := hX_S_383.M hL_a1
        have hK_a2 : sK S_383 a2 = 17 := (hX_S_383.2 a2 hL_a2).1.trans hK_a2
        have hL_a2 : wM D S_383 a2 := hX_S_383.M hL_a2
        have hK_a3 : sK S_383 a3 = 22 := (hX_S_383.2 a3 hL_a3).1.trans hK_a3
        have hL_a3 : wM D S_383 a3 := hX_S_383.M hL_a3
        have hK_a4 : sK S_383 a4 = 25 := (hX_S_383.2 a4 hL_a4).1.trans hK_a4
        have hL_a4 : wM D S_383 a4 := hX_S_383.M hL_a4
        refine lv_istore (lv' := [(6, .int r_382), (0, .ref a0), (1, .ref a1), (2, .ref a2), (3, .ref a3), (4, .ref a4), (5, .int x5)]) hx hb dL_law_1949 hl (by decide) rfl (fun ls hl => ?_)
        refine lv_aload_n hx hb dL_law_1951 rfl (lv_at hl 3 rfl) ?_
        refine lv_aload_n hx hb dL_law_1952 rfl (lv_at hl 1 rfl) ?_
        refine lv_iload hx hb dL_law_1953 (lv_at hl 6 rfl) ?_
        refine lv_iconst (v := 1) hx hb dL_law_1955 (by decide) ?_
        refine lv_iadd hx hb dL_law_1956 ?_
        obtain ⟨h_385, hp⟩ := hp
        refine w_ild F hK hW hL_a0 hK_a0 h_385 dL_law_1957 ?_
        refine lv_aload_n hx hb dL_law_1958 rfl (lv_at hl 1 rfl) ?_
        refine lv_iload hx hb dL_law_1959 (lv_at hl 6 rfl) ?_
        refine lv_iconst (v := 2) hx hb dL_law_1961 (by decide) ?_
        refine lv_iadd hx hb dL_law_1962 ?_
        obtain ⟨h_386, hp⟩ := hp
        refine w_ild F hK hW hL_a0 hK_a0 h_386 dL_law_1963 ?_
        refine w_callI (va_runV (As := [.int (sI S_383 a0 ((x5 + (1 : Int32))).toNatClampNeg), .int (sI S_383 a0 ((x5 + (2 : Int32))).toNatClampNeg)]) (rest := []) F (c_X12_gameLength l hL_a2 hK_a2 hp H.size) (cwV (C := RX12) 2 hts (wg_V wm_RL_308 wy_X12_gameLength) rfl rfl rfl (by decide +kernel) ⟨Nat.le_of_ble_eq_true rfl, Nat.le_of_ble_eq_true rfl⟩) (w_preV hK hW hL_a2 hK_a2 (by decide) rfl) rfl rfl hl.1 rfl (lv_room (Nat.le_of_ble_eq_true rfl)) dL_law_1964 ⟨by show _ ≤ rC; exact Nat.le_trans (Nat.le_add_right _ _) hbc, by show _ ≤ rS; exact Nat.le_trans (Nat.le_add_right _ _) hbs⟩) hW (fun r_387 S_388 H locs hp hW => ?_)
        obtain ⟨hX_S_388, hp⟩ := hp
        refine w_same ?_
        have hE := hE.trans hX_S_388
        have hK_a0 : sK S_388 a0 = 21 := (hX_S_388.2 a0 hL_a0).1.trans hK_a0
        have hL_a0 : wM D S_388 a0 := hX_S_388.M hL_a0
        have hK_a1 : sK S_388 a1 = 16 := (hX_S_388.2 a1 hL_a1).1.trans hK_a1
        have hL_a1 : wM D S_388 a1 := hX_S_388.M hL_a1
        have hK_a2 : sK S_388 a2 = 17 := (hX_S_388.2 a2 hL_a2).1.trans hK_a2
        have hL_a2 : wM D S_388 a2 := hX_S_388.M hL_a2
        have hK_a3 : sK S_388 a3 = 22 := (hX_S_388.2 a3 hL_a3).1.trans hK_a3
        have hL_a3 : wM D S_388 a3 := hX_S_388.M hL_a3
        have hK_a4 : sK S_388 a4 = 25 := (hX_S_388.2 a4 hL_a4).1.trans hK_a4
        have hL_a4 : wM D S_388 a4 := hX_S_388.M hL_a4
        refine lv_istore (lv' := [(7, .int r_387), (6, .int r_382), (0, .ref a0), (1, .ref a1), (2, .ref a2), (3, .ref a3), (4, .ref a4), (5, .int x5)]) hx hb dL_law_1967 hl (by decide) rfl (fun ls hl => ?_)
        refine lv_aload_n hx hb dL_law_1969 rfl (lv_at hl 4 rfl) ?_
        refine w_callI (va_runV (As := []) (rest := []) F (c_X12_thrown l hL_a2 hK_a2 hp H.size) (cwV (C := RX12) 0 hts (wg_V wm_RL_181 wy_X12_thrown) rfl rfl rfl (by decide +kernel) ⟨Nat.le_of_ble_eq_true rfl, Nat.le_of_ble_eq_true rfl⟩) (w_preV hK hW hL_a2 hK_a2 (by decide) rfl) rfl rfl hl.1 rfl (lv_room (Nat.le_of_ble_eq_true rfl)) dL_law_1970 ⟨by show _ ≤ rC; exact Nat.le_trans (Nat.le_add_right _ _) hbc, by show _ ≤ rS; exact Nat.le_trans (Nat.le_add_right _ _) hbs⟩) hW (fun r_389 S_390 H locs hp hW => ?_)
        obtain ⟨hX_S_390, hp⟩ := hp
        refine w_same ?_
        have hE := hE.trans hX_S_390
        have hK_a0 : sK S_390 a0 = 21 := (hX_S_390.2 a0 hL_a0).1.trans hK_a0
        have hL_a0 : wM D S_390 a0 := hX_S_390.M hL_a0
        have hK_a1 : sK S_390 a1 = 16 := (hX_S_390.2 a1 hL_a1).1.trans hK_a1
        have hL_a1 : wM D S_390 a1 := hX_S_390.M hL_a1
        have hK_a2 : sK S_390 a2 = 17 := (hX_S_390.2 a2 hL_a2).1.trans hK_a2
        have hL_a2 : wM D S_390 a2 := hX_S_390.M hL_a2
        have hK_a3 : sK S_390 a3 = 22 := (hX_S_390.2 a3 hL_a3).1.trans hK_a3
        have hL_a3 : wM D S_390 a3 := hX_S_390.M hL_a3
        have hK_a4 : sK S_390 a4 = 25 := (hX_S_390.2 a4 hL_a4).1.trans hK_a4
        have hL_a4 : wM D S_390 a4 := hX_S_390.M hL_a4
        refine lv_iload hx hb dL_law_1973 (lv_at hl 1 rfl) ?_
        refine lv_icmp_eq (tgt := 1980) hx hb dL_law_1975 (by decide) (fun c_391 => ?_) (fun c_391 => ?_)
        · replace hp := hp.1 c_391
          refine lv_iload hx hb dL_law_1980 (lv_at hl 1 rfl) ?_
          refine lv_if_ne (tgt := 1997) hx hb dL_law_1982 (by decide) (fun c_392 => ?_) (fun c_392 => ?_)
          · replace hp := hp.1 c_392
            exact t_L_law_1997 F hr hlocks hK hl0 hQ ih hbc hbs hp hW hE (lv_sub hl [2, 3, 4, 5, 6, 7] rfl) hL_a0 hK_a0 hL_a1 hK_a1 hL_a2 hK_a2 hL_a3 hK_a3 hL_a4 hK_a4
          · replace hp := hp.2 c_392
            refine lv_aload_n hx hb dL_law_1985 rfl (lv_at hl 5 rfl) ?_
            refine lv_iconst (v := 0) hx hb dL_law_1986 (by decide) ?_
            obtain ⟨h_393, hp⟩ := hp
            refine w_lld F hK hW hL_a3 hK_a3 h_393 dL_law_1987 ?_
            refine lv_iload hx hb dL_law_1988 (lv_at hl 0 rfl) ?_
            refine lv_i2l (v := (Int32.toInt64 r_387)) hx hb dL_law_1990 rfl ?_
            refine W.lcmp hx hb dL_law_1991 ?_
            refine lv_if_eq (tgt := 1997) hx hb dL_law_1992 (by decide) (fun c_394 => ?_) (fun c_394 => ?_)
            · replace hp := hp.1 c_394
              exact t_L_law_1997 F hr hlocks hK hl0 hQ ih hbc hbs hp hW hE (lv_sub hl [2, 3, 4, 5, 6, 7] rfl) hL_a0 hK_a0 hL_a1 hK_a1 hL_a2 hK_a2 hL_a3 hK_a3 hL_a4 hK_a4
            · replace hp := hp.2 c_394
              refine lv_iconst (v := 0) hx hb dL_law_1995 (by decide) ?_
              refine W.widen (k := rC) (n := rS) (Nat.le_trans (Nat.le_add_right _ _) hbc) (Nat.le_trans (Nat.le_add_right _ _) hbs) ?_
              exact hQ hp dL_law_1996 hW
        · replace hp := hp.2 c_391
          refine lv_iconst (v := 0) hx hb dL_law_1978 (by decide) ?_
          refine W.widen (k := rC) (n := rS) (Nat.le_trans (Nat.le_add_right _ _) hbc) (Nat.le_trans (Nat.le_add_right _ _) hbs) ?_
          exact hQ hp dL_law_1979 hW
      replace hp := hp.2
      by_cases c_395 : x_3 = 36
      · refine lv_tableIn (tgt := 2000) (x := x_3) (off := 1956) hx hb dL_law_44 (by rw [c_395]; decide) (by rw [c_395]; decide) (by rw [c_395]; decide) (by decide) ?_
        replace hp := hp.1 c_395
        refine lv_aload_n hx hb dL_law_2000 rfl (lv_at hl 1 rfl) ?_
        refine lv_aload_n hx hb dL_law_2001 rfl (lv_at hl 0 rfl) ?_
        refine lv_iload hx hb dL_law_2002 (lv_at hl 5 rfl) ?_
        refine lv_iconst (v := 1) hx hb dL_law_2004 (by decide) ?_
        refine lv_iadd hx hb dL_law_2005 ?_
        obtain ⟨h_396, hp⟩ := hp
        refine w_ild F hK hW hL_a0 hK_a0 h_396 dL_law_2006 ?_
        refine lv_aload_n hx hb dL_law_2007 rfl (lv_at hl 3 rfl) ?_
        obtain ⟨h_399, h_399z, hp⟩ := hp
        refine x_callI (vx_runSX (As := [.ref a1, .int (sI S a0 ((x5 + (1 : Int32))).toNatClampNeg), .ref a3]) (rest := []) F (c_L_positionCount l hl0 hL_a1 hK_a1 hL_a3 hK_a3 hp H.size) (vx_cwSW 3 hts (wg_S wm_RL_309 wy_L_positionCount) rfl rfl rfl ⟨by decide, by decide, by decide +kernel⟩ ⟨Nat.le_of_ble_eq_true rfl, Nat.le_of_ble_eq_true rfl⟩) (w_preS hK hW) rfl rfl hl.1 rfl (lv_room (Nat.le_of_ble_eq_true rfl)) dL_law_2008 ⟨by show _ + 1 ≤ rC; omega, by show _ + 6 ≤ rS; omega⟩) hW (fun E ce q9 S9 H locs hp hW h1 h2 h3 => hp.elim) (fun r_397 S_398 H locs hp hW => ?_)
        obtain ⟨hX_S_398, hp⟩ := hp
        refine W.widen (k := _ + 1) (n := _ + 6) (Nat.le_refl _) (Nat.le_refl _) ?_
        replace hbc := w_spend hbc (show 1 ≤ bc by omega)
        replace hbs := w_spend hbs (show 6 ≤ bs by omega)
        have hE := hE.trans hX_S_398
        have hK_a0 : sK S_398 a0 = 21 := (hX_S_398.2 a0 hL_a0).1.trans hK_a0
        have hL_a0 : wM D S_398 a0 := hX_S_398.M hL_a0
        have hK_a1 : sK S_398 a1 = 16 := (hX_S_398.2 a1 hL_a1).1.trans hK_a1
        have hL_a1 : wM D S_398 a1 := hX_S_398.M hL_a1
        have hK_a2 : sK S_398 a2 = 17 := (hX_S_398.2 a2 hL_a2).1.trans hK_a2
        have hL_a2 : wM D S_398 a2 := hX_S_398.M hL_a2
        have hK_a3 : sK S_398 a3 = 22 := (hX_S_398.2 a3 hL_a3).1.trans hK_a3
        have hL_a3 : wM D S_398 a3 := hX_S_398.M hL_a3
        have hK_a4 : sK S_398 a4 = 25 := (hX_S_398.2 a4 hL_a4).1.trans hK_a4
        have hL_a4 : wM D S_398 a4 := hX_S_398.M hL_a4
        refine lv_istore (lv' := [(6, .int r_397), (0, .ref a0), (1, .ref a1), (2, .ref a2), (3, .ref a3), (4, .ref a4), (5, .int x5)]) hx hb dL_law_2011 hl (by decide) rfl (fun ls hl => ?_)
        refine lv_aload_n hx hb dL_law_2013 rfl (lv_at hl 3 rfl) ?_
        refine lv_aload_n hx hb dL_law_2014 rfl (lv_at hl 1 rfl) ?_
        refine lv_iload hx hb dL_law_2015 (lv_at hl 6 rfl) ?_
        refine lv_iconst (v := 1) hx hb dL_law_2017 (by decide) ?_
        refine lv_iadd hx hb dL_law_2018 ?_
        obtain ⟨h_400, hp⟩ := hp
        refine w_ild F hK hW hL_a0 hK_a0 h_400 dL_law_2019 ?_
        refine w_callI (va_runV (As := [.int (sI S_398 a0 ((x5 + (1 : Int32))).toNatClampNeg)]) (rest := []) F (c_X12_positionCount l hL_a2 hK_a2 hp H.size) (cwV (C := RX12) 1 hts (wg_V wm_RL_311 wy_X12_positionCount) rfl rfl rfl (by decide +kernel) ⟨Nat.le_of_ble_eq_true rfl, Nat.le_of_ble_eq_true rfl⟩) (w_preV hK hW hL_a2 hK_a2 (by decide) rfl) rfl rfl hl.1 rfl (lv_room (Nat.le_of_ble_eq_true rfl)) dL_law_2020 ⟨by show _ ≤ rC; exact Nat.le_trans (Nat.le_add_right _ _) hbc, by show _ ≤ rS; exact Nat.le_trans (Nat.le_add_right _ _) hbs⟩) hW (fun r_401 S_402 H locs hp hW => ?_)
        obtain ⟨hX_S_402, hp⟩ := hp
        refine w_same ?_
        have hE := hE.trans hX_S_402
        have hK_a0 : sK S_402 a0 = 21 := (hX_S_402.2 a0 hL_a0).1.trans hK_a0
        have hL_a0 : wM D S_402 a0 := hX_S_402.M hL_a0
        have hK_a1 : sK S_402 a1 = 16 := (hX_S_402.2 a1 hL_a1).1.trans hK_a1
        have hL_a1 : wM D S_402 a1 := hX_S_402.M hL_a1
        have hK_a2 : sK S_402 a2 = 17 := (hX_S_402.2 a2 hL_a2).1.trans hK_a2
        have hL_a2 : wM D S_402 a2 := hX_S_402.M hL_a2
        have hK_a3 : sK S_402 a3 = 22 := (hX_S_402.2 a3 hL_a3).1.trans hK_a3
        have hL_a3 : wM D S_402 a3 := hX_S_402.M hL_a3
        have hK_a4 : sK S_402 a4 = 25 := (hX_S_402.2 a4 hL_a4).1.trans hK_a4
        have hL_a4 : wM D S_402 a4 := hX_S_402.M hL_a4
        refine lv_istore (lv' := [(7, .int r_401), (6, .int r_397), (0, .ref a0), (1, .ref a1), (2, .ref a2), (3, .ref a3), (4, .ref a4), (5, .int x5)]) hx hb dL_law_2023 hl (by decide) rfl (fun ls hl => ?_)
        refine lv_aload_n hx hb dL_law_2025 rfl (lv_at hl 4 rfl) ?_
        refine w_callI (va_runV (As := []) (rest := []) F (c_X12_thrown l hL_a2 hK_a2 hp H.size) (cwV (C := RX12) 0 hts (wg_V wm_RL_181 wy_X12_thrown) rfl rfl rfl (by decide +kernel) ⟨Nat.le_of_ble_eq_true rfl, Nat.le_of_ble_eq_true rfl⟩) (w_preV hK hW hL_a2 hK_a2 (by decide) rfl) rfl rfl hl.1 rfl (lv_room (Nat.le_of_ble_eq_true rfl)) dL_law_2026 ⟨by show _ ≤ rC; exact Nat.le_trans (Nat.le_add_right _ _) hbc, by show _ ≤ rS; exact Nat.le_trans (Nat.le_add_right _ _) hbs⟩) hW (fun r_403 S_404 H locs hp hW => ?_)
        obtain ⟨hX_S_404, hp⟩ := hp
        refine w_same ?_
        have hE := hE.trans hX_S_404
        have hK_a0 : sK S_404 a0 = 21 := (hX_S_404.2 a0 hL_a0).1.trans hK_a0
        have hL_a0 : wM D S_404 a0 := hX_S_404.M hL_a0
        have hK_a1 : sK S_404 a1 = 16 := (hX_S_404.2 a1 hL_a1).1.trans hK_a1
        have hL_a1 : wM D S_404 a1 := hX_S_404.M hL_a1
        have hK_a2 : sK S_404 a2 = 17 := (hX_S_404.2 a2 hL_a2).1.trans hK_a2
        have hL_a2 : wM D S_404 a2 := hX_S_404.M hL_a2
        have hK_a3 : sK S_404 a3 = 22 := (hX_S_404.2 a3 hL_a3).1.trans hK_a3
        have hL_a3 : wM D S_404 a3 := hX_S_404.M hL_a3
        have hK_a4 : sK S_404 a4 = 25 := (hX_S_404.2 a4 hL_a4).1.trans hK_a4
        have hL_a4 : wM D S_404 a4 := hX_S_404.M hL_a4
        refine lv_iload hx hb dL_law_2029 (lv_at hl 1 rfl) ?_
        refine lv_icmp_eq (tgt := 2036) hx hb dL_law_2031 (by decide) (fun c_405 => ?_) (fun c_405 => ?_)
        · replace hp := hp.1 c_405
          refine lv_iload hx hb dL_law_2036 (lv_at hl 1 rfl) ?_
          refine lv_if_ne (tgt := 2053) hx hb dL_law_2038 (by decide) (fun c_406 => ?_) (fun c_406 => ?_)
          · replace hp := hp.1 c_406
            exact t_L_law_2053 F hr hlocks hK hl0 hQ ih hbc hbs hp hW hE (lv_sub hl [2, 3, 4, 5, 6, 7] rfl) hL_a0 hK_a0 hL_a1 hK_a1 hL_a2 hK_a2 hL_a3 hK_a3 hL_a4 hK_a4
          · replace hp := hp.2 c_406
            refine lv_aload_n hx hb dL_law_2041 rfl (lv_at hl 5 rfl) ?_
            refine lv_iconst (v := 0) hx hb dL_law_2042 (by decide) ?_
            obtain ⟨h_407, hp⟩ := hp
            refine w_lld F hK hW hL_a3 hK_a3 h_407 dL_law_2043 ?_
            refine lv_iload hx hb dL_law_2044 (lv_at hl 0 rfl) ?_
            refine lv_i2l (v := (Int32.toInt64 r_401)) hx hb dL_law_2046 rfl ?_
            refine W.lcmp hx hb dL_law_2047 ?_
            refine lv_if_eq (tgt := 2053) hx hb dL_law_2048 (by decide) (fun c_408 => ?_) (fun c_408 => ?_)
            · replace hp := hp.1 c_408
              exact t_L_law_2053 F hr hlocks hK hl0 hQ ih hbc hbs hp hW hE (lv_sub hl [2, 3, 4, 5, 6, 7] rfl) hL_a0 hK_a0 hL_a1 hK_a1 hL_a2 hK_a2 hL_a3 hK_a3 hL_a4 hK_a4
            · replace hp := hp.2 c_408
              refine lv_iconst (v := 0) hx hb dL_law_2051 (by decide) ?_
              refine W.widen (k := rC) (n := rS) (Nat.le_trans (Nat.le_add_right _ _) hbc) (Nat.le_trans (Nat.le_add_right _ _) hbs) ?_
              exact hQ hp dL_law_2052 hW
        · replace hp := hp.2 c_405
          refine lv_iconst (v := 0) hx hb dL_law_2034 (by decide) ?_
          refine W.widen (k := rC) (n := rS) (Nat.le_trans (Nat.le_add_right _ _) hbc) (Nat.le_trans (Nat.le_add_right _ _) hbs) ?_
          exact hQ hp dL_law_2035 hW
      replace hp := hp.2
      by_cases c_409 : x_3 = 37
      · refine lv_tableIn (tgt := 2056) (x := x_3) (off := 2012) hx hb dL_law_44 (by rw [c_409]; decide) (by rw [c_409]; decide) (by rw [c_409]; decide) (by decide) ?_
        replace hp := hp.1 c_409
        refine lv_aload_n hx hb dL_law_2056 rfl (lv_at hl 1 rfl) ?_
        refine lv_aload_n hx hb dL_law_2057 rfl (lv_at hl 0 rfl) ?_
        refine lv_iload hx hb dL_law_2058 (lv_at hl 5 rfl) ?_
        refine lv_iconst (v := 1) hx hb dL_law_2060 (by decide) ?_
        refine lv_iadd hx hb dL_law_2061 ?_
        obtain ⟨h_410, hp⟩ := hp
        refine w_ild F hK hW hL_a0 hK_a0 h_410 dL_law_2062 ?_
        refine lv_aload_n hx hb dL_law_2063 rfl (lv_at hl 3 rfl) ?_
        obtain ⟨h_413, h_413z, hp⟩ := hp
        refine x_callI (vx_runSX (As := [.ref a1, .int (sI S a0 ((x5 + (1 : Int32))).toNatClampNeg), .ref a3]) (rest := []) F (c_L_count l hl0 hL_a1 hK_a1 hL_a3 hK_a3 hp H.size) (vx_cwSW 3 hts (wg_S wm_RL_312 wy_L_count) rfl rfl rfl ⟨by decide, by decide, by decide +kernel⟩ ⟨Nat.le_of_ble_eq_true rfl, Nat.le_of_ble_eq_true rfl⟩) (w_preS hK hW) rfl rfl hl.1 rfl (lv_room (Nat.le_of_ble_eq_true rfl)) dL_law_2064 ⟨by show _ + 1 ≤ rC; omega, by show _ + 6 ≤ rS; omega⟩) hW (fun E ce q9 S9 H locs hp hW h1 h2 h3 => hp.elim) (fun r_411 S_412 H locs hp hW => ?_)
        obtain ⟨hX_S_412, hp⟩ := hp
        refine W.widen (k := _ + 1) (n := _ + 6) (Nat.le_refl _) (Nat.le_refl _) ?_
        replace hbc := w_spend hbc (show 1 ≤ bc by omega)
        replace hbs := w_spend hbs (show 6 ≤ bs by omega)
        have hE := hE.trans hX_S_412
        have hK_a0 : sK S_412 a0 = 21 := (hX_S_412.2 a0 hL_a0).1.trans hK_a0
        have hL_a0 : wM D S_412 a0 := hX_S_412.M hL_a0
        have hK_a1 : sK S_412 a1 = 16 := (hX_S_412.2 a1 hL_a1).1.trans hK_a1
        have hL_a1 : wM D S_412 a1 := hX_S_412.M hL_a1
        have hK_a2 : sK S_412 a2 = 17 := (hX_S_412.2 a2 hL_a2).1.trans hK_a2
        have hL_a2 : wM D S_412 a2 := hX_S_412.M hL_a2
        have hK_a3 : sK S_412 a3 = 22 := (hX_S_412.2 a3 hL_a3).1.trans hK_a3
        have hL_a3 : wM D S_412 a3 := hX_S_412.M hL_a3
        have hK_a4 : sK S_412 a4 = 25 := (hX_S_412.2 a4 hL_a4).1.trans hK_a4
        have hL_a4 : wM D S_412 a4 := hX_S_412.M hL_a4
        refine lv_istore (lv' := [(6, .int r_411), (0, .ref a0), (1, .ref a1), (2, .ref a2), (3, .ref a3), (4, .ref a4), (5, .int x5)]) hx hb dL_law_2067 hl (by decide) rfl (fun ls hl => ?_)
        refine lv_aload_n hx hb dL_law_2069 rfl (lv_at hl 3 rfl) ?_
        refine lv_aload_n hx hb dL_law_2070 rfl (lv_at hl 1 rfl) ?_
        refine lv_iload hx hb dL_law_2071 (lv_at hl 6 rfl) ?_
        refine lv_iconst (v := 1) hx hb dL_law_2073 (by decide) ?_
        refine lv_iadd hx hb dL_law_2074 ?_
        obtain ⟨h_414, hp⟩ := hp
        refine w_ild F hK hW hL_a0 hK_a0 h_414 dL_law_2075 ?_
        refine w_callI (va_runV (As := [.int (sI S_412 a0 ((x5 + (1 : Int32))).toNatClampNeg)]) (rest := []) F (c_X12_count l hL_a2 hK_a2 hp H.size) (cwV (C := RX12) 1 hts (wg_V wm_RL_314 wy_X12_count) rfl rfl rfl (by decide +kernel) ⟨Nat.le_of_ble_eq_true rfl, Nat.le_of_ble_eq_true rfl⟩) (w_preV hK hW hL_a2 hK_a2 (by decide) rfl) rfl rfl hl.1 rfl (lv_room (Nat.le_of_ble_eq_true rfl)) dL_law_2076 ⟨by show _ ≤ rC; exact Nat.le_trans (Nat.le_add_right _ _) hbc, by show _ ≤ rS; exact Nat.le_trans (Nat.le_add_right _ _) hbs⟩) hW (fun r_415 S_416 H locs hp hW => ?_)
        obtain ⟨hX_S_416, hp⟩ := hp
        refine w_same ?_
        have hE := hE.trans hX_S_416
        have hK_a0 : sK S_416 a0 = 21 := (hX_S_416.2 a0 hL_a0).1.trans hK_a0
        have hL_a0 : wM D S_416 a0 := hX_S_416.M hL_a0
        have hK_a1 : sK S_416 a1 = 16 := (hX_S_416.2 a1 hL_a1).1.trans hK_a1
        have hL_a1 : wM D S_416 a1 := hX_S_416.M hL_a1
        have hK_a2 : sK S_416 a2 = 17 := (hX_S_416.2 a2 hL_a2).1.trans hK_a2
        have hL_a2 : wM D S_416 a2 := hX_S_416.M hL_a2
        have hK_a3 : sK S_416 a3 = 22 := (hX_S_416.2 a3 hL_a3).1.trans hK_a3
        have hL_a3 : wM D S_416 a3 := hX_S_416.M hL_a3
        have hK_a4 : sK S_416 a4 = 25 := (hX_S_416.2 a4 hL_a4).1.trans hK_a4
        have hL_a4 : wM D S_416 a4 := hX_S_416.M hL_a4
        refine lv_istore (lv' := [(7, .int r_415), (6, .int r_411), (0, .ref a0), (1, .ref a1), (2, .ref a2), (3, .ref a3), (4, .ref a4), (5, .int x5)]) hx hb dL_law_2079 hl (by decide) rfl (fun ls hl => ?_)
        refine lv_aload_n hx hb dL_law_2081 rfl (lv_at hl 4 rfl) ?_
        refine w_callI (va_runV (As := []) (rest := []) F (c_X12_thrown l hL_a2 hK_a2 hp H.size) (cwV (C := RX12) 0 hts (wg_V wm_RL_181 wy_X12_thrown) rfl rfl rfl (by decide +kernel) ⟨Nat.le_of_ble_eq_true rfl, Nat.le_of_ble_eq_true rfl⟩) (w_preV hK hW hL_a2 hK_a2 (by decide) rfl) rfl rfl hl.1 rfl (lv_room (Nat.le_of_ble_eq_true rfl)) dL_law_2082 ⟨by show _ ≤ rC; exact Nat.le_trans (Nat.le_add_right _ _) hbc, by show _ ≤ rS; exact Nat.le_trans (Nat.le_add_right _ _) hbs⟩) hW (fun r_417 S_418 H locs hp hW => ?_)
        obtain ⟨hX_S_418, hp⟩ := hp
        refine w_same ?_
        have hE := hE.trans hX_S_418
        have hK_a0 : sK S_418 a0 = 21 := (hX_S_418.2 a0 hL_a0).1.trans hK_a0
        have hL_a0 : wM D S_418 a0 := hX_S_418.M hL_a0
        have hK_a1 : sK S_418 a1 = 16 := (hX_S_418.2 a1 hL_a1).1.trans hK_a1
        have hL_a1 : wM D S_418 a1 := hX_S_418.M hL_a1
        have hK_a2 : sK S_418 a2 = 17 := (hX_S_418.2 a2 hL_a2).1.trans hK_a2
        have hL_a2 : wM D S_418 a2 := hX_S_418.M hL_a2
        have hK_a3 : sK S_418 a3 = 22 := (hX_S_418.2 a3 hL_a3).1.trans hK_a3
        have hL_a3 : wM D S_418 a3 := hX_S_418.M hL_a3
        have hK_a4 : sK S_418 a4 = 25 := (hX_S_418.2 a4 hL_a4).1.trans hK_a4
        have hL_a4 : wM D S_418 a4 := hX_S_418.M hL_a4
        refine lv_iload hx hb dL_law_2085 (lv_at hl 1 rfl) ?_
        refine lv_icmp_eq (tgt := 2092) hx hb dL_law_2087 (by decide) (fun c_419 => ?_) (fun c_419 => ?_)
        · replace hp := hp.1 c_419
          refine lv_iload hx hb dL_law_2092 (lv_at hl 1 rfl) ?_
          refine lv_if_ne (tgt := 2109) hx hb dL_law_2094 (by decide) (fun c_420 => ?_) (fun c_420 => ?_)
          · replace hp := hp.1 c_420
            exact t_L_law_2109 F hr hlocks hK hl0 hQ ih hbc hbs hp hW hE (lv_sub hl [2, 3, 4, 5, 6, 7] rfl) hL_a0 hK_a0 hL_a1 hK_a1 hL_a2 hK_a2 hL_a3 hK_a3 hL_a4 hK_a4
          · replace hp := hp.2 c_420
            refine lv_aload_n hx hb dL_law_2097 rfl (lv_at hl 5 rfl) ?_
            refine lv_iconst (v := 0) hx hb dL_law_2098 (by decide) ?_
            obtain ⟨h_421, hp⟩ := hp
            refine w_lld F hK hW hL_a3 hK_a3 h_421 dL_law_2099 ?_
            refine lv_iload hx hb dL_law_2100 (lv_at hl 0 rfl) ?_
            refine lv_i2l (v := (Int32.toInt64 r_415)) hx hb dL_law_2102 rfl ?_
            refine W.lcmp hx hb dL_law_2103 ?_
            refine lv_if_eq (tgt := 2109) hx hb dL_law_2104 (by decide) (fun c_422 => ?_) (fun c_422 => ?_)
            · replace hp := hp.1 c_422
              exact t_L_law_2109 F hr hlocks hK hl0 hQ ih hbc hbs hp hW hE (lv_sub hl [2, 3, 4, 5, 6, 7] rfl) hL_a0 hK_a0 hL_a1 hK_a1 hL_a2 hK_a2 hL_a3 hK_a3 hL_a4 hK_a4
            · replace hp := hp.2 c_422
              refine lv_iconst (v := 0) hx hb dL_law_2107 (by decide) ?_
              refine W.widen (k := rC) (n := rS) (Nat.le_trans (Nat.le_add_right _ _) hbc) (Nat.le_trans (Nat.le_add_right _ _) hbs) ?_
              exact hQ hp dL_law_2108 hW
        · replace hp := hp.2 c_419
          refine lv_iconst (v := 0) hx hb dL_law_2090 (by decide) ?_
          refine W.widen (k := rC) (n := rS) (Nat.le_trans (Nat.le_add_right _ _) hbc) (Nat.le_trans (Nat.le_add_right _ _) hbs) ?_
          exact hQ hp dL_law_2091 hW
      replace hp := hp.2
      by_cases c_423 : x_3 = 38
      · refine lv_tableIn (tgt := 2112) (x := x_3) (off := 2068) hx hb dL_law_44 (by rw [c_423]; decide) (by rw [c_423]; decide) (by rw [c_423]; decide) (by decide) ?_
        replace hp := hp.1 c_423
        refine lv_aload_n hx hb dL_law_2112 rfl (lv_at hl 1 rfl) ?_
        refine lv_aload_n hx hb dL_law_2113 rfl (lv_at hl 0 rfl) ?_
        refine lv_iload hx hb dL_law_2114 (lv_at hl 5 rfl) ?_
        refine lv_iconst (v := 1) hx hb dL_law_2116 (by decide) ?_
        refine lv_iadd hx hb dL_law_2117 ?_
        obtain ⟨h_424, hp⟩ := hp
        refine w_ild F hK hW hL_a0 hK_a0 h_424 dL_law_2118 ?_
        refine lv_aload_n hx hb dL_law_2119 rfl (lv_at hl 0 rfl) ?_
        refine lv_iload hx hb dL_law_2120 (lv_at hl 5 rfl) ?_
        refine lv_iconst (v := 2) hx hb dL_law_2122 (by decide) ?_
        refine lv_iadd hx hb dL_law_2123 ?_
        obtain ⟨h_425, hp⟩ := hp
        refine w_ild F hK hW hL_a0 hK_a0 h_425 dL_law_2124 ?_
        refine lv_aload_n hx hb dL_law_2125 rfl (lv_at hl 3 rfl) ?_
        obtain ⟨h_428, h_428z, hp⟩ := hp
        refine x_callI (vx_runSX (As := [.ref a1, .int (sI S a0 ((x5 + (1 : Int32))).toNatClampNeg), .int (sI S a0 ((x5 + (2 : Int32))).toNatClampNeg), .ref a3]) (rest := []) F (c_L_countWith l hl0 hL_a1 hK_a1 hL_a3 hK_a3 hp H.size) (vx_cwSW 4 hts (wg_S wm_RL_315 wy_L_countWith) rfl rfl rfl ⟨by decide, by decide, by decide +kernel⟩ ⟨Nat.le_of_ble_eq_true rfl, Nat.le_of_ble_eq_true rfl⟩) (w_preS hK hW) rfl rfl hl.1 rfl (lv_room (Nat.le_of_ble_eq_true rfl)) dL_law_2126 ⟨by show _ + 2 ≤ rC; omega, by show _ + 12 ≤ rS; omega⟩) hW (fun E ce q9 S9 H locs hp hW h1 h2 h3 => hp.elim) (fun r_426 S_427 H locs hp hW => ?_)
        obtain ⟨hX_S_427, hp⟩ := hp
        refine W.widen (k := _ + 2) (n := _ + 12) (Nat.le_refl _) (Nat.le_refl _) ?_
        replace hbc := w_spend hbc (show 2 ≤ bc by omega)
        replace hbs := w_spend hbs (show 12 ≤ bs by omega)
        have hE := hE.trans hX_S_427
        have hK_a0 : sK S_427 a0 = 21 := (hX_S_427.2 a0 hL_a0).1.trans hK_a0
        have hL_a0 : wM D S_427 a0 := hX_S_427.M hL_a0
        have hK_a1 : sK S_427 a1 = 16 := (hX_S_427.2 a1 hL_a1).1.trans hK_a1
        have hL_a1 : wM D S_427 a1 := hX_S_427.M hL_a1
        have hK_a2 : sK S_427 a2 = 17 := (hX_S_427.2 a2 hL_a2).1.trans hK_a2
        have hL_a2 : wM D S_427 a2 := hX_S_427.M hL_a2
        have hK_a3 : sK S_427 a3 = 22 := (hX_S_427.2 a3 hL_a3).1.trans hK_a3
        have hL_a3 : wM D S_427 a3 := hX_S_427.M hL_a3
        have hK_a4 : sK S_427 a4 = 25 := (hX_S_427.2 a4 hL_a4).1.trans hK_a4
        have hL_a4 : wM D S_427 a4 := hX_S_427.M hL_a4
        refine lv_istore (lv' := [(6, .int r_426), (0, .ref a0), (1, .ref a1), (2, .ref a2), (3, .ref a3), (4, .ref a4), (5, .int x5)]) hx hb dL_law_2129 hl (by decide) rfl (fun ls hl => ?_)
        refine lv_aload_n hx hb dL_law_2131 rfl (lv_at hl 3 rfl) ?_
        refine lv_aload_n hx hb dL_law_2132 rfl (lv_at hl 1 rfl) ?_
        refine lv_iload hx hb dL_law_2133 (lv_at hl 6 rfl) ?_
        refine lv_iconst (v := 1) hx hb dL_law_2135 (by decide) ?_
        refine lv_iadd hx hb dL_law_2136 ?_
        obtain ⟨h_429, hp⟩ := hp
        refine w_ild F hK hW hL_a0 hK_a0 h_429 dL_law_2137 ?_
        refine lv_aload_n hx hb dL_law_2138 rfl (lv_at hl 1 rfl) ?_
        refine lv_iload hx hb dL_law_2139 (lv_at hl 6 rfl) ?_
        refine lv_iconst (v := 2) hx hb dL_law_2141 (by decide) ?_
        refine lv_iadd hx hb dL_law_2142 ?_
        obtain ⟨h_430, hp⟩ := hp
        refine w_ild F hK hW hL_a0 hK_a0 h_430 dL_law_2143 ?_
        refine w_callI (va_runV (As := [.int (sI S_427 a0 ((x5 + (1 : Int32))).toNatClampNeg), .int (sI S_427 a0 ((x5 + (2 : Int32))).toNatClampNeg)]) (rest := []) F (c_X12_countWith l hL_a2 hK_a2 hp H.size) (cwV (C := RX12) 2 hts (wg_V wm_RL_317 wy_X12_countWith) rfl rfl rfl (by decide +kernel) ⟨Nat.le_of_ble_eq_true rfl, Nat.le_of_ble_eq_true rfl⟩) (w_preV hK hW hL_a2 hK_a2 (by decide) rfl) rfl rfl hl.1 rfl (lv_room (Nat.le_of_ble_eq_true rfl)) dL_law_2144 ⟨by show _ ≤ rC; exact Nat.le_trans (Nat.le_add_right _ _) hbc, by show _ ≤ rS; exact Nat.le_trans (Nat.le_add_right _ _) hbs⟩) hW (fun r_431 S_432 H locs hp hW => ?_)
        obtain ⟨hX_S_432, hp⟩ := hp
        refine w_same ?_
        have hE := hE.trans hX_S_432
        have hK_a0 : sK S_432 a0 = 21 := (hX_S_432.2 a0 hL_a0).1.trans hK_a0
        have hL_a0 : wM D S_432 a0 := hX_S_432.M hL_a0
        have hK_a1 : sK S_432 a1 = 16 := (hX_S_432.2 a1 hL_a1).1.trans hK_a1
        have hL_a1 : wM D S_432 a1 := hX_S_432.M hL_a1
        have hK_a2 : sK S_432 a2 = 17 := (hX_S_432.2 a2 hL_a2).1.trans hK_a2
        have hL_a2 : wM D S_432 a2 := hX_S_432.M hL_a2
        have hK_a3 : sK S_432 a3 = 22 := (hX_S_432.2 a3 hL_a3).1.trans hK_a3
        have hL_a3 : wM D S_432 a3 := hX_S_432.M hL_a3
        have hK_a4 : sK S_432 a4 = 25 := (hX_S_432.2 a4 hL_a4).1.trans hK_a4
        have hL_a4 : wM D S_432 a4 := hX_S_432.M hL_a4
        refine lv_istore (lv' := [(7, .int r_431), (6, .int r_426), (0, .ref a0), (1, .ref a1), (2, .ref a2), (3, .ref a3), (4, .ref a4), (5, .int x5)]) hx hb dL_law_2147 hl (by decide) rfl (fun ls hl => ?_)
        refine lv_aload_n hx hb dL_law_2149 rfl (lv_at hl 4 rfl) ?_
        refine w_callI (va_runV (As := []) (rest := []) F (c_X12_thrown l hL_a2 hK_a2 hp H.size) (cwV (C := RX12) 0 hts (wg_V wm_RL_181 wy_X12_thrown) rfl rfl rfl (by decide +kernel) ⟨Nat.le_of_ble_eq_true rfl, Nat.le_of_ble_eq_true rfl⟩) (w_preV hK hW hL_a2 hK_a2 (by decide) rfl) rfl rfl hl.1 rfl (lv_room (Nat.le_of_ble_eq_true rfl)) dL_law_2150 ⟨by show _ ≤ rC; exact Nat.le_trans (Nat.le_add_right _ _) hbc, by show _ ≤ rS; exact Nat.le_trans (Nat.le_add_right _ _) hbs⟩) hW (fun r_433 S_434 H locs hp hW => ?_)
        obtain ⟨hX_S_434, hp⟩ := hp
        refine w_same ?_
        have hE := hE.trans hX_S_434
        have hK_a0 : sK S_434 a0 = 21 := (hX_S_434.2 a0 hL_a0).1.trans hK_a0
        have hL_a0 : wM D S_434 a0 := hX_S_434.M hL_a0
        have hK_a1 : sK S_434 a1 = 16 := (hX_S_434.2 a1 hL_a1).1.trans hK_a1
        have hL_a1 : wM D S_434 a1 := hX_S_434.M hL_a1
        have hK_a2 : sK S_434 a2 = 17 := (hX_S_434.2 a2 hL_a2).1.trans hK_a2
        have hL_a2 : wM D S_434 a2 := hX_S_434.M hL_a2
        have hK_a3 : sK S_434 a3 = 22 := (hX_S_434.2 a3 hL_a3).1.trans hK_a3
        have hL_a3 : wM D S_434 a3 := hX_S_434.M hL_a3
        have hK_a4 : sK S_434 a4 = 25 := (hX_S_434.2 a4 hL_a4).1.trans hK_a4
        have hL_a4 : wM D S_434 a4 := hX_S_434.M hL_a4
        refine lv_iload hx hb dL_law_2153 (lv_at hl 1 rfl) ?_
        refine lv_icmp_eq (tgt := 2160) hx hb dL_law_2155 (by decide) (fun c_435 => ?_) (fun c_435 => ?_)
        · replace hp := hp.1 c_435
          refine lv_iload hx hb dL_law_2160 (lv_at hl 1 rfl) ?_
          refine lv_if_ne (tgt := 2177) hx hb dL_law_2162 (by decide) (fun c_436 => ?_) (fun c_436 => ?_)
          · replace hp := hp.1 c_436
            exact t_L_law_2177 F hr hlocks hK hl0 hQ ih hbc hbs hp hW hE (lv_sub hl [2, 3, 4, 5, 6, 7] rfl) hL_a0 hK_a0 hL_a1 hK_a1 hL_a2 hK_a2 hL_a3 hK_a3 hL_a4 hK_a4
          · replace hp := hp.2 c_436
            refine lv_aload_n hx hb dL_law_2165 rfl (lv_at hl 5 rfl) ?_
            refine lv_iconst (v := 0) hx hb dL_law_2166 (by decide) ?_
            obtain ⟨h_437, hp⟩ := hp
            refine w_lld F hK hW hL_a3 hK_a3 h_437 dL_law_2167 ?_
            refine lv_iload hx hb dL_law_2168 (lv_at hl 0 rfl) ?_
            refine lv_i2l (v := (Int32.toInt64 r_431)) hx hb dL_law_2170 rfl ?_
            refine W.lcmp hx hb dL_law_2171 ?_
            refine lv_if_eq (tgt := 2177) hx hb dL_law_2172 (by decide) (fun c_438 => ?_) (fun c_438 => ?_)
            · replace hp := hp.1 c_438
              exact t_L_law_2177 F hr hlocks hK hl0 hQ ih hbc hbs hp hW hE (lv_sub hl [2, 3, 4, 5, 6, 7] rfl) hL_a0 hK_a0 hL_a1 hK_a1 hL_a2 hK_a2 hL_a3 hK_a3 hL_a4 hK_a4
            · replace hp := hp.2 c_438
              refine lv_iconst (v := 0) hx hb dL_law_2175 (by decide) ?_
              refine W.widen (k := rC) (n := rS) (Nat.le_trans (Nat.le_add_right _ _) hbc) (Nat.le_trans (Nat.le_add_right _ _) hbs) ?_
              exact hQ hp dL_law_2176 hW
        · replace hp := hp.2 c_435
          refine lv_iconst (v := 0) hx hb dL_law_2158 (by decide) ?_
          refine W.widen (k := rC) (n := rS) (Nat.le_trans (Nat.le_add_right _ _) hbc) (Nat.le_trans (Nat.le_add_right _ _) hbs) ?_
          exact hQ hp dL_law_2159 hW
      replace hp := hp.2
      by_cases c_439 : x_3 = 39
      · refine lv_tableIn (tgt := 2180) (x := x_3) (off := 2136) hx hb dL_law_44 (by rw [c_439]; decide) (by rw [c_439]; decide) (by rw [c_439]; decide) (by decide) ?_
        replace hp := hp.1 c_439
        refine lv_aload_n hx hb dL_law_2180 rfl (lv_at hl 1 rfl) ?_
        refine lv_aload_n hx hb dL_law_2181 rfl (lv_at hl 0 rfl) ?_
        refine lv_iload hx hb dL_law_2182 (lv_at hl 5 rfl) ?_
        refine lv_iconst (v := 1) hx hb dL_law_2184 (by decide) ?_
        refine lv_iadd hx hb dL_law_2185 ?_
        obtain ⟨h_440, hp⟩ := hp
        refine w_ild F hK hW hL_a0 hK_a0 h_440 dL_law_2186 ?_
        refine lv_aload_n hx hb dL_law_2187 rfl (lv_at hl 0 rfl) ?_
        refine lv_iload hx hb dL_law_2188 (lv_at hl 5 rfl) ?_
        refine lv_iconst (v := 2) hx hb dL_law_2190 (by decide) ?_
        refine lv_iadd hx hb dL_law_2191 ?_
        obtain ⟨h_441, hp⟩ := hp
        refine w_ild F hK hW hL_a0 hK_a0 h_441 dL_law_2192 ?_
        refine lv_aload_n hx hb dL_law_2193 rfl (lv_at hl 0 rfl) ?_
        refine lv_iload hx hb dL_law_2194 (lv_at hl 5 rfl) ?_
        refine lv_iconst (v := 3) hx hb dL_law_2196 (by decide) ?_
        refine lv_iadd hx hb dL_law_2197 ?_
        obtain ⟨h_442, hp⟩ := hp
        refine w_ild F hK hW hL_a0 hK_a0 h_442 dL_law_2198 ?_
        refine lv_aload_n hx hb dL_law_2199 rfl (lv_at hl 3 rfl) ?_
        obtain ⟨h_445, h_445z, hp⟩ := hp
        refine x_callI (vx_runSX (As := [.ref a1, .int (sI S a0 ((x5 + (1 : Int32))).toNatClampNeg), .int (sI S a0 ((x5 + (2 : Int32))).toNatClampNeg), .int (sI S a0 ((x5 + (3 : Int32))).toNatClampNeg), .ref a3]) (rest := []) F (c_L_countYears l hl0 hL_a1 hK_a1 hL_a3 hK_a3 hp H.size) (vx_cwSW 5 hts (wg_S wm_RL_318 wy_L_countYears) rfl rfl rfl ⟨by decide, by decide, by decide +kernel⟩ ⟨Nat.le_of_ble_eq_true rfl, Nat.le_of_ble_eq_true rfl⟩) (w_preS hK hW) rfl rfl hl.1 rfl (lv_room (Nat.le_of_ble_eq_true rfl)) dL_law_2200 ⟨by show _ + 2 ≤ rC; omega, by show _ + 12 ≤ rS; omega⟩) hW (fun E ce q9 S9 H locs hp hW h1 h2 h3 => hp.elim) (fun r_443 S_444 H locs hp hW => ?_)
        obtain ⟨hX_S_444, hp⟩ := hp
        refine W.widen (k := _ + 2) (n := _ + 12) (Nat.le_refl _) (Nat.le_refl _) ?_
        replace hbc := w_spend hbc (show 2 ≤ bc by omega)
        replace hbs := w_spend hbs (show 12 ≤ bs by omega)
        have hE := hE.trans hX_S_444
        have hK_a0 : sK S_444 a0 = 21 := (hX_S_444.2 a0 hL_a0).1.trans hK_a0
        have hL_a0 : wM D S_444 a0 := hX_S_444.M hL_a0
        have hK_a1 : sK S_444 a1 = 16 := (hX_S_444.2 a1 hL_a1).1.trans hK_a1
        have hL_a1 : wM D S_444 a1 := hX_S_444.M hL_a1
        have hK_a2 : sK S_444 a2 = 17 := (hX_S_444.2 a2 hL_a2).1.trans hK_a2
        have hL_a2 : wM D S_444 a2 := hX_S_444.M hL_a2
        have hK_a3 : sK S_444 a3 = 22 := (hX_S_444.2 a3 hL_a3).1.trans hK_a3
        have hL_a3 : wM D S_444 a3 := hX_S_444.M hL_a3
        have hK_a4 : sK S_444 a4 = 25 := (hX_S_444.2 a4 hL_a4).1.trans hK_a4
        have hL_a4 : wM D S_444 a4 := hX_S_444.M hL_a4
        refine lv_istore (lv' := [(6, .int r_443), (0, .ref a0), (1, .ref a1), (2, .ref a2), (3, .ref a3), (4, .ref a4), (5, .int x5)]) hx hb dL_law_2203 hl (by decide) rfl (fun ls hl => ?_)
        refine lv_aload_n hx hb dL_law_2205 rfl (lv_at hl 3 rfl) ?_
        refine lv_aload_n hx hb dL_law_2206 rfl (lv_at hl 1 rfl) ?_
        refine lv_iload hx hb dL_law_2207 (lv_at hl 6 rfl) ?_
        refine lv_iconst (v := 1) hx hb dL_law_2209 (by decide) ?_
        refine lv_iadd hx hb dL_law_2210 ?_
        obtain ⟨h_446, hp⟩ := hp
        refine w_ild F hK hW hL_a0 hK_a0 h_446 dL_law_2211 ?_
        refine lv_aload_n hx hb dL_law_2212 rfl (lv_at hl 1 rfl) ?_
        refine lv_iload hx hb dL_law_2213 (lv_at hl 6 rfl) ?_
        refine lv_iconst (v := 2) hx hb dL_law_2215 (by decide) ?_
        refine lv_iadd hx hb dL_law_2216 ?_
        obtain ⟨h_447, hp⟩ := hp
        refine w_ild F hK hW hL_a0 hK_a0 h_447 dL_law_2217 ?_
        refine lv_aload_n hx hb dL_law_2218 rfl (lv_at hl 1 rfl) ?_
        refine lv_iload hx hb dL_law_2219 (lv_at hl 6 rfl) ?_
        refine lv_iconst (v := 3) hx hb dL_law_2221 (by decide) ?_
        refine lv_iadd hx hb dL_law_2222 ?_
        obtain ⟨h_448, hp⟩ := hp
        refine w_ild F hK hW hL_a0 hK_a0 h_448 dL_law_2223 ?_
        refine w_callI (va_runV (As := [.int (sI S_444 a0 ((x5 + (1 : Int32))).toNatClampNeg), .int (sI S_444 a0 ((x5 + (2 : Int32))).toNatClampNeg), .int (sI S_444 a0 ((x5 + (3 : Int32))).toNatClampNeg)]) (rest := []) F (c_X12_countYears l hL_a2 hK_a2 hp H.size) (cwV (C := RX12) 3 hts (wg_V wm_RL_321 wy_X12_countYears) rfl rfl rfl (by decide +kernel) ⟨Nat.le_of_ble_eq_true rfl, Nat.le_of_ble_eq_true rfl⟩) (w_preV hK hW hL_a2 hK_a2 (by decide) rfl) rfl rfl hl.1 rfl (lv_room (Nat.le_of_ble_eq_true rfl)) dL_law_2224 ⟨by show _ ≤ rC; exact Nat.le_trans (Nat.le_add_right _ _) hbc, by show _ ≤ rS; exact Nat.le_trans (Nat.le_add_right _ _) hbs⟩) hW (fun r_449 S_450 H locs hp hW => ?_)
        obtain ⟨hX_S_450, hp⟩ := hp
        refine w_same ?_
        have hE := hE.trans hX_S_450
        have hK_a0 : sK S_450 a0 = 21 := (hX_S_450.2 a0 hL_a0).1.trans hK_a0
        have hL_a0 : wM D S_450 a0 := hX_S_450.M hL_a0
        have hK_a1 : sK S_450 a1 = 16 := (hX_S_450.2 a1 hL_a1).1.trans hK_a1
        have hL_a1 : wM D S_450 a1 := hX_S_450.M hL_a1
        have hK_a2 : sK S_450 a2 = 17 := (hX_S_450.2 a2 hL_a2).1.trans hK_a2
        have hL_a2 : wM D S_450 a2 := hX_S_450.M hL_a2
        have hK_a3 : sK S_450 a3 = 22 := (hX_S_450.2 a3 hL_a3).1.trans hK_a3
        have hL_a3 : wM D S_450 a3 := hX_S_450.M hL_a3
        have hK_a4 : sK S_450 a4 = 25 := (hX_S_450.2 a4 hL_a4).1.trans hK_a4
        have hL_a4 : wM D S_450 a4 := hX_S_450.M hL_a4
        refine lv_istore (lv' := [(7, .int r_449), (6, .int r_443), (0, .ref a0), (1, .ref a1), (2, .ref a2), (3, .ref a3), (4, .ref a4), (5, .int x5)]) hx hb dL_law_2227 hl (by decide) rfl (fun ls hl => ?_)
        refine lv_aload_n hx hb dL_law_2229 rfl (lv_at hl 4 rfl) ?_
        refine w_callI (va_runV (As := []) (rest := []) F (c_X12_thrown l hL_a2 hK_a2 hp H.size) (cwV (C := RX12) 0 hts (wg_V wm_RL_181 wy_X12_thrown) rfl rfl rfl (by decide +kernel) ⟨Nat.le_of_ble_eq_true rfl, Nat.le_of_ble_eq_true rfl⟩) (w_preV hK hW hL_a2 hK_a2 (by decide) rfl) rfl rfl hl.1 rfl (lv_room (Nat.le_of_ble_eq_true rfl)) dL_law_2230 ⟨by show _ ≤ rC; exact Nat.le_trans (Nat.le_add_right _ _) hbc, by show _ ≤ rS; exact Nat.le_trans (Nat.le_add_right _ _) hbs⟩) hW (fun r_451 S_452 H locs hp hW => ?_)
        obtain ⟨hX_S_452, hp⟩ := hp
        refine w_same ?_
        have hE := hE.trans hX_S_452
        have hK_a0 : sK S_452 a0 = 21 := (hX_S_452.2 a0 hL_a0).1.trans hK_a0
        have hL_a0 : wM D S_452 a0 := hX_S_452.M hL_a0
        have hK_a1 : sK S_452 a1 = 16 := (hX_S_452.2 a1 hL_a1).1.trans hK_a1
        have hL_a1 : wM D S_452 a1 := hX_S_452.M hL_a1
        have hK_a2 : sK S_452 a2 = 17 := (hX_S_452.2 a2 hL_a2).1.trans hK_a2
        have hL_a2 : wM D S_452 a2 := hX_S_452.M hL_a2
        have hK_a3 : sK S_452 a3 = 22 := (hX_S_452.2 a3 hL_a3).1.trans hK_a3
        have hL_a3 : wM D S_452 a3 := hX_S_452.M hL_a3
        have hK_a4 : sK S_452 a4 = 25 := (hX_S_452.2 a4 hL_a4).1.trans hK_a4
        have hL_a4 : wM D S_452 a4 := hX_S_452.M hL_a4
        refine lv_iload hx hb dL_law_2233 (lv_at hl 1 rfl) ?_
        refine lv_icmp_eq (tgt := 2240) hx hb dL_law_2235 (by decide) (fun c_453 => ?_) (fun c_453 => ?_)
        · replace hp := hp.1 c_453
          refine lv_iload hx hb dL_law_2240 (lv_at hl 1 rfl) ?_
          refine lv_if_ne (tgt := 2257) hx hb dL_law_2242 (by decide) (fun c_454 => ?_) (fun c_454 => ?_)
          · replace hp := hp.1 c_454
            exact t_L_law_2257 F hr hlocks hK hl0 hQ ih hbc hbs hp hW hE (lv_sub hl [2, 3, 4, 5, 6, 7] rfl) hL_a0 hK_a0 hL_a1 hK_a1 hL_a2 hK_a2 hL_a3 hK_a3 hL_a4 hK_a4
          · replace hp := hp.2 c_454
            refine lv_aload_n hx hb dL_law_2245 rfl (lv_at hl 5 rfl) ?_
            refine lv_iconst (v := 0) hx hb dL_law_2246 (by decide) ?_
            obtain ⟨h_455, hp⟩ := hp
            refine w_lld F hK hW hL_a3 hK_a3 h_455 dL_law_2247 ?_
            refine lv_iload hx hb dL_law_2248 (lv_at hl 0 rfl) ?_
            refine lv_i2l (v := (Int32.toInt64 r_449)) hx hb dL_law_2250 rfl ?_
            refine W.lcmp hx hb dL_law_2251 ?_
            refine lv_if_eq (tgt := 2257) hx hb dL_law_2252 (by decide) (fun c_456 => ?_) (fun c_456 => ?_)
            · replace hp := hp.1 c_456
              exact t_L_law_2257 F hr hlocks hK hl0 hQ ih hbc hbs hp hW hE (lv_sub hl [2, 3, 4, 5, 6, 7] rfl) hL_a0 hK_a0 hL_a1 hK_a1 hL_a2 hK_a2 hL_a3 hK_a3 hL_a4 hK_a4
            · replace hp := hp.2 c_456
              refine lv_iconst (v := 0) hx hb dL_law_2255 (by decide) ?_
              refine W.widen (k := rC) (n := rS) (Nat.le_trans (Nat.le_add_right _ _) hbc) (Nat.le_trans (Nat.le_add_right _ _) hbs) ?_
              exact hQ hp dL_law_2256 hW
        · replace hp := hp.2 c_453
          refine lv_iconst (v := 0) hx hb dL_law_2238 (by decide) ?_
          refine W.widen (k := rC) (n := rS) (Nat.le_trans (Nat.le_add_right _ _) hbc) (Nat.le_trans (Nat.le_add_right _ _) hbs) ?_
          exact hQ hp dL_law_2239 hW
      replace hp := hp.2
      by_cases c_457 : x_3 = 40
      · refine lv_tableIn (tgt := 2260) (x := x_3) (off := 2216) hx hb dL_law_44 (by rw [c_457]; decide) (by rw [c_457]; decide) (by rw [c_457]; decide) (by decide) ?_
        replace hp := hp.1 c_457
        refine lv_aload_n hx hb dL_law_2260 rfl (lv_at hl 1 rfl) ?_
        refine lv_aload_n hx hb dL_law_2261 rfl (lv_at hl 0 rfl) ?_
        refine lv_iload hx hb dL_law_2262 (lv_at hl 5 rfl) ?_
        refine lv_iconst (v := 1) hx hb dL_law_2264 (by decide) ?_
        refine lv_iadd hx hb dL_law_2265 ?_
        obtain ⟨h_458, hp⟩ := hp
        refine w_ild F hK hW hL_a0 hK_a0 h_458 dL_law_2266 ?_
        refine lv_aload_n hx hb dL_law_2267 rfl (lv_at hl 0 rfl) ?_
        refine lv_iload hx hb dL_law_2268 (lv_at hl 5 rfl) ?_
        refine lv_iconst (v := 2) hx hb dL_law_2270 (by decide) ?_
        refine lv_iadd hx hb dL_law_2271 ?_
        obtain ⟨h_459, hp⟩ := hp
        refine w_ild F hK hW hL_a0 hK_a0 h_459 dL_law_2272 ?_
        refine lv_if_eq (tgt := 2280) hx hb dL_law_2273 (by decide) (fun c_460 => ?_) (fun c_460 => ?_)
        · replace hp := hp.1 c_460
          refine lv_iconst (v := 0) hx hb dL_law_2280 (by decide) ?_
          exact t_L_law_2281 F hr hlocks hK hl0 hQ ih hbc hbs hp hW hE (lv_sub hl [0, 1, 2, 3, 4, 5] rfl) hL_a0 hK_a0 hL_a1 hK_a1 hL_a2 hK_a2 hL_a3 hK_a3 hL_a4 hK_a4 hL_a1 hK_a1
        · replace hp := hp.2 c_460
          refine lv_iconst (v := 1) hx hb dL_law_2276 (by decide) ?_
          refine lv_goto (tgt := 2281) hx hb dL_law_2277 (by decide) ?_
          exact t_L_law_2281 F hr hlocks hK hl0 hQ ih hbc hbs hp hW hE (lv_sub hl [0, 1, 2, 3, 4, 5] rfl) hL_a0 hK_a0 hL_a1 hK_a1 hL_a2 hK_a2 hL_a3 hK_a3 hL_a4 hK_a4 hL_a1 hK_a1
      replace hp := hp.2
      by_cases c_461 : x_3 = 41
      · refine lv_tableIn (tgt := 2344) (x := x_3) (off := 2300) hx hb dL_law_44 (by rw [c_461]; decide) (by rw [c_461]; decide) (by rw [c_461]; decide) (by decide) ?_
        replace hp := hp.1 c_461
        refine lv_aload_n hx hb dL_law_2344 rfl (lv_at hl 1 rfl) ?_
        refine lv_aload_n hx hb dL_law_2345 rfl (lv_at hl 0 rfl) ?_
        refine lv_iload hx hb dL_law_2346 (lv_at hl 5 rfl) ?_
        refine lv_iconst (v := 1) hx hb dL_law_2348 (by decide) ?_
        refine lv_iadd hx hb dL_law_2349 ?_
        obtain ⟨h_462, hp⟩ := hp
        refine w_ild F hK hW hL_a0 hK_a0 h_462 dL_law_2350 ?_
        refine lv_aload_n hx hb dL_law_2351 rfl (lv_at hl 3 rfl) ?_
        obtain ⟨h_465, h_465z, hp⟩ := hp
        refine x_callI (vx_runSX (As := [.ref a1, .int (sI S a0 ((x5 + (1 : Int32))).toNatClampNeg), .ref a3]) (rest := []) F (c_L_continuations l hl0 hL_a1 hK_a1 hL_a3 hK_a3 hp H.size) (vx_cwSW 3 hts (wg_S wm_RL_325 wy_L_continuations) rfl rfl rfl ⟨by decide, by decide, by decide +kernel⟩ ⟨Nat.le_of_ble_eq_true rfl, Nat.le_of_ble_eq_true rfl⟩) (w_preS hK hW) rfl rfl hl.1 rfl (lv_room (Nat.le_of_ble_eq_true rfl)) dL_law_2352 ⟨by show _ + 2 ≤ rC; omega, by show _ + 12 ≤ rS; omega⟩) hW (fun E ce q9 S9 H locs hp hW h1 h2 h3 => hp.elim) (fun r_463 S_464 H locs hp hW => ?_)
        obtain ⟨hX_S_464, hp⟩ := hp
        refine W.widen (k := _ + 2) (n := _ + 12) (Nat.le_refl _) (Nat.le_refl _) ?_
        replace hbc := w_spend hbc (show 2 ≤ bc by omega)
        replace hbs := w_spend hbs (show 12 ≤ bs by omega)
        have hE := hE.trans hX_S_464
        have hK_a0 : sK S_464 a0 = 21 := (hX_S_464.2 a0 hL_a0).1.trans hK_a0
        have hL_a0 : wM D S_464 a0 := hX_S_464.M hL_a0
        have hK_a1 : sK S_464 a1 = 16 := (hX_S_464.2 a1 hL_a1).1.trans hK_a1
        have hL_a1 : wM D S_464 a1 := hX_S_464.M hL_a1
        have hK_a2 : sK S_464 a2 = 17 := (hX_S_464.2 a2 hL_a2).1.trans hK_a2
        have hL_a2 : wM D S_464 a2 := hX_S_464.M hL_a2
        have hK_a3 : sK S_464 a3 = 22 := (hX_S_464.2 a3 hL_a3).1.trans hK_a3
        have hL_a3 : wM D S_464 a3 := hX_S_464.M hL_a3
        have hK_a4 : sK S_464 a4 = 25 := (hX_S_464.2 a4 hL_a4).1.trans hK_a4
        have hL_a4 : wM D S_464 a4 := hX_S_464.M hL_a4
        refine lv_istore (lv' := [(6, .int r_463), (0, .ref a0), (1, .ref a1), (2, .ref a2), (3, .ref a3), (4, .ref a4), (5, .int x5)]) hx hb dL_law_2355 hl (by decide) rfl (fun ls hl => ?_)
        refine lv_aload_n hx hb dL_law_2357 rfl (lv_at hl 3 rfl) ?_
        refine lv_aload_n hx hb dL_law_2358 rfl (lv_at hl 1 rfl) ?_
        refine lv_iload hx hb dL_law_2359 (lv_at hl 6 rfl) ?_
        refine lv_iconst (v := 1) hx hb dL_law_2361 (by decide) ?_
        refine lv_iadd hx hb dL_law_2362 ?_
        obtain ⟨h_466, hp⟩ := hp
        refine w_ild F hK hW hL_a0 hK_a0 h_466 dL_law_2363 ?_
        refine w_callI (va_runV (As := [.int (sI S_464 a0 ((x5 + (1 : Int32))).toNatClampNeg)]) (rest := []) F (c_X12_continuations l hL_a2 hK_a2 hp H.size) (cwV (C := RX12) 1 hts (wg_V wm_RL_327 wy_X12_continuations) rfl rfl rfl (by decide +kernel) ⟨Nat.le_of_ble_eq_true rfl, Nat.le_of_ble_eq_true rfl⟩) (w_preV hK hW hL_a2 hK_a2 (by decide) rfl) rfl rfl hl.1 rfl (lv_room (Nat.le_of_ble_eq_true rfl)) dL_law_2364 ⟨by show _ ≤ rC; exact Nat.le_trans (Nat.le_add_right _ _) hbc, by show _ ≤ rS; exact Nat.le_trans (Nat.le_add_right _ _) hbs⟩) hW (fun r_467 S_468 H locs hp hW => ?_)
        obtain ⟨hX_S_468, hp⟩ := hp
        refine w_same ?_
        have hE := hE.trans hX_S_468
        have hK_a0 : sK S_468 a0 = 21 := (hX_S_468.2 a0 hL_a0).1.trans hK_a0
        have hL_a0 : wM D S_468 a0 := hX_S_468.M hL_a0
        have hK_a1 : sK S_468 a1 = 16 := (hX_S_468.2 a1 hL_a1).1.trans hK_a1
        have hL_a1 : wM D S_468 a1 := hX_S_468.M hL_a1
        have hK_a2 : sK S_468 a2 = 17 := (hX_S_468.2 a2 hL_a2).1.trans hK_a2
        have hL_a2 : wM D S_468 a2 := hX_S_468.M hL_a2
        have hK_a3 : sK S_468 a3 = 22 := (hX_S_468.2 a3 hL_a3).1.trans hK_a3
        have hL_a3 : wM D S_468 a3 := hX_S_468.M hL_a3
        have hK_a4 : sK S_468 a4 = 25 := (hX_S_468.2 a4 hL_a4).1.trans hK_a4
        have hL_a4 : wM D S_468 a4 := hX_S_468.M hL_a4
        refine lv_istore (lv' := [(7, .int r_467), (6, .int r_463), (0, .ref a0), (1, .ref a1), (2, .ref a2), (3, .ref a3), (4, .ref a4), (5, .int x5)]) hx hb dL_law_2367 hl (by decide) rfl (fun ls hl => ?_)
        refine lv_aload_n hx hb dL_law_2369 rfl (lv_at hl 4 rfl) ?_
        refine w_callI (va_runV (As := []) (rest := []) F (c_X12_thrown l hL_a2 hK_a2 hp H.size) (cwV (C := RX12) 0 hts (wg_V wm_RL_181 wy_X12_thrown) rfl rfl rfl (by decide +kernel) ⟨Nat.le_of_ble_eq_true rfl, Nat.le_of_ble_eq_true rfl⟩) (w_preV hK hW hL_a2 hK_a2 (by decide) rfl) rfl rfl hl.1 rfl (lv_room (Nat.le_of_ble_eq_true rfl)) dL_law_2370 ⟨by show _ ≤ rC; exact Nat.le_trans (Nat.le_add_right _ _) hbc, by show _ ≤ rS; exact Nat.le_trans (Nat.le_add_right _ _) hbs⟩) hW (fun r_469 S_470 H locs hp hW => ?_)
        obtain ⟨hX_S_470, hp⟩ := hp
        refine w_same ?_
        have hE := hE.trans hX_S_470
        have hK_a0 : sK S_470 a0 = 21 := (hX_S_470.2 a0 hL_a0).1.trans hK_a0
        have hL_a0 : wM D S_470 a0 := hX_S_470.M hL_a0
        have hK_a1 : sK S_470 a1 = 16 := (hX_S_470.2 a1 hL_a1).1.trans hK_a1
        have hL_a1 : wM D S_470 a1 := hX_S_470.M hL_a1
        have hK_a2 : sK S_470 a2 = 17 := (hX_S_470.2 a2 hL_a2).1.trans hK_a2
        have hL_a2 : wM D S_470 a2 := hX_S_470.M hL_a2
        have hK_a3 : sK S_470 a3 = 22 := (hX_S_470.2 a3 hL_a3).1.trans hK_a3
        have hL_a3 : wM D S_470 a3 := hX_S_470.M hL_a3
        have hK_a4 : sK S_470 a4 = 25 := (hX_S_470.2 a4 hL_a4).1.trans hK_a4
        have hL_a4 : wM D S_470 a4 := hX_S_470.M hL_a4
        refine lv_iload hx hb dL_law_2373 (lv_at hl 1 rfl) ?_
        refine lv_icmp_eq (tgt := 2380) hx hb dL_law_2375 (by decide) (fun c_471 => ?_) (fun c_471 => ?_)
        · replace hp := hp.1 c_471
          refine lv_iload hx hb dL_law_2380 (lv_at hl 1 rfl) ?_
          refine lv_if_ne (tgt := 2397) hx hb dL_law_2382 (by decide) (fun c_472 => ?_) (fun c_472 => ?_)
          · replace hp := hp.1 c_472
            exact t_L_law_2397 F hr hlocks hK hl0 hQ ih hbc hbs hp hW hE (lv_sub hl [2, 3, 4, 5, 6, 7] rfl) hL_a0 hK_a0 hL_a1 hK_a1 hL_a2 hK_a2 hL_a3 hK_a3 hL_a4 hK_a4
          · replace hp := hp.2 c_472
            refine lv_aload_n hx hb dL_law_2385 rfl (lv_at hl 5 rfl) ?_
            refine lv_iconst (v := 0) hx hb dL_law_2386 (by decide) ?_
            obtain ⟨h_473, hp⟩ := hp
            refine w_lld F hK hW hL_a3 hK_a3 h_473 dL_law_2387 ?_
            refine lv_iload hx hb dL_law_2388 (lv_at hl 0 rfl) ?_
            refine lv_i2l (v := (Int32.toInt64 r_467)) hx hb dL_law_2390 rfl ?_
            refine W.lcmp hx hb dL_law_2391 ?_
            refine lv_if_eq (tgt := 2397) hx hb dL_law_2392 (by decide) (fun c_474 => ?_) (fun c_474 => ?_)
            · replace hp := hp.1 c_474
              exact t_L_law_2397 F hr hlocks hK hl0 hQ ih hbc hbs hp hW hE (lv_sub hl [2, 3, 4, 5, 6, 7] rfl) hL_a0 hK_a0 hL_a1 hK_a1 hL_a2 hK_a2 hL_a3 hK_a3 hL_a4 hK_a4
            · replace hp := hp.2 c_474
              refine lv_iconst (v := 0) hx hb dL_law_2395 (by decide) ?_
              refine W.widen (k := rC) (n := rS) (Nat.le_trans (Nat.le_add_right _ _) hbc) (Nat.le_trans (Nat.le_add_right _ _) hbs) ?_
              exact hQ hp dL_law_2396 hW
        · replace hp := hp.2 c_471
          refine lv_iconst (v := 0) hx hb dL_law_2378 (by decide) ?_
          refine W.widen (k := rC) (n := rS) (Nat.le_trans (Nat.le_add_right _ _) hbc) (Nat.le_trans (Nat.le_add_right _ _) hbs) ?_
          exact hQ hp dL_law_2379 hW
      replace hp := hp.2
      by_cases c_475 : x_3 = 42
      · refine lv_tableIn (tgt := 2400) (x := x_3) (off := 2356) hx hb dL_law_44 (by rw [c_475]; decide) (by rw [c_475]; decide) (by rw [c_475]; decide) (by decide) ?_
        replace hp := hp.1 c_475
        refine lv_aload_n hx hb dL_law_2400 rfl (lv_at hl 1 rfl) ?_
        refine lv_aload_n hx hb dL_law_2401 rfl (lv_at hl 0 rfl) ?_
        refine lv_iload hx hb dL_law_2402 (lv_at hl 5 rfl) ?_
        refine lv_iconst (v := 1) hx hb dL_law_2404 (by decide) ?_
        refine lv_iadd hx hb dL_law_2405 ?_
        obtain ⟨h_476, hp⟩ := hp
        refine w_ild F hK hW hL_a0 hK_a0 h_476 dL_law_2406 ?_
        refine lv_aload_n hx hb dL_law_2407 rfl (lv_at hl 0 rfl) ?_
        refine lv_iload hx hb dL_law_2408 (lv_at hl 5 rfl) ?_
        refine lv_iconst (v := 2) hx hb dL_law_2410 (by decide) ?_
        refine lv_iadd hx hb dL_law_2411 ?_
        obtain ⟨h_477, hp⟩ := hp
        refine w_ild F hK hW hL_a0 hK_a0 h_477 dL_law_2412 ?_
        refine lv_aload_n hx hb dL_law_2413 rfl (lv_at hl 3 rfl) ?_
        obtain ⟨h_480, h_480z, hp⟩ := hp
        refine x_callI (vx_runSX (As := [.ref a1, .int (sI S a0 ((x5 + (1 : Int32))).toNatClampNeg), .int (sI S a0 ((x5 + (2 : Int32))).toNatClampNeg), .ref a3]) (rest := []) F (c_L_continuationAt l hl0 hL_a1 hK_a1 hL_a3 hK_a3 hp H.size) (vx_cwSW 4 hts (wg_S wm_RL_328 wy_L_continuationAt) rfl rfl rfl ⟨by decide, by decide, by decide +kernel⟩ ⟨Nat.le_of_ble_eq_true rfl, Nat.le_of_ble_eq_true rfl⟩) (w_preS hK hW) rfl rfl hl.1 rfl (lv_room (Nat.le_of_ble_eq_true rfl)) dL_law_2414 ⟨by show _ + 3 ≤ rC; omega, by show _ + 18 ≤ rS; omega⟩) hW (fun E ce q9 S9 H locs hp hW h1 h2 h3 => hp.elim) (fun r_478 S_479 H locs hp hW => ?_)
        obtain ⟨hX_S_479, hp⟩ := hp
        refine W.widen (k := _ + 3) (n := _ + 18) (Nat.le_refl _) (Nat.le_refl _) ?_
        replace hbc := w_spend hbc (show 3 ≤ bc by omega)
        replace hbs := w_spend hbs (show 18 ≤ bs by omega)
        have hE := hE.trans hX_S_479
        have hK_a0 : sK S_479 a0 = 21 := (hX_S_479.2 a0 hL_a0).1.trans hK_a0
        have hL_a0 : wM D S_479 a0 := hX_S_479.M hL_a0
        have hK_a1 : sK S_479 a1 = 16 := (hX_S_479.2 a1 hL_a1).1.trans hK_a1
        have hL_a1 : wM D S_479 a1 := hX_S_479.M hL_a1
        have hK_a2 : sK S_479 a2 = 17 := (hX_S_479.2 a2 hL_a2).1.trans hK_a2
        have hL_a2 : wM D S_479 a2 := hX_S_479.M hL_a2
        have hK_a3 : sK S_479 a3 = 22 := (hX_S_479.2 a3 hL_a3).1.trans hK_a3
        have hL_a3 : wM D S_479 a3 := hX_S_479.M hL_a3
        have hK_a4 : sK S_479 a4 = 25 := (hX_S_479.2 a4 hL_a4).1.trans hK_a4
        have hL_a4 : wM D S_479 a4 := hX_S_479.M hL_a4
        refine lv_istore (lv' := [(6, .int r_478), (0, .ref a0), (1, .ref a1), (2, .ref a2), (3, .ref a3), (4, .ref a4), (5, .int x5)]) hx hb dL_law_2417 hl (by decide) rfl (fun ls hl => ?_)
        refine lv_aload_n hx hb dL_law_2419 rfl (lv_at hl 3 rfl) ?_
        refine lv_aload_n hx hb dL_law_2420 rfl (lv_at hl 1 rfl) ?_
        refine lv_iload hx hb dL_law_2421 (lv_at hl 6 rfl) ?_
        refine lv_iconst (v := 1) hx hb dL_law_2423 (by decide) ?_
        refine lv_iadd hx hb dL_law_2424 ?_
        obtain ⟨h_481, hp⟩ := hp
        refine w_ild F hK hW hL_a0 hK_a0 h_481 dL_law_2425 ?_
        refine lv_aload_n hx hb dL_law_2426 rfl (lv_at hl 1 rfl) ?_
        refine lv_iload hx hb dL_law_2427 (lv_at hl 6 rfl) ?_
        refine lv_iconst (v := 2) hx hb dL_law_2429 (by decide) ?_
        refine lv_iadd hx hb dL_law_2430 ?_
        obtain ⟨h_482, hp⟩ := hp
        refine w_ild F hK hW hL_a0 hK_a0 h_482 dL_law_2431 ?_
        refine w_callI (va_runV (As := [.int (sI S_479 a0 ((x5 + (1 : Int32))).toNatClampNeg), .int (sI S_479 a0 ((x5 + (2 : Int32))).toNatClampNeg)]) (rest := []) F (c_X12_continuationAt l hL_a2 hK_a2 hp H.size) (cwV (C := RX12) 2 hts (wg_V wm_RL_330 wy_X12_continuationAt) rfl rfl rfl (by decide +kernel) ⟨Nat.le_of_ble_eq_true rfl, Nat.le_of_ble_eq_true rfl⟩) (w_preV hK hW hL_a2 hK_a2 (by decide) rfl) rfl rfl hl.1 rfl (lv_room (Nat.le_of_ble_eq_true rfl)) dL_law_2432 ⟨by show _ ≤ rC; exact Nat.le_trans (Nat.le_add_right _ _) hbc, by show _ ≤ rS; exact Nat.le_trans (Nat.le_add_right _ _) hbs⟩) hW (fun r_483 S_484 H locs hp hW => ?_)
        obtain ⟨hX_S_484, hp⟩ := hp
        refine w_same ?_
        have hE := hE.trans hX_S_484
        have hK_a0 : sK S_484 a0 = 21 := (hX_S_484.2 a0 hL_a0).1.trans hK_a0
        have hL_a0 : wM D S_484 a0 := hX_S_484.M hL_a0
        have hK_a1 : sK S_484 a1 = 16 := (hX_S_484.2 a1 hL_a1).1.trans hK_a1
        have hL_a1 : wM D S_484 a1 := hX_S_484.M hL_a1
        have hK_a2 : sK S_484 a2 = 17 := (hX_S_484.2 a2 hL_a2).1.trans hK_a2
        have hL_a2 : wM D S_484 a2 := hX_S_484.M hL_a2
        have hK_a3 : sK S_484 a3 = 22 := (hX_S_484.2 a3 hL_a3).1.trans hK_a3
        have hL_a3 : wM D S_484 a3 := hX_S_484.M hL_a3
        have hK_a4 : sK S_484 a4 = 25 := (hX_S_484.2 a4 hL_a4).1.trans hK_a4
        have hL_a4 : wM D S_484 a4 := hX_S_484.M hL_a4
        refine lv_istore (lv' := [(7, .int r_483), (6, .int r_478), (0, .ref a0), (1, .ref a1), (2, .ref a2), (3, .ref a3), (4, .ref a4), (5, .int x5)]) hx hb dL_law_2435 hl (by decide) rfl (fun ls hl => ?_)
        refine lv_aload_n hx hb dL_law_2437 rfl (lv_at hl 4 rfl) ?_
        refine w_callI (va_runV (As := []) (rest := []) F (c_X12_thrown l hL_a2 hK_a2 hp H.size) (cwV (C := RX12) 0 hts (wg_V wm_RL_181 wy_X12_thrown) rfl rfl rfl (by decide +kernel) ⟨Nat.le_of_ble_eq_true rfl, Nat.le_of_ble_eq_true rfl⟩) (w_preV hK hW hL_a2 hK_a2 (by decide) rfl) rfl rfl hl.1 rfl (lv_room (Nat.le_of_ble_eq_true rfl)) dL_law_2438 ⟨by show _ ≤ rC; exact Nat.le_trans (Nat.le_add_right _ _) hbc, by show _ ≤ rS; exact Nat.le_trans (Nat.le_add_right _ _) hbs⟩) hW (fun r_485 S_486 H locs hp hW => ?_)
        obtain ⟨hX_S_486, hp⟩ := hp
        refine w_same ?_
        have hE := hE.trans hX_S_486
        have hK_a0 : sK S_486 a0 = 21 := (hX_S_486.2 a0 hL_a0).1.trans hK_a0
        have hL_a0 : wM D S_486 a0 := hX_S_486.M hL_a0
        have hK_a1 : sK S_486 a1 = 16 := (hX_S_486.2 a1 hL_a1).1.trans hK_a1
        have hL_a1 : wM D S_486 a1 := hX_S_486.M hL_a1
        have hK_a2 : sK S_486 a2 = 17 := (hX_S_486.2 a2 hL_a2).1.trans hK_a2
        have hL_a2 : wM D S_486 a2 := hX_S_486.M hL_a2
        have hK_a3 : sK S_486 a3 = 22 := (hX_S_486.2 a3 hL_a3).1.trans hK_a3
        have hL_a3 : wM D S_486 a3 := hX_S_486.M hL_a3
        have hK_a4 : sK S_486 a4 = 25 := (hX_S_486.2 a4 hL_a4).1.trans hK_a4
        have hL_a4 : wM D S_486 a4 := hX_S_486.M hL_a4
        refine lv_iload hx hb dL_law_2441 (lv_at hl 1 rfl) ?_
        refine lv_icmp_eq (tgt := 2448) hx hb dL_law_2443 (by decide) (fun c_487 => ?_) (fun c_487 => ?_)
        · replace hp := hp.1 c_487
          refine lv_iload hx hb dL_law_2448 (lv_at hl 1 rfl) ?_
          refine lv_if_ne (tgt := 2465) hx hb dL_law_2450 (by decide) (fun c_488 => ?_) (fun c_488 => ?_)
          · replace hp := hp.1 c_488
            exact t_L_law_2465 F hr hlocks hK hl0 hQ ih hbc hbs hp hW hE (lv_sub hl [2, 3, 4, 5, 6, 7] rfl) hL_a0 hK_a0 hL_a1 hK_a1 hL_a2 hK_a2 hL_a3 hK_a3 hL_a4 hK_a4
          · replace hp := hp.2 c_488
            refine lv_aload_n hx hb dL_law_2453 rfl (lv_at hl 5 rfl) ?_
            refine lv_iconst (v := 0) hx hb dL_law_2454 (by decide) ?_
            obtain ⟨h_489, hp⟩ := hp
            refine w_lld F hK hW hL_a3 hK_a3 h_489 dL_law_2455 ?_
            refine lv_iload hx hb dL_law_2456 (lv_at hl 0 rfl) ?_
            refine lv_i2l (v := (Int32.toInt64 r_483)) hx hb dL_law_2458 rfl ?_
            refine W.lcmp hx hb dL_law_2459 ?_
            refine lv_if_eq (tgt := 2465) hx hb dL_law_2460 (by decide) (fun c_490 => ?_) (fun c_490 => ?_)
            · replace hp := hp.1 c_490
              exact t_L_law_2465 F hr hlocks hK hl0 hQ ih hbc hbs hp hW hE (lv_sub hl [2, 3, 4, 5, 6, 7] rfl) hL_a0 hK_a0 hL_a1 hK_a1 hL_a2 hK_a2 hL_a3 hK_a3 hL_a4 hK_a4
            · replace hp := hp.2 c_490
              refine lv_iconst (v := 0) hx hb dL_law_2463 (by decide) ?_
              refine W.widen (k := rC) (n := rS) (Nat.le_trans (Nat.le_add_right _ _) hbc) (Nat.le_trans (Nat.le_add_right _ _) hbs) ?_
              exact hQ hp dL_law_2464 hW
        · replace hp := hp.2 c_487
          refine lv_iconst (v := 0) hx hb dL_law_2446 (by decide) ?_
          refine W.widen (k := rC) (n := rS) (Nat.le_trans (Nat.le_add_right _ _) hbc) (Nat.le_trans (Nat.le_add_right _ _) hbs) ?_
          exact hQ hp dL_law_2447 hW
      replace hp := hp.2
      by_cases c_491 : x_3 = 43
      · refine lv_tableIn (tgt := 2468) (x := x_3) (off := 2424) hx hb dL_law_44 (by rw [c_491]; decide) (by rw [c_491]; decide) (by rw [c_491]; decide) (by decide) ?_
        replace hp := hp.1 c_491
        refine lv_aload_n hx hb dL_law_2468 rfl (lv_at hl 1 rfl) ?_
        refine lv_aload_n hx hb dL_law_2469 rfl (lv_at hl 0 rfl) ?_
        refine lv_iload hx hb dL_law_2470 (lv_at hl 5 rfl) ?_
        refine lv_iconst (v := 1) hx hb dL_law_2472 (by decide) ?_
        refine lv_iadd hx hb dL_law_2473 ?_
        obtain ⟨h_492, hp⟩ := hp
        refine w_ild F hK hW hL_a0 hK_a0 h_492 dL_law_2474 ?_
        refine lv_aload_n hx hb dL_law_2475 rfl (lv_at hl 0 rfl) ?_
        refine lv_iload hx hb dL_law_2476 (lv_at hl 5 rfl) ?_
        refine lv_iconst (v := 2) hx hb dL_law_2478 (by decide) ?_
        refine lv_iadd hx hb dL_law_2479 ?_
        obtain ⟨h_493, hp⟩ := hp
        refine w_ild F hK hW hL_a0 hK_a0 h_493 dL_law_2480 ?_
        refine lv_aload_n hx hb dL_law_2481 rfl (lv_at hl 3 rfl) ?_
        obtain ⟨h_496, h_496z, hp⟩ := hp
        refine x_callI (vx_runSX (As := [.ref a1, .int (sI S a0 ((x5 + (1 : Int32))).toNatClampNeg), .int (sI S a0 ((x5 + (2 : Int32))).toNatClampNeg), .ref a3]) (rest := []) F (c_L_gamesOf l hl0 hL_a1 hK_a1 hL_a3 hK_a3 hp H.size) (vx_cwSW 4 hts (wg_S wm_RL_331 wy_L_gamesOf) rfl rfl rfl ⟨by decide, by decide, by decide +kernel⟩ ⟨Nat.le_of_ble_eq_true rfl, Nat.le_of_ble_eq_true rfl⟩) (w_preS hK hW) rfl rfl hl.1 rfl (lv_room (Nat.le_of_ble_eq_true rfl)) dL_law_2482 ⟨by show _ + 3 ≤ rC; omega, by show _ + 18 ≤ rS; omega⟩) hW (fun E ce q9 S9 H locs hp hW h1 h2 h3 => hp.elim) (fun r_494 S_495 H locs hp hW => ?_)
        obtain ⟨hX_S_495, hp⟩ := hp
        refine W.widen (k := _ + 3) (n := _ + 18) (Nat.le_refl _) (Nat.le_refl _) ?_
        replace hbc := w_spend hbc (show 3 ≤ bc by omega)
        replace hbs := w_spend hbs (show 18 ≤ bs by omega)
        have hE := hE.trans hX_S_495
        have hK_a0 : sK S_495 a0 = 21 := (hX_S_495.2 a0 hL_a0).1.trans hK_a0
        have hL_a0 : wM D S_495 a0 := hX_S_495.M hL_a0
        have hK_a1 : sK S_495 a1 = 16 := (hX_S_495.2 a1 hL_a1).1.trans hK_a1
        have hL_a1 : wM D S_495 a1 := hX_S_495.M hL_a1
        have hK_a2 : sK S_495 a2 = 17 := (hX_S_495.2 a2 hL_a2).1.trans hK_a2
        have hL_a2 : wM D S_495 a2 := hX_S_495.M hL_a2
        have hK_a3 : sK S_495 a3 = 22 := (hX_S_495.2 a3 hL_a3).1.trans hK_a3
        have hL_a3 : wM D S_495 a3 := hX_S_495.M hL_a3
        have hK_a4 : sK S_495 a4 = 25 := (hX_S_495.2 a4 hL_a4).1.trans hK_a4
        have hL_a4 : wM D S_495 a4 := hX_S_495.M hL_a4
        refine lv_istore (lv' := [(6, .int r_494), (0, .ref a0), (1, .ref a1), (2, .ref a2), (3, .ref a3), (4, .ref a4), (5, .int x5)]) hx hb dL_law_2485 hl (by decide) rfl (fun ls hl => ?_)
        refine lv_aload_n hx hb dL_law_2487 rfl (lv_at hl 3 rfl) ?_
        refine lv_aload_n hx hb dL_law_2488 rfl (lv_at hl 1 rfl) ?_
        refine lv_iload hx hb dL_law_2489 (lv_at hl 6 rfl) ?_
        refine lv_iconst (v := 1) hx hb dL_law_2491 (by decide) ?_
        refine lv_iadd hx hb dL_law_2492 ?_
        obtain ⟨h_497, hp⟩ := hp
        refine w_ild F hK hW hL_a0 hK_a0 h_497 dL_law_2493 ?_
        refine lv_aload_n hx hb dL_law_2494 rfl (lv_at hl 1 rfl) ?_
        refine lv_iload hx hb dL_law_2495 (lv_at hl 6 rfl) ?_
        refine lv_iconst (v := 2) hx hb dL_law_2497 (by decide) ?_
        refine lv_iadd hx hb dL_law_2498 ?_
        obtain ⟨h_498, hp⟩ := hp
        refine w_ild F hK hW hL_a0 hK_a0 h_498 dL_law_2499 ?_
        refine w_callI (va_runV (As := [.int (sI S_495 a0 ((x5 + (1 : Int32))).toNatClampNeg), .int (sI S_495 a0 ((x5 + (2 : Int32))).toNatClampNeg)]) (rest := []) F (c_X12_gamesOf l hL_a2 hK_a2 hp H.size) (cwV (C := RX12) 2 hts (wg_V wm_RL_333 wy_X12_gamesOf) rfl rfl rfl (by decide +kernel) ⟨Nat.le_of_ble_eq_true rfl, Nat.le_of_ble_eq_true rfl⟩) (w_preV hK hW hL_a2 hK_a2 (by decide) rfl) rfl rfl hl.1 rfl (lv_room (Nat.le_of_ble_eq_true rfl)) dL_law_2500 ⟨by show _ ≤ rC; exact Nat.le_trans (Nat.le_add_right _ _) hbc, by show _ ≤ rS; exact Nat.le_trans (Nat.le_add_right _ _) hbs⟩) hW (fun r_499 S_500 H locs hp hW => ?_)
        obtain ⟨hX_S_500, hp⟩ := hp
        refine w_same ?_
        have hE := hE.trans hX_S_500
        have hK_a0 : sK S_500 a0 = 21 := (hX_S_500.2 a0 hL_a0).1.trans hK_a0
        have hL_a0 : wM D S_500 a0 := hX_S_500.M hL_a0
        have hK_a1 : sK S_500 a1 = 16 := (hX_S_500.2 a1 hL_a1).1.trans hK_a1
        have hL_a1 : wM D S_500 a1 := hX_S_500.M hL_a1
        have hK_a2 : sK S_500 a2 = 17 := (hX_S_500.2 a2 hL_a2).1.trans hK_a2
        have hL_a2 : wM D S_500 a2 := hX_S_500.M hL_a2
        have hK_a3 : sK S_500 a3 = 22 := (hX_S_500.2 a3 hL_a3).1.trans hK_a3
        have hL_a3 : wM D S_500 a3 := hX_S_500.M hL_a3
        have hK_a4 : sK S_500 a4 = 25 := (hX_S_500.2 a4 hL_a4).1.trans hK_a4
        have hL_a4 : wM D S_500 a4 := hX_S_500.M hL_a4
        refine lv_istore (lv' := [(7, .int r_499), (6, .int r_494), (0, .ref a0), (1, .ref a1), (2, .ref a2), (3, .ref a3), (4, .ref a4), (5, .int x5)]) hx hb dL_law_2503 hl (by decide) rfl (fun ls hl => ?_)
        refine lv_aload_n hx hb dL_law_2505 rfl (lv_at hl 4 rfl) ?_
        refine w_callI (va_runV (As := []) (rest := []) F (c_X12_thrown l hL_a2 hK_a2 hp H.size) (cwV (C := RX12) 0 hts (wg_V wm_RL_181 wy_X12_thrown) rfl rfl rfl (by decide +kernel) ⟨Nat.le_of_ble_eq_true rfl, Nat.le_of_ble_eq_true rfl⟩) (w_preV hK hW hL_a2 hK_a2 (by decide) rfl) rfl rfl hl.1 rfl (lv_room (Nat.le_of_ble_eq_true rfl)) dL_law_2506 ⟨by show _ ≤ rC; exact Nat.le_trans (Nat.le_add_right _ _) hbc, by show _ ≤ rS; exact Nat.le_trans (Nat.le_add_right _ _) hbs⟩) hW (fun r_501 S_502 H locs hp hW => ?_)
        obtain ⟨hX_S_502, hp⟩ := hp
        refine w_same ?_
        have hE := hE.trans hX_S_502
        have hK_a0 : sK S_502 a0 = 21 := (hX_S_502.2 a0 hL_a0).1.trans hK_a0
        have hL_a0 : wM D S_502 a0 := hX_S_502.M hL_a0
        have hK_a1 : sK S_502 a1 = 16 := (hX_S_502.2 a1 hL_a1).1.trans hK_a1
        have hL_a1 : wM D S_502 a1 := hX_S_502.M hL_a1
        have hK_a2 : sK S_502 a2 = 17 := (hX_S_502.2 a2 hL_a2).1.trans hK_a2
        have hL_a2 : wM D S_502 a2 := hX_S_502.M hL_a2
        have hK_a3 : sK S_502 a3 = 22 := (hX_S_502.2 a3 hL_a3).1.trans hK_a3
        have hL_a3 : wM D S_502 a3 := hX_S_502.M hL_a3
        have hK_a4 : sK S_502 a4 = 25 := (hX_S_502.2 a4 hL_a4).1.trans hK_a4
        have hL_a4 : wM D S_502 a4 := hX_S_502.M hL_a4
        refine lv_iload hx hb dL_law_2509 (lv_at hl 1 rfl) ?_
        refine lv_icmp_eq (tgt := 2516) hx hb dL_law_2511 (by decide) (fun c_503 => ?_) (fun c_503 => ?_)
        · replace hp := hp.1 c_503
          refine lv_iload hx hb dL_law_2516 (lv_at hl 1 rfl) ?_
          refine lv_if_ne (tgt := 2533) hx hb dL_law_2518 (by decide) (fun c_504 => ?_) (fun c_504 => ?_)
          · replace hp := hp.1 c_504
            exact t_L_law_2533 F hr hlocks hK hl0 hQ ih hbc hbs hp hW hE (lv_sub hl [2, 3, 4, 5, 6, 7] rfl) hL_a0 hK_a0 hL_a1 hK_a1 hL_a2 hK_a2 hL_a3 hK_a3 hL_a4 hK_a4
          · replace hp := hp.2 c_504
            refine lv_aload_n hx hb dL_law_2521 rfl (lv_at hl 5 rfl) ?_
            refine lv_iconst (v := 0) hx hb dL_law_2522 (by decide) ?_
            obtain ⟨h_505, hp⟩ := hp
            refine w_lld F hK hW hL_a3 hK_a3 h_505 dL_law_2523 ?_
            refine lv_iload hx hb dL_law_2524 (lv_at hl 0 rfl) ?_
            refine lv_i2l (v := (Int32.toInt64 r_499)) hx hb dL_law_2526 rfl ?_
            refine W.lcmp hx hb dL_law_2527 ?_
            refine lv_if_eq (tgt := 2533) hx hb dL_law_2528 (by decide) (fun c_506 => ?_) (fun c_506 => ?_)
            · replace hp := hp.1 c_506
              exact t_L_law_2533 F hr hlocks hK hl0 hQ ih hbc hbs hp hW hE (lv_sub hl [2, 3, 4, 5, 6, 7] rfl) hL_a0 hK_a0 hL_a1 hK_a1 hL_a2 hK_a2 hL_a3 hK_a3 hL_a4 hK_a4
            · replace hp := hp.2 c_506
              refine lv_iconst (v := 0) hx hb dL_law_2531 (by decide) ?_
              refine W.widen (k := rC) (n := rS) (Nat.le_trans (Nat.le_add_right _ _) hbc) (Nat.le_trans (Nat.le_add_right _ _) hbs) ?_
              exact hQ hp dL_law_2532 hW
        · replace hp := hp.2 c_503
          refine lv_iconst (v := 0) hx hb dL_law_2514 (by decide) ?_
          refine W.widen (k := rC) (n := rS) (Nat.le_trans (Nat.le_add_right _ _) hbc) (Nat.le_trans (Nat.le_add_right _ _) hbs) ?_
          exact hQ hp dL_law_2515 hW
      replace hp := hp.2
      by_cases c_507 : x_3 = 44
      · refine lv_tableIn (tgt := 2536) (x := x_3) (off := 2492) hx hb dL_law_44 (by rw [c_507]; decide) (by rw [c_507]; decide) (by rw [c_507]; decide) (by decide) ?_
        replace hp := hp.1 c_507
        refine lv_aload_n hx hb dL_law_2536 rfl (lv_at hl 1 rfl) ?_
        refine lv_aload_n hx hb dL_law_2537 rfl (lv_at hl 0 rfl) ?_
        refine lv_iload hx hb dL_law_2538 (lv_at hl 5 rfl) ?_
        refine lv_iconst (v := 1) hx hb dL_law_2540 (by decide) ?_
        refine lv_iadd hx hb dL_law_2541 ?_
        obtain ⟨h_508, hp⟩ := hp
        refine w_ild F hK hW hL_a0 hK_a0 h_508 dL_law_2542 ?_
        refine lv_aload_n hx hb dL_law_2543 rfl (lv_at hl 0 rfl) ?_
        refine lv_iload hx hb dL_law_2544 (lv_at hl 5 rfl) ?_
        refine lv_iconst (v := 2) hx hb dL_law_2546 (by decide) ?_
        refine lv_iadd hx hb dL_law_2547 ?_
        obtain ⟨h_509, hp⟩ := hp
        refine w_ild F hK hW hL_a0 hK_a0 h_509 dL_law_2548 ?_
        refine lv_aload_n hx hb dL_law_2549 rfl (lv_at hl 3 rfl) ?_
        obtain ⟨h_512, h_512z, hp⟩ := hp
        refine x_callI (vx_runSX (As := [.ref a1, .int (sI S a0 ((x5 + (1 : Int32))).toNatClampNeg), .int (sI S a0 ((x5 + (2 : Int32))).toNatClampNeg), .ref a3]) (rest := []) F (c_L_playMain l hl0 hL_a1 hK_a1 hL_a3 hK_a3 hp H.size) (vx_cwSW 4 hts (wg_S wm_RL_334 wy_L_playMain) rfl rfl rfl ⟨by decide, by decide, by decide +kernel⟩ ⟨Nat.le_of_ble_eq_true rfl, Nat.le_of_ble_eq_true rfl⟩) (w_preS hK hW) rfl rfl hl.1 rfl (lv_room (Nat.le_of_ble_eq_true rfl)) dL_law_2550 ⟨by show _ + 2 ≤ rC; omega, by show _ + 12 ≤ rS; omega⟩) hW (fun E ce q9 S9 H locs hp hW h1 h2 h3 => hp.elim) (fun r_510 S_511 H locs hp hW => ?_)
        obtain ⟨hX_S_511, hp⟩ := hp
        refine W.widen (k := _ + 2) (n := _ + 12) (Nat.le_refl _) (Nat.le_refl _) ?_
        replace hbc := w_spend hbc (show 2 ≤ bc by omega)
        replace hbs := w_spend hbs (show 12 ≤ bs by omega)
        have hE := hE.trans hX_S_511
        have hK_a0 : sK S_511 a0 = 21 := (hX_S_511.2 a0 hL_a0).1.trans hK_a0
        have hL_a0 : wM D S_511 a0 := hX_S_511.M hL_a0
        have hK_a1 : sK S_511 a1 = 16 := (hX_S_511.2 a1 hL_a1).1.trans hK_a1
        have hL_a1 : wM D S_511 a1 := hX_S_511.M hL_a1
        have hK_a2 : sK S_511 a2 = 17 := (hX_S_511.2 a2 hL_a2).1.trans hK_a2
        have hL_a2 : wM D S_511 a2 := hX_S_511.M hL_a2
        have hK_a3 : sK S_511 a3 = 22 := (hX_S_511.2 a3 hL_a3).1.trans hK_a3
        have hL_a3 : wM D S_511 a3 := hX_S_511.M hL_a3
        have hK_a4 : sK S_511 a4 = 25 := (hX_S_511.2 a4 hL_a4).1.trans hK_a4
        have hL_a4 : wM D S_511 a4 := hX_S_511.M hL_a4
        refine lv_istore (lv' := [(6, .int r_510), (0, .ref a0), (1, .ref a1), (2, .ref a2), (3, .ref a3), (4, .ref a4), (5, .int x5)]) hx hb dL_law_2553 hl (by decide) rfl (fun ls hl => ?_)
        refine lv_aload_n hx hb dL_law_2555 rfl (lv_at hl 3 rfl) ?_
        refine lv_aload_n hx hb dL_law_2556 rfl (lv_at hl 1 rfl) ?_
        refine lv_iload hx hb dL_law_2557 (lv_at hl 6 rfl) ?_
        refine lv_iconst (v := 1) hx hb dL_law_2559 (by decide) ?_
        refine lv_iadd hx hb dL_law_2560 ?_
        obtain ⟨h_513, hp⟩ := hp
        refine w_ild F hK hW hL_a0 hK_a0 h_513 dL_law_2561 ?_
        refine lv_aload_n hx hb dL_law_2562 rfl (lv_at hl 1 rfl) ?_
        refine lv_iload hx hb dL_law_2563 (lv_at hl 6 rfl) ?_
        refine lv_iconst (v := 2) hx hb dL_law_2565 (by decide) ?_
        refine lv_iadd hx hb dL_law_2566 ?_
        obtain ⟨h_514, hp⟩ := hp
        refine w_ild F hK hW hL_a0 hK_a0 h_514 dL_law_2567 ?_
        refine w_callI (va_runV (As := [.int (sI S_511 a0 ((x5 + (1 : Int32))).toNatClampNeg), .int (sI S_511 a0 ((x5 + (2 : Int32))).toNatClampNeg)]) (rest := []) F (c_X12_playMain l hL_a2 hK_a2 hp H.size) (cwV (C := RX12) 2 hts (wg_V wm_RL_336 wy_X12_playMain) rfl rfl rfl (by decide +kernel) ⟨Nat.le_of_ble_eq_true rfl, Nat.le_of_ble_eq_true rfl⟩) (w_preV hK hW hL_a2 hK_a2 (by decide) rfl) rfl rfl hl.1 rfl (lv_room (Nat.le_of_ble_eq_true rfl)) dL_law_2568 ⟨by show _ ≤ rC; exact Nat.le_trans (Nat.le_add_right _ _) hbc, by show _ ≤ rS; exact Nat.le_trans (Nat.le_add_right _ _) hbs⟩) hW (fun r_515 S_516 H locs hp hW => ?_)
        obtain ⟨hX_S_516, hp⟩ := hp
        refine w_same ?_
        have hE := hE.trans hX_S_516
        have hK_a0 : sK S_516 a0 = 21 := (hX_S_516.2 a0 hL_a0).1.trans hK_a0
        have hL_a0 : wM D S_516 a0 := hX_S_516.M hL_a0
        have hK_a1 : sK S_516 a1 = 16 := (hX_S_516.2 a1 hL_a1).1.trans hK_a1
        have hL_a1 : wM D S_516 a1 := hX_S_516.M hL_a1
        have hK_a2 : sK S_516 a2 = 17 := (hX_S_516.2 a2 hL_a2).1.trans hK_a2
        have hL_a2 : wM D S_516 a2 := hX_S_516.M hL_a2
        have hK_a3 : sK S_516 a3 = 22 := (hX_S_516.2 a3 hL_a3).1.trans hK_a3
        have hL_a3 : wM D S_516 a3 := hX_S_516.M hL_a3
        have hK_a4 : sK S_516 a4 = 25 := (hX_S_516.2 a4 hL_a4).1.trans hK_a4
        have hL_a4 : wM D S_516 a4 := hX_S_516.M hL_a4
        refine lv_istore (lv' := [(7, .int r_515), (6, .int r_510), (0, .ref a0), (1, .ref a1), (2, .ref a2), (3, .ref a3), (4, .ref a4), (5, .int x5)]) hx hb dL_law_2571 hl (by decide) rfl (fun ls hl => ?_)
        refine lv_aload_n hx hb dL_law_2573 rfl (lv_at hl 4 rfl) ?_
        refine w_callI (va_runV (As := []) (rest := []) F (c_X12_thrown l hL_a2 hK_a2 hp H.size) (cwV (C := RX12) 0 hts (wg_V wm_RL_181 wy_X12_thrown) rfl rfl rfl (by decide +kernel) ⟨Nat.le_of_ble_eq_true rfl, Nat.le_of_ble_eq_true rfl⟩) (w_preV hK hW hL_a2 hK_a2 (by decide) rfl) rfl rfl hl.1 rfl (lv_room (Nat.le_of_ble_eq_true rfl)) dL_law_2574 ⟨by show _ ≤ rC; exact Nat.le_trans (Nat.le_add_right _ _) hbc, by show _ ≤ rS; exact Nat.le_trans (Nat.le_add_right _ _) hbs⟩) hW (fun r_517 S_518 H locs hp hW => ?_)
        obtain ⟨hX_S_518, hp⟩ := hp
        refine w_same ?_
        have hE := hE.trans hX_S_518
        have hK_a0 : sK S_518 a0 = 21 := (hX_S_518.2 a0 hL_a0).1.trans hK_a0
        have hL_a0 : wM D S_518 a0 := hX_S_518.M hL_a0
        have hK_a1 : sK S_518 a1 = 16 := (hX_S_518.2 a1 hL_a1).1.trans hK_a1
        have hL_a1 : wM D S_518 a1 := hX_S_518.M hL_a1
        have hK_a2 : sK S_518 a2 = 17 := (hX_S_518.2 a2 hL_a2).1.trans hK_a2
        have hL_a2 : wM D S_518 a2 := hX_S_518.M hL_a2
        have hK_a3 : sK S_518 a3 = 22 := (hX_S_518.2 a3 hL_a3).1.trans hK_a3
        have hL_a3 : wM D S_518 a3 := hX_S_518.M hL_a3
        have hK_a4 : sK S_518 a4 = 25 := (hX_S_518.2 a4 hL_a4).1.trans hK_a4
        have hL_a4 : wM D S_518 a4 := hX_S_518.M hL_a4
        refine lv_iload hx hb dL_law_2577 (lv_at hl 1 rfl) ?_
        refine lv_icmp_eq (tgt := 2584) hx hb dL_law_2579 (by decide) (fun c_519 => ?_) (fun c_519 => ?_)
        · replace hp := hp.1 c_519
          refine lv_iload hx hb dL_law_2584 (lv_at hl 1 rfl) ?_
          refine lv_if_ne (tgt := 2601) hx hb dL_law_2586 (by decide) (fun c_520 => ?_) (fun c_520 => ?_)
          · replace hp := hp.1 c_520
            exact t_L_law_2601 F hr hlocks hK hl0 hQ ih hbc hbs hp hW hE (lv_sub hl [2, 3, 4, 5, 6, 7] rfl) hL_a0 hK_a0 hL_a1 hK_a1 hL_a2 hK_a2 hL_a3 hK_a3 hL_a4 hK_a4
          · replace hp := hp.2 c_520
            refine lv_aload_n hx hb dL_law_2589 rfl (lv_at hl 5 rfl) ?_
            refine lv_iconst (v := 0) hx hb dL_law_2590 (by decide) ?_
            obtain ⟨h_521, hp⟩ := hp
            refine w_lld F hK hW hL_a3 hK_a3 h_521 dL_law_2591 ?_
            refine lv_iload hx hb dL_law_2592 (lv_at hl 0 rfl) ?_
            refine lv_i2l (v := (Int32.toInt64 r_515)) hx hb dL_law_2594 rfl ?_
            refine W.lcmp hx hb dL_law_2595 ?_
            refine lv_if_eq (tgt := 2601) hx hb dL_law_2596 (by decide) (fun c_522 => ?_) (fun c_522 => ?_)
            · replace hp := hp.1 c_522
              exact t_L_law_2601 F hr hlocks hK hl0 hQ ih hbc hbs hp hW hE (lv_sub hl [2, 3, 4, 5, 6, 7] rfl) hL_a0 hK_a0 hL_a1 hK_a1 hL_a2 hK_a2 hL_a3 hK_a3 hL_a4 hK_a4
            · replace hp := hp.2 c_522
              refine lv_iconst (v := 0) hx hb dL_law_2599 (by decide) ?_
              refine W.widen (k := rC) (n := rS) (Nat.le_trans (Nat.le_add_right _ _) hbc) (Nat.le_trans (Nat.le_add_right _ _) hbs) ?_
              exact hQ hp dL_law_2600 hW
        · replace hp := hp.2 c_519
          refine lv_iconst (v := 0) hx hb dL_law_2582 (by decide) ?_
          refine W.widen (k := rC) (n := rS) (Nat.le_trans (Nat.le_add_right _ _) hbc) (Nat.le_trans (Nat.le_add_right _ _) hbs) ?_
          exact hQ hp dL_law_2583 hW
      replace hp := hp.2
      by_cases c_523 : x_3 = 45
      · refine lv_tableIn (tgt := 2604) (x := x_3) (off := 2560) hx hb dL_law_44 (by rw [c_523]; decide) (by rw [c_523]; decide) (by rw [c_523]; decide) (by decide) ?_
        replace hp := hp.1 c_523
        refine lv_aload_n hx hb dL_law_2604 rfl (lv_at hl 1 rfl) ?_
        refine lv_aload_n hx hb dL_law_2605 rfl (lv_at hl 0 rfl) ?_
        refine lv_iload hx hb dL_law_2606 (lv_at hl 5 rfl) ?_
        refine lv_iconst (v := 1) hx hb dL_law_2608 (by decide) ?_
        refine lv_iadd hx hb dL_law_2609 ?_
        obtain ⟨h_524, hp⟩ := hp
        refine w_ild F hK hW hL_a0 hK_a0 h_524 dL_law_2610 ?_
        refine lv_aload_n hx hb dL_law_2611 rfl (lv_at hl 0 rfl) ?_
        refine lv_iload hx hb dL_law_2612 (lv_at hl 5 rfl) ?_
        refine lv_iconst (v := 2) hx hb dL_law_2614 (by decide) ?_
        refine lv_iadd hx hb dL_law_2615 ?_
        obtain ⟨h_525, hp⟩ := hp
        refine w_ild F hK hW hL_a0 hK_a0 h_525 dL_law_2616 ?_
        refine lv_aload_n hx hb dL_law_2617 rfl (lv_at hl 3 rfl) ?_
        obtain ⟨h_528, h_528z, hp⟩ := hp
        refine x_callI (vx_runSX (As := [.ref a1, .int (sI S a0 ((x5 + (1 : Int32))).toNatClampNeg), .int (sI S a0 ((x5 + (2 : Int32))).toNatClampNeg), .ref a3]) (rest := []) F (c_L_firstNew l hl0 hL_a1 hK_a1 hL_a3 hK_a3 hp H.size) (vx_cwSW 4 hts (wg_S wm_RL_337 wy_L_firstNew) rfl rfl rfl ⟨by decide, by decide, by decide +kernel⟩ ⟨Nat.le_of_ble_eq_true rfl, Nat.le_of_ble_eq_true rfl⟩) (w_preS hK hW) rfl rfl hl.1 rfl (lv_room (Nat.le_of_ble_eq_true rfl)) dL_law_2618 ⟨by show _ + 2 ≤ rC; omega, by show _ + 12 ≤ rS; omega⟩) hW (fun E ce q9 S9 H locs hp hW h1 h2 h3 => hp.elim) (fun r_526 S_527 H locs hp hW => ?_)
        obtain ⟨hX_S_527, hp⟩ := hp
        refine W.widen (k := _ + 2) (n := _ + 12) (Nat.le_refl _) (Nat.le_refl _) ?_
        replace hbc := w_spend hbc (show 2 ≤ bc by omega)
        replace hbs := w_spend hbs (show 12 ≤ bs by omega)
        have hE := hE.trans hX_S_527
        have hK_a0 : sK S_527 a0 = 21 := (hX_S_527.2 a0 hL_a0).1.trans hK_a0
        have hL_a0 : wM D S_527 a0 := hX_S_527.M hL_a0
        have hK_a1 : sK S_527 a1 = 16 := (hX_S_527.2 a1 hL_a1).1.trans hK_a1
        have hL_a1 : wM D S_527 a1 := hX_S_527.M hL_a1
        have hK_a2 : sK S_527 a2 = 17 := (hX_S_527.2 a2 hL_a2).1.trans hK_a2
        have hL_a2 : wM D S_527 a2 := hX_S_527.M hL_a2
        have hK_a3 : sK S_527 a3 = 22 := (hX_S_527.2 a3 hL_a3).1.trans hK_a3
        have hL_a3 : wM D S_527 a3 := hX_S_527.M hL_a3
        have hK_a4 : sK S_527 a4 = 25 := (hX_S_527.2 a4 hL_a4).1.trans hK_a4
        have hL_a4 : wM D S_527 a4 := hX_S_527.M hL_a4
        refine lv_istore (lv' := [(6, .int r_526), (0, .ref a0), (1, .ref a1), (2, .ref a2), (3, .ref a3), (4, .ref a4), (5, .int x5)]) hx hb dL_law_2621 hl (by decide) rfl (fun ls hl => ?_)
        refine lv_aload_n hx hb dL_law_2623 rfl (lv_at hl 3 rfl) ?_
        refine lv_aload_n hx hb dL_law_2624 rfl (lv_at hl 1 rfl) ?_
        refine lv_iload hx hb dL_law_2625 (lv_at hl 6 rfl) ?_
        refine lv_iconst (v := 1) hx hb dL_law_2627 (by decide) ?_
        refine lv_iadd hx hb dL_law_2628 ?_
        obtain ⟨h_529, hp⟩ := hp
        refine w_ild F hK hW hL_a0 hK_a0 h_529 dL_law_2629 ?_
        refine lv_aload_n hx hb dL_law_2630 rfl (lv_at hl 1 rfl) ?_
        refine lv_iload hx hb dL_law_2631 (lv_at hl 6 rfl) ?_
        refine lv_iconst (v := 2) hx hb dL_law_2633 (by decide) ?_
        refine lv_iadd hx hb dL_law_2634 ?_
        obtain ⟨h_530, hp⟩ := hp
        refine w_ild F hK hW hL_a0 hK_a0 h_530 dL_law_2635 ?_
        refine w_callI (va_runV (As := [.int (sI S_527 a0 ((x5 + (1 : Int32))).toNatClampNeg), .int (sI S_527 a0 ((x5 + (2 : Int32))).toNatClampNeg)]) (rest := []) F (c_X12_firstNew l hL_a2 hK_a2 hp H.size) (cwV (C := RX12) 2 hts (wg_V wm_RL_339 wy_X12_firstNew) rfl rfl rfl (by decide +kernel) ⟨Nat.le_of_ble_eq_true rfl, Nat.le_of_ble_eq_true rfl⟩) (w_preV hK hW hL_a2 hK_a2 (by decide) rfl) rfl rfl hl.1 rfl (lv_room (Nat.le_of_ble_eq_true rfl)) dL_law_2636 ⟨by show _ ≤ rC; exact Nat.le_trans (Nat.le_add_right _ _) hbc, by show _ ≤ rS; exact Nat.le_trans (Nat.le_add_right _ _) hbs⟩) hW (fun r_531 S_532 H locs hp hW => ?_)
        obtain ⟨hX_S_532, hp⟩ := hp
        refine w_same ?_
        have hE := hE.trans hX_S_532
        have hK_a0 : sK S_532 a0 = 21 := (hX_S_532.2 a0 hL_a0).1.trans hK_a0
        have hL_a0 : wM D S_532 a0 := hX_S_532.M hL_a0
        have hK_a1 : sK S_532 a1 = 16 := (hX_S_532.2 a1 hL_a1).1.trans hK_a1
        have hL_a1 : wM D S_532 a1 := hX_S_532.M hL_a1
        have hK_a2 : sK S_532 a2 = 17 := (hX_S_532.2 a2 hL_a2).1.trans hK_a2
        have hL_a2 : wM D S_532 a2 := hX_S_532.M hL_a2
        have hK_a3 : sK S_532 a3 = 22 := (hX_S_532.2 a3 hL_a3).1.trans hK_a3
        have hL_a3 : wM D S_532 a3 := hX_S_532.M hL_a3
        have hK_a4 : sK S_532 a4 = 25 := (hX_S_532.2 a4 hL_a4).1.trans hK_a4
        have hL_a4 : wM D S_532 a4 := hX_S_532.M hL_a4
        refine lv_istore (lv' := [(7, .int r_531), (6, .int r_526), (0, .ref a0), (1, .ref a1), (2, .ref a2), (3, .ref a3), (4, .ref a4), (5, .int x5)]) hx hb dL_law_2639 hl (by decide) rfl (fun ls hl => ?_)
        refine lv_aload_n hx hb dL_law_2641 rfl (lv_at hl 4 rfl) ?_
        refine w_callI (va_runV (As := []) (rest := []) F (c_X12_thrown l hL_a2 hK_a2 hp H.size) (cwV (C := RX12) 0 hts (wg_V wm_RL_181 wy_X12_thrown) rfl rfl rfl (by decide +kernel) ⟨Nat.le_of_ble_eq_true rfl, Nat.le_of_ble_eq_true rfl⟩) (w_preV hK hW hL_a2 hK_a2 (by decide) rfl) rfl rfl hl.1 rfl (lv_room (Nat.le_of_ble_eq_true rfl)) dL_law_2642 ⟨by show _ ≤ rC; exact Nat.le_trans (Nat.le_add_right _ _) hbc, by show _ ≤ rS; exact Nat.le_trans (Nat.le_add_right _ _) hbs⟩) hW (fun r_533 S_534 H locs hp hW => ?_)
        obtain ⟨hX_S_534, hp⟩ := hp
        refine w_same ?_
        have hE := hE.trans hX_S_534
        have hK_a0 : sK S_534 a0 = 21 := (hX_S_534.2 a0 hL_a0).1.trans hK_a0
        have hL_a0 : wM D S_534 a0 := hX_S_534.M hL_a0
        have hK_a1 : sK S_534 a1 = 16 := (hX_S_534.2 a1 hL_a1).1.trans hK_a1
        have hL_a1 : wM D S_534 a1 := hX_S_534.M hL_a1
        have hK_a2 : sK S_534 a2 = 17 := (hX_S_534.2 a2 hL_a2).1.trans hK_a2
        have hL_a2 : wM D S_534 a2 := hX_S_534.M hL_a2
        have hK_a3 : sK S_534 a3 = 22 := (hX_S_534.2 a3 hL_a3).1.trans hK_a3
        have hL_a3 : wM D S_534 a3 := hX_S_534.M hL_a3
        have hK_a4 : sK S_534 a4 = 25 := (hX_S_534.2 a4 hL_a4).1.trans hK_a4
        have hL_a4 : wM D S_534 a4 := hX_S_534.M hL_a4
        refine lv_iload hx hb dL_law_2645 (lv_at hl 1 rfl) ?_
        refine lv_icmp_eq (tgt := 2652) hx hb dL_law_2647 (by decide) (fun c_535 => ?_) (fun c_535 => ?_)
        · replace hp := hp.1 c_535
          refine lv_iload hx hb dL_law_2652 (lv_at hl 1 rfl) ?_
          refine lv_if_ne (tgt := 2669) hx hb dL_law_2654 (by decide) (fun c_536 => ?_) (fun c_536 => ?_)
          · replace hp := hp.1 c_536
            exact t_L_law_2669 F hr hlocks hK hl0 hQ ih hbc hbs hp hW hE (lv_sub hl [2, 3, 4, 5, 6, 7] rfl) hL_a0 hK_a0 hL_a1 hK_a1 hL_a2 hK_a2 hL_a3 hK_a3 hL_a4 hK_a4
          · replace hp := hp.2 c_536
            refine lv_aload_n hx hb dL_law_2657 rfl (lv_at hl 5 rfl) ?_
            refine lv_iconst (v := 0) hx hb dL_law_2658 (by decide) ?_
            obtain ⟨h_537, hp⟩ := hp
            refine w_lld F hK hW hL_a3 hK_a3 h_537 dL_law_2659 ?_
            refine lv_iload hx hb dL_law_2660 (lv_at hl 0 rfl) ?_
            refine lv_i2l (v := (Int32.toInt64 r_531)) hx hb dL_law_2662 rfl ?_
            refine W.lcmp hx hb dL_law_2663 ?_
            refine lv_if_eq (tgt := 2669) hx hb dL_law_2664 (by decide) (fun c_538 => ?_) (fun c_538 => ?_)
            · replace hp := hp.1 c_538
              exact t_L_law_2669 F hr hlocks hK hl0 hQ ih hbc hbs hp hW hE (lv_sub hl [2, 3, 4, 5, 6, 7] rfl) hL_a0 hK_a0 hL_a1 hK_a1 hL_a2 hK_a2 hL_a3 hK_a3 hL_a4 hK_a4
            · replace hp := hp.2 c_538
              refine lv_iconst (v := 0) hx hb dL_law_2667 (by decide) ?_
              refine W.widen (k := rC) (n := rS) (Nat.le_trans (Nat.le_add_right _ _) hbc) (Nat.le_trans (Nat.le_add_right _ _) hbs) ?_
              exact hQ hp dL_law_2668 hW
        · replace hp := hp.2 c_535
          refine lv_iconst (v := 0) hx hb dL_law_2650 (by decide) ?_
          refine W.widen (k := rC) (n := rS) (Nat.le_trans (Nat.le_add_right _ _) hbc) (Nat.le_trans (Nat.le_add_right _ _) hbs) ?_
          exact hQ hp dL_law_2651 hW
      replace hp := hp.2
      by_cases c_539 : x_3 = 46
      · refine lv_tableIn (tgt := 2672) (x := x_3) (off := 2628) hx hb dL_law_44 (by rw [c_539]; decide) (by rw [c_539]; decide) (by rw [c_539]; decide) (by decide) ?_
        replace hp := hp.1 c_539
        refine lv_aload_n hx hb dL_law_2672 rfl (lv_at hl 1 rfl) ?_
        obtain ⟨m_542, z_543, hm_542, hz_543, hp⟩ := hp
        refine w_callI (va_runV (As := []) (rest := []) F (c_X11_merge l hL_a1 hK_a1 hp H.size) (cwV (C := RX11) 0 hts (wg_V wm_RL_340 wy_X11_merge) rfl rfl rfl (by decide +kernel) ⟨Nat.le_of_ble_eq_true rfl, Nat.le_of_ble_eq_true rfl⟩) (w_preV hK hW hL_a1 hK_a1 (by decide) rfl) rfl rfl hl.1 rfl (lv_room (Nat.le_of_ble_eq_true rfl)) dL_law_2673 ⟨by show _ + m_542 ≤ rC; omega, by show _ + z_543 ≤ rS; omega⟩) hW (fun r_540 S_541 H locs hp hW => ?_)
        obtain ⟨hX_S_541, hp⟩ := hp
        refine W.widen (k := _ + m_542) (n := _ + z_543) (Nat.le_refl _) (Nat.le_refl _) ?_
        replace hbc := w_spend hbc (show m_542 ≤ bc by omega)
        replace hbs := w_spend hbs (show z_543 ≤ bs by omega)
        have hE := hE.trans hX_S_541
        have hK_a0 : sK S_541 a0 = 21 := (hX_S_541.2 a0 hL_a0).1.trans hK_a0
        have hL_a0 : wM D S_541 a0 := hX_S_541.M hL_a0
        have hK_a1 : sK S_541 a1 = 16 := (hX_S_541.2 a1 hL_a1).1.trans hK_a1
        have hL_a1 : wM D S_541 a1 := hX_S_541.M hL_a1
        have hK_a2 : sK S_541 a2 = 17 := (hX_S_541.2 a2 hL_a2).1.trans hK_a2
        have hL_a2 : wM D S_541 a2 := hX_S_541.M hL_a2
        have hK_a3 : sK S_541 a3 = 22 := (hX_S_541.2 a3 hL_a3).1.trans hK_a3
        have hL_a3 : wM D S_541 a3 := hX_S_541.M hL_a3
        have hK_a4 : sK S_541 a4 = 25 := (hX_S_541.2 a4 hL_a4).1.trans hK_a4
        have hL_a4 : wM D S_541 a4 := hX_S_541.M hL_a4
        refine lv_aload_n hx hb dL_law_2676 rfl (lv_at hl 2 rfl) ?_
        refine w_callI (va_runV (As := []) (rest := [.int r_540]) F (c_X12_merge l hL_a2 hK_a2 hp H.size) (cwV (C := RX12) 0 hts (wg_V wm_RL_343 wy_X12_merge) rfl rfl rfl (by decide +kernel) ⟨Nat.le_of_ble_eq_true rfl, Nat.le_of_ble_eq_true rfl⟩) (w_preV hK hW hL_a2 hK_a2 (by decide) rfl) rfl rfl hl.1 rfl (lv_room (Nat.le_of_ble_eq_true rfl)) dL_law_2677 ⟨by show _ ≤ rC; exact Nat.le_trans (Nat.le_add_right _ _) hbc, by show _ ≤ rS; exact Nat.le_trans (Nat.le_add_right _ _) hbs⟩) hW (fun r_544 S_545 H locs hp hW => ?_)
        obtain ⟨hX_S_545, hp⟩ := hp
        refine w_same ?_
        have hE := hE.trans hX_S_545
        have hK_a0 : sK S_545 a0 = 21 := (hX_S_545.2 a0 hL_a0).1.trans hK_a0
        have hL_a0 : wM D S_545 a0 := hX_S_545.M hL_a0
        have hK_a1 : sK S_545 a1 = 16 := (hX_S_545.2 a1 hL_a1).1.trans hK_a1
        have hL_a1 : wM D S_545 a1 := hX_S_545.M hL_a1
        have hK_a2 : sK S_545 a2 = 17 := (hX_S_545.2 a2 hL_a2).1.trans hK_a2
        have hL_a2 : wM D S_545 a2 := hX_S_545.M hL_a2
        have hK_a3 : sK S_545 a3 = 22 := (hX_S_545.2 a3 hL_a3).1.trans hK_a3
        have hL_a3 : wM D S_545 a3 := hX_S_545.M hL_a3
        have hK_a4 : sK S_545 a4 = 25 := (hX_S_545.2 a4 hL_a4).1.trans hK_a4
        have hL_a4 : wM D S_545 a4 := hX_S_545.M hL_a4
        refine lv_icmp_eq (tgt := 3394) hx hb dL_law_2680 (by decide) (fun c_546 => ?_) (fun c_546 => ?_)
        · replace hp := hp.1 c_546
          exact t_L_law_3394 F hr hlocks hK hl0 hQ ih hbc hbs hp hW hE (lv_sub hl [0, 1, 2, 3, 4, 5] rfl) hL_a0 hK_a0 hL_a1 hK_a1 hL_a2 hK_a2 hL_a3 hK_a3 hL_a4 hK_a4
        · replace hp := hp.2 c_546
          refine lv_iconst (v := 0) hx hb dL_law_2683 (by decide) ?_
          refine W.widen (k := rC) (n := rS) (Nat.le_trans (Nat.le_add_right _ _) hbc) (Nat.le_trans (Nat.le_add_right _ _) hbs) ?_
          exact hQ hp dL_law_2684 hW
      replace hp := hp.2
      by_cases c_547 : x_3 = 47
      · refine lv_tableIn (tgt := 2685) (x := x_3) (off := 2641) hx hb dL_law_44 (by rw [c_547]; decide) (by rw [c_547]; decide) (by rw [c_547]; decide) (by decide) ?_
        replace hp := hp.1 c_547
        refine lv_aload_n hx hb dL_law_2685 rfl (lv_at hl 1 rfl) ?_
        refine lv_aload_n hx hb dL_law_2686 rfl (lv_at hl 0 rfl) ?_
        refine lv_iload hx hb dL_law_2687 (lv_at hl 5 rfl) ?_
        refine lv_iconst (v := 1) hx hb dL_law_2689 (by decide) ?_
        refine lv_iadd hx hb dL_law_2690 ?_
        obtain ⟨h_548, hp⟩ := hp
        refine w_ild F hK hW hL_a0 hK_a0 h_548 dL_law_2691 ?_
        refine lv_aload_n hx hb dL_law_2692 rfl (lv_at hl 0 rfl) ?_
        refine lv_iload hx hb dL_law_2693 (lv_at hl 5 rfl) ?_
        refine lv_iconst (v := 2) hx hb dL_law_2695 (by decide) ?_
        refine lv_iadd hx hb dL_law_2696 ?_
        obtain ⟨h_549, hp⟩ := hp
        refine w_ild F hK hW hL_a0 hK_a0 h_549 dL_law_2697 ?_
        refine lv_aload_n hx hb dL_law_2698 rfl (lv_at hl 3 rfl) ?_
        obtain ⟨h_552, h_552z, hp⟩ := hp
        refine x_callI (vx_runSX (As := [.ref a1, .int (sI S a0 ((x5 + (1 : Int32))).toNatClampNeg), .int (sI S a0 ((x5 + (2 : Int32))).toNatClampNeg), .ref a3]) (rest := []) F (c_L_ask l hl0 hL_a1 hK_a1 hL_a3 hK_a3 hp H.size) (vx_cwSW 4 hts (wg_S wm_RL_344 wy_L_ask) rfl rfl rfl ⟨by decide, by decide, by decide +kernel⟩ ⟨Nat.le_of_ble_eq_true rfl, Nat.le_of_ble_eq_true rfl⟩) (w_preS hK hW) rfl rfl hl.1 rfl (lv_room (Nat.le_of_ble_eq_true rfl)) dL_law_2699 ⟨by show _ + 2 ≤ rC; omega, by show _ + 12 ≤ rS; omega⟩) hW (fun E ce q9 S9 H locs hp hW h1 h2 h3 => hp.elim) (fun r_550 S_551 H locs hp hW => ?_)
        obtain ⟨hX_S_551, hp⟩ := hp
        refine W.widen (k := _ + 2) (n := _ + 12) (Nat.le_refl _) (Nat.le_refl _) ?_
        replace hbc := w_spend hbc (show 2 ≤ bc by omega)
        replace hbs := w_spend hbs (show 12 ≤ bs by omega)
        have hE := hE.trans hX_S_551
        have hK_a0 : sK S_551 a0 = 21 := (hX_S_551.2 a0 hL_a0).1.trans hK_a0
        have hL_a0 : wM D S_551 a0 := hX_S_551.M hL_a0
        have hK_a1 : sK S_551 a1 = 16 := (hX_S_551.2 a1 hL_a1).1.trans hK_a1
        have hL_a1 : wM D S_551 a1 := hX_S_551.M hL_a1
        have hK_a2 : sK S_551 a2 = 17 := (hX_S_551.2 a2 hL_a2).1.trans hK_a2
        have hL_a2 : wM D S_551 a2 := hX_S_551.M hL_a2
        have hK_a3 : sK S_551 a3 = 22 := (hX_S_551.2 a3 hL_a3).1.trans hK_a3
        have hL_a3 : wM D S_551 a3 := hX_S_551.M hL_a3
        have hK_a4 : sK S_551 a4 = 25 := (hX_S_551.2 a4 hL_a4).1.trans hK_a4
        have hL_a4 : wM D S_551 a4 := hX_S_551.M hL_a4
        refine lv_istore (lv' := [(6, .int r_550), (0, .ref a0), (1, .ref a1), (2, .ref a2), (3, .ref a3), (4, .ref a4), (5, .int x5)]) hx hb dL_law_2702 hl (by decide) rfl (fun ls hl => ?_)
        refine lv_aload_n hx hb dL_law_2704 rfl (lv_at hl 3 rfl) ?_
        refine lv_aload_n hx hb dL_law_2705 rfl (lv_at hl 1 rfl) ?_
        refine lv_iload hx hb dL_law_2706 (lv_at hl 6 rfl) ?_
        refine lv_iconst (v := 1) hx hb dL_law_2708 (by decide) ?_
        refine lv_iadd hx hb dL_law_2709 ?_
        obtain ⟨h_553, hp⟩ := hp
        refine w_ild F hK hW hL_a0 hK_a0 h_553 dL_law_2710 ?_
        refine lv_aload_n hx hb dL_law_2711 rfl (lv_at hl 1 rfl) ?_
        refine lv_iload hx hb dL_law_2712 (lv_at hl 6 rfl) ?_
        refine lv_iconst (v := 2) hx hb dL_law_2714 (by decide) ?_
        refine lv_iadd hx hb dL_law_2715 ?_
        obtain ⟨h_554, hp⟩ := hp
        refine w_ild F hK hW hL_a0 hK_a0 h_554 dL_law_2716 ?_
        refine w_callI (va_runV (As := [.int (sI S_551 a0 ((x5 + (1 : Int32))).toNatClampNeg), .int (sI S_551 a0 ((x5 + (2 : Int32))).toNatClampNeg)]) (rest := []) F (c_X12_ask l hL_a2 hK_a2 hp H.size) (cwV (C := RX12) 2 hts (wg_V wm_RL_346 wy_X12_ask) rfl rfl rfl (by decide +kernel) ⟨Nat.le_of_ble_eq_true rfl, Nat.le_of_ble_eq_true rfl⟩) (w_preV hK hW hL_a2 hK_a2 (by decide) rfl) rfl rfl hl.1 rfl (lv_room (Nat.le_of_ble_eq_true rfl)) dL_law_2717 ⟨by show _ ≤ rC; exact Nat.le_trans (Nat.le_add_right _ _) hbc, by show _ ≤ rS; exact Nat.le_trans (Nat.le_add_right _ _) hbs⟩) hW (fun r_555 S_556 H locs hp hW => ?_)
        obtain ⟨hX_S_556, hp⟩ := hp
        refine w_same ?_
        have hE := hE.trans hX_S_556
        have hK_a0 : sK S_556 a0 = 21 := (hX_S_556.2 a0 hL_a0).1.trans hK_a0
        have hL_a0 : wM D S_556 a0 := hX_S_556.M hL_a0
        have hK_a1 : sK S_556 a1 = 16 := (hX_S_556.2 a1 hL_a1).1.trans hK_a1
        have hL_a1 : wM D S_556 a1 := hX_S_556.M hL_a1
        have hK_a2 : sK S_556 a2 = 17 := (hX_S_556.2 a2 hL_a2).1.trans hK_a2
        have hL_a2 : wM D S_556 a2 := hX_S_556.M hL_a2
        have hK_a3 : sK S_556 a3 = 22 := (hX_S_556.2 a3 hL_a3).1.trans hK_a3
        have hL_a3 : wM D S_556 a3 := hX_S_556.M hL_a3
        have hK_a4 : sK S_556 a4 = 25 := (hX_S_556.2 a4 hL_a4).1.trans hK_a4
        have hL_a4 : wM D S_556 a4 := hX_S_556.M hL_a4
        refine lv_istore (lv' := [(7, .int r_555), (6, .int r_550), (0, .ref a0), (1, .ref a1), (2, .ref a2), (3, .ref a3), (4, .ref a4), (5, .int x5)]) hx hb dL_law_2720 hl (by decide) rfl (fun ls hl => ?_)
        refine lv_aload_n hx hb dL_law_2722 rfl (lv_at hl 4 rfl) ?_
        refine w_callI (va_runV (As := []) (rest := []) F (c_X12_thrown l hL_a2 hK_a2 hp H.size) (cwV (C := RX12) 0 hts (wg_V wm_RL_181 wy_X12_thrown) rfl rfl rfl (by decide +kernel) ⟨Nat.le_of_ble_eq_true rfl, Nat.le_of_ble_eq_true rfl⟩) (w_preV hK hW hL_a2 hK_a2 (by decide) rfl) rfl rfl hl.1 rfl (lv_room (Nat.le_of_ble_eq_true rfl)) dL_law_2723 ⟨by show _ ≤ rC; exact Nat.le_trans (Nat.le_add_right _ _) hbc, by show _ ≤ rS; exact Nat.le_trans (Nat.le_add_right _ _) hbs⟩) hW (fun r_557 S_558 H locs hp hW => ?_)
        obtain ⟨hX_S_558, hp⟩ := hp
        refine w_same ?_
        have hE := hE.trans hX_S_558
        have hK_a0 : sK S_558 a0 = 21 := (hX_S_558.2 a0 hL_a0).1.trans hK_a0
        have hL_a0 : wM D S_558 a0 := hX_S_558.M hL_a0
        have hK_a1 : sK S_558 a1 = 16 := (hX_S_558.2 a1 hL_a1).1.trans hK_a1
        have hL_a1 : wM D S_558 a1 := hX_S_558.M hL_a1
        have hK_a2 : sK S_558 a2 = 17 := (hX_S_558.2 a2 hL_a2).1.trans hK_a2
        have hL_a2 : wM D S_558 a2 := hX_S_558.M hL_a2
        have hK_a3 : sK S_558 a3 = 22 := (hX_S_558.2 a3 hL_a3).1.trans hK_a3
        have hL_a3 : wM D S_558 a3 := hX_S_558.M hL_a3
        have hK_a4 : sK S_558 a4 = 25 := (hX_S_558.2 a4 hL_a4).1.trans hK_a4
        have hL_a4 : wM D S_558 a4 := hX_S_558.M hL_a4
        refine lv_iload hx hb dL_law_2726 (lv_at hl 1 rfl) ?_
        refine lv_icmp_eq (tgt := 2733) hx hb dL_law_2728 (by decide) (fun c_559 => ?_) (fun c_559 => ?_)
        · replace hp := hp.1 c_559
          refine lv_iload hx hb dL_law_2733 (lv_at hl 1 rfl) ?_
          refine lv_if_ne (tgt := 2750) hx hb dL_law_2735 (by decide) (fun c_560 => ?_) (fun c_560 => ?_)
          · replace hp := hp.1 c_560
            exact t_L_law_2750 F hr hlocks hK hl0 hQ ih hbc hbs hp hW hE (lv_sub hl [2, 3, 4, 5, 6, 7] rfl) hL_a0 hK_a0 hL_a1 hK_a1 hL_a2 hK_a2 hL_a3 hK_a3 hL_a4 hK_a4
          · replace hp := hp.2 c_560
            refine lv_aload_n hx hb dL_law_2738 rfl (lv_at hl 5 rfl) ?_
            refine lv_iconst (v := 0) hx hb dL_law_2739 (by decide) ?_
            obtain ⟨h_561, hp⟩ := hp
            refine w_lld F hK hW hL_a3 hK_a3 h_561 dL_law_2740 ?_
            refine lv_iload hx hb dL_law_2741 (lv_at hl 0 rfl) ?_
            refine lv_i2l (v := (Int32.toInt64 r_555)) hx hb dL_law_2743 rfl ?_
            refine W.lcmp hx hb dL_law_2744 ?_
            refine lv_if_eq (tgt := 2750) hx hb dL_law_2745 (by decide) (fun c_562 => ?_) (fun c_562 => ?_)
            · replace hp := hp.1 c_562
              exact t_L_law_2750 F hr hlocks hK hl0 hQ ih hbc hbs hp hW hE (lv_sub hl [2, 3, 4, 5, 6, 7] rfl) hL_a0 hK_a0 hL_a1 hK_a1 hL_a2 hK_a2 hL_a3 hK_a3 hL_a4 hK_a4
            · replace hp := hp.2 c_562
              refine lv_iconst (v := 0) hx hb dL_law_2748 (by decide) ?_
              refine W.widen (k := rC) (n := rS) (Nat.le_trans (Nat.le_add_right _ _) hbc) (Nat.le_trans (Nat.le_add_right _ _) hbs) ?_
              exact hQ hp dL_law_2749 hW
        · replace hp := hp.2 c_559
          refine lv_iconst (v := 0) hx hb dL_law_2731 (by decide) ?_
          refine W.widen (k := rC) (n := rS) (Nat.le_trans (Nat.le_add_right _ _) hbc) (Nat.le_trans (Nat.le_add_right _ _) hbs) ?_
          exact hQ hp dL_law_2732 hW
      replace hp := hp.2
      by_cases c_563 : x_3 = 48
      · refine lv_tableIn (tgt := 2753) (x := x_3) (off := 2709) hx hb dL_law_44 (by rw [c_563]; decide) (by rw [c_563]; decide) (by rw [c_563]; decide) (by decide) ?_
        replace hp := hp.1 c_563
        refine lv_aload_n hx hb dL_law_2753 rfl (lv_at hl 1 rfl) ?_
        refine w_callI (va_runV (As := []) (rest := []) F (c_X11_holds l hL_a1 hK_a1 hp H.size) (cwV (C := RX11) 0 hts (wg_V wm_RL_347 wy_X11_holds) rfl rfl rfl (by decide +kernel) ⟨Nat.le_of_ble_eq_true rfl, Nat.le_of_ble_eq_true rfl⟩) (w_preV hK hW hL_a1 hK_a1 (by decide) rfl) rfl rfl hl.1 rfl (lv_room (Nat.le_of_ble_eq_true rfl)) dL_law_2754 ⟨by show _ ≤ rC; exact Nat.le_trans (Nat.le_add_right _ _) hbc, by show _ ≤ rS; exact Nat.le_trans (Nat.le_add_right _ _) hbs⟩) hW (fun r_564 S_565 H locs hp hW => ?_)
        obtain ⟨hX_S_565, hp⟩ := hp
        refine w_same ?_
        have hE := hE.trans hX_S_565
        have hK_a0 : sK S_565 a0 = 21 := (hX_S_565.2 a0 hL_a0).1.trans hK_a0
        have hL_a0 : wM D S_565 a0 := hX_S_565.M hL_a0
        have hK_a1 : sK S_565 a1 = 16 := (hX_S_565.2 a1 hL_a1).1.trans hK_a1
        have hL_a1 : wM D S_565 a1 := hX_S_565.M hL_a1
        have hK_a2 : sK S_565 a2 = 17 := (hX_S_565.2 a2 hL_a2).1.trans hK_a2
        have hL_a2 : wM D S_565 a2 := hX_S_565.M hL_a2
        have hK_a3 : sK S_565 a3 = 22 := (hX_S_565.2 a3 hL_a3).1.trans hK_a3
        have hL_a3 : wM D S_565 a3 := hX_S_565.M hL_a3
        have hK_a4 : sK S_565 a4 = 25 := (hX_S_565.2 a4 hL_a4).1.trans hK_a4
        have hL_a4 : wM D S_565 a4 := hX_S_565.M hL_a4
        refine lv_aload_n hx hb dL_law_2757 rfl (lv_at hl 2 rfl) ?_
        refine w_callI (va_runV (As := []) (rest := [.int r_564]) F (c_X12_holds l hL_a2 hK_a2 hp H.size) (cwV (C := RX12) 0 hts (wg_V wm_RL_350 wy_X12_holds) rfl rfl rfl (by decide +kernel) ⟨Nat.le_of_ble_eq_true rfl, Nat.le_of_ble_eq_true rfl⟩) (w_preV hK hW hL_a2 hK_a2 (by decide) rfl) rfl rfl hl.1 rfl (lv_room (Nat.le_of_ble_eq_true rfl)) dL_law_2758 ⟨by show _ ≤ rC; exact Nat.le_trans (Nat.le_add_right _ _) hbc, by show _ ≤ rS; exact Nat.le_trans (Nat.le_add_right _ _) hbs⟩) hW (fun r_566 S_567 H locs hp hW => ?_)
        obtain ⟨hX_S_567, hp⟩ := hp
        refine w_same ?_
        have hE := hE.trans hX_S_567
        have hK_a0 : sK S_567 a0 = 21 := (hX_S_567.2 a0 hL_a0).1.trans hK_a0
        have hL_a0 : wM D S_567 a0 := hX_S_567.M hL_a0
        have hK_a1 : sK S_567 a1 = 16 := (hX_S_567.2 a1 hL_a1).1.trans hK_a1
        have hL_a1 : wM D S_567 a1 := hX_S_567.M hL_a1
        have hK_a2 : sK S_567 a2 = 17 := (hX_S_567.2 a2 hL_a2).1.trans hK_a2
        have hL_a2 : wM D S_567 a2 := hX_S_567.M hL_a2
        have hK_a3 : sK S_567 a3 = 22 := (hX_S_567.2 a3 hL_a3).1.trans hK_a3
        have hL_a3 : wM D S_567 a3 := hX_S_567.M hL_a3
        have hK_a4 : sK S_567 a4 = 25 := (hX_S_567.2 a4 hL_a4).1.trans hK_a4
        have hL_a4 : wM D S_567 a4 := hX_S_567.M hL_a4
        refine lv_icmp_eq (tgt := 3394) hx hb dL_law_2761 (by decide) (fun c_568 => ?_) (fun c_568 => ?_)
        · replace hp := hp.1 c_568
          exact t_L_law_3394 F hr hlocks hK hl0 hQ ih hbc hbs hp hW hE (lv_sub hl [0, 1, 2, 3, 4, 5] rfl) hL_a0 hK_a0 hL_a1 hK_a1 hL_a2 hK_a2 hL_a3 hK_a3 hL_a4 hK_a4
        · replace hp := hp.2 c_568
          refine lv_iconst (v := 0) hx hb dL_law_2764 (by decide) ?_
          refine W.widen (k := rC) (n := rS) (Nat.le_trans (Nat.le_add_right _ _) hbc) (Nat.le_trans (Nat.le_add_right _ _) hbs) ?_
          exact hQ hp dL_law_2765 hW
      replace hp := hp.2
      by_cases c_569 : x_3 = 49
      · refine lv_tableIn (tgt := 2766) (x := x_3) (off := 2722) hx hb dL_law_44 (by rw [c_569]; decide) (by rw [c_569]; decide) (by rw [c_569]; decide) (by decide) ?_
        replace hp := hp.1 c_569
        refine lv_aload_n hx hb dL_law_2766 rfl (lv_at hl 1 rfl) ?_
        refine lv_aload_n hx hb dL_law_2767 rfl (lv_at hl 0 rfl) ?_
        refine lv_iload hx hb dL_law_2768 (lv_at hl 5 rfl) ?_
        refine lv_iconst (v := 1) hx hb dL_law_2770 (by decide) ?_
        refine lv_iadd hx hb dL_law_2771 ?_
        obtain ⟨h_570, hp⟩ := hp
        refine w_ild F hK hW hL_a0 hK_a0 h_570 dL_law_2772 ?_
        refine lv_aload_n hx hb dL_law_2773 rfl (lv_at hl 3 rfl) ?_
        obtain ⟨h_573, h_573z, hp⟩ := hp
        refine x_callI (vx_runSX (As := [.ref a1, .int (sI S a0 ((x5 + (1 : Int32))).toNatClampNeg), .ref a3]) (rest := []) F (c_L_patternCount l hl0 hL_a1 hK_a1 hL_a3 hK_a3 hp H.size) (vx_cwSW 3 hts (wg_S wm_RL_351 wy_L_patternCount) rfl rfl rfl ⟨by decide, by decide, by decide +kernel⟩ ⟨Nat.le_of_ble_eq_true rfl, Nat.le_of_ble_eq_true rfl⟩) (w_preS hK hW) rfl rfl hl.1 rfl (lv_room (Nat.le_of_ble_eq_true rfl)) dL_law_2774 ⟨by show _ + 1 ≤ rC; omega, by show _ + 6 ≤ rS; omega⟩) hW (fun E ce q9 S9 H locs hp hW h1 h2 h3 => hp.elim) (fun r_571 S_572 H locs hp hW => ?_)
        obtain ⟨hX_S_572, hp⟩ := hp
        refine W.widen (k := _ + 1) (n := _ + 6) (Nat.le_refl _) (Nat.le_refl _) ?_
        replace hbc := w_spend hbc (show 1 ≤ bc by omega)
        replace hbs := w_spend hbs (show 6 ≤ bs by omega)
        have hE := hE.trans hX_S_572
        have hK_a0 : sK S_572 a0 = 21 := (hX_S_572.2 a0 hL_a0).1.trans hK_a0
        have hL_a0 : wM D S_572 a0 := hX_S_572.M hL_a0
        have hK_a1 : sK S_572 a1 = 16 := (hX_S_572.2 a1 hL_a1).1.trans hK_a1
        have hL_a1 : wM D S_572 a1 := hX_S_572.M hL_a1
        have hK_a2 : sK S_572 a2 = 17 := (hX_S_572.2 a2 hL_a2).1.trans hK_a2
        have hL_a2 : wM D S_572 a2 := hX_S_572.M hL_a2
        have hK_a3 : sK S_572 a3 = 22 := (hX_S_572.2 a3 hL_a3).1.trans hK_a3
        have hL_a3 : wM D S_572 a3 := hX_S_572.M hL_a3
        have hK_a4 : sK S_572 a4 = 25 := (hX_S_572.2 a4 hL_a4).1.trans hK_a4
        have hL_a4 : wM D S_572 a4 := hX_S_572.M hL_a4
        refine lv_istore (lv' := [(6, .int r_571), (0, .ref a0), (1, .ref a1), (2, .ref a2), (3, .ref a3), (4, .ref a4), (5, .int x5)]) hx hb dL_law_2777 hl (by decide) rfl (fun ls hl => ?_)
        refine lv_aload_n hx hb dL_law_2779 rfl (lv_at hl 3 rfl) ?_
        refine lv_aload_n hx hb dL_law_2780 rfl (lv_at hl 1 rfl) ?_
        refine lv_iload hx hb dL_law_2781 (lv_at hl 6 rfl) ?_
        refine lv_iconst (v := 1) hx hb dL_law_2783 (by decide) ?_
        refine lv_iadd hx hb dL_law_2784 ?_
        obtain ⟨h_574, hp⟩ := hp
        refine w_ild F hK hW hL_a0 hK_a0 h_574 dL_law_2785 ?_
        refine w_callI (va_runV (As := [.int (sI S_572 a0 ((x5 + (1 : Int32))).toNatClampNeg)]) (rest := []) F (c_X12_patternCount l hL_a2 hK_a2 hp H.size) (cwV (C := RX12) 1 hts (wg_V wm_RL_353 wy_X12_patternCount) rfl rfl rfl (by decide +kernel) ⟨Nat.le_of_ble_eq_true rfl, Nat.le_of_ble_eq_true rfl⟩) (w_preV hK hW hL_a2 hK_a2 (by decide) rfl) rfl rfl hl.1 rfl (lv_room (Nat.le_of_ble_eq_true rfl)) dL_law_2786 ⟨by show _ ≤ rC; exact Nat.le_trans (Nat.le_add_right _ _) hbc, by show _ ≤ rS; exact Nat.le_trans (Nat.le_add_right _ _) hbs⟩) hW (fun r_575 S_576 H locs hp hW => ?_)
        obtain ⟨hX_S_576, hp⟩ := hp
        refine w_same ?_
        have hE := hE.trans hX_S_576
        have hK_a0 : sK S_576 a0 = 21 := (hX_S_576.2 a0 hL_a0).1.trans hK_a0
        have hL_a0 : wM D S_576 a0 := hX_S_576.M hL_a0
        have hK_a1 : sK S_576 a1 = 16 := (hX_S_576.2 a1 hL_a1).1.trans hK_a1
        have hL_a1 : wM D S_576 a1 := hX_S_576.M hL_a1
        have hK_a2 : sK S_576 a2 = 17 := (hX_S_576.2 a2 hL_a2).1.trans hK_a2
        have hL_a2 : wM D S_576 a2 := hX_S_576.M hL_a2
        have hK_a3 : sK S_576 a3 = 22 := (hX_S_576.2 a3 hL_a3).1.trans hK_a3
        have hL_a3 : wM D S_576 a3 := hX_S_576.M hL_a3
        have hK_a4 : sK S_576 a4 = 25 := (hX_S_576.2 a4 hL_a4).1.trans hK_a4
        have hL_a4 : wM D S_576 a4 := hX_S_576.M hL_a4
        refine lv_istore (lv' := [(7, .int r_575), (6, .int r_571), (0, .ref a0), (1, .ref a1), (2, .ref a2), (3, .ref a3), (4, .ref a4), (5, .int x5)]) hx hb dL_law_2789 hl (by decide) rfl (fun ls hl => ?_)
        refine lv_aload_n hx hb dL_law_2791 rfl (lv_at hl 4 rfl) ?_
        refine w_callI (va_runV (As := []) (rest := []) F (c_X12_thrown l hL_a2 hK_a2 hp H.size) (cwV (C := RX12) 0 hts (wg_V wm_RL_181 wy_X12_thrown) rfl rfl rfl (by decide +kernel) ⟨Nat.le_of_ble_eq_true rfl, Nat.le_of_ble_eq_true rfl⟩) (w_preV hK hW hL_a2 hK_a2 (by decide) rfl) rfl rfl hl.1 rfl (lv_room (Nat.le_of_ble_eq_true rfl)) dL_law_2792 ⟨by show _ ≤ rC; exact Nat.le_trans (Nat.le_add_right _ _) hbc, by show _ ≤ rS; exact Nat.le_trans (Nat.le_add_right _ _) hbs⟩) hW (fun r_577 S_578 H locs hp hW => ?_)
        obtain ⟨hX_S_578, hp⟩ := hp
        refine w_same ?_
        have hE := hE.trans hX_S_578
        have hK_a0 : sK S_578 a0 = 21 := (hX_S_578.2 a0 hL_a0).1.trans hK_a0
        have hL_a0 : wM D S_578 a0 := hX_S_578.M hL_a0
        have hK_a1 : sK S_578 a1 = 16 := (hX_S_578.2 a1 hL_a1).1.trans hK_a1
        have hL_a1 : wM D S_578 a1 := hX_S_578.M hL_a1
        have hK_a2 : sK S_578 a2 = 17 := (hX_S_578.2 a2 hL_a2).1.trans hK_a2
        have hL_a2 : wM D S_578 a2 := hX_S_578.M hL_a2
        have hK_a3 : sK S_578 a3 = 22 := (hX_S_578.2 a3 hL_a3).1.trans hK_a3
        have hL_a3 : wM D S_578 a3 := hX_S_578.M hL_a3
        have hK_a4 : sK S_578 a4 = 25 := (hX_S_578.2 a4 hL_a4).1.trans hK_a4
        have hL_a4 : wM D S_578 a4 := hX_S_578.M hL_a4
        refine lv_iload hx hb dL_law_2795 (lv_at hl 1 rfl) ?_
        refine lv_icmp_eq (tgt := 2802) hx hb dL_law_2797 (by decide) (fun c_579 => ?_) (fun c_579 => ?_)
        · replace hp := hp.1 c_579
          refine lv_iload hx hb dL_law_2802 (lv_at hl 1 rfl) ?_
          refine lv_if_ne (tgt := 2819) hx hb dL_law_2804 (by decide) (fun c_580 => ?_) (fun c_580 => ?_)
          · replace hp := hp.1 c_580
            exact t_L_law_2819 F hr hlocks hK hl0 hQ ih hbc hbs hp hW hE (lv_sub hl [2, 3, 4, 5, 6, 7] rfl) hL_a0 hK_a0 hL_a1 hK_a1 hL_a2 hK_a2 hL_a3 hK_a3 hL_a4 hK_a4
          · replace hp := hp.2 c_580
            refine lv_aload_n hx hb dL_law_2807 rfl (lv_at hl 5 rfl) ?_
            refine lv_iconst (v := 0) hx hb dL_law_2808 (by decide) ?_
            obtain ⟨h_581, hp⟩ := hp
            refine w_lld F hK hW hL_a3 hK_a3 h_581 dL_law_2809 ?_
            refine lv_iload hx hb dL_law_2810 (lv_at hl 0 rfl) ?_
            refine lv_i2l (v := (Int32.toInt64 r_575)) hx hb dL_law_2812 rfl ?_
            refine W.lcmp hx hb dL_law_2813 ?_
            refine lv_if_eq (tgt := 2819) hx hb dL_law_2814 (by decide) (fun c_582 => ?_) (fun c_582 => ?_)
            · replace hp := hp.1 c_582
              exact t_L_law_2819 F hr hlocks hK hl0 hQ ih hbc hbs hp hW hE (lv_sub hl [2, 3, 4, 5, 6, 7] rfl) hL_a0 hK_a0 hL_a1 hK_a1 hL_a2 hK_a2 hL_a3 hK_a3 hL_a4 hK_a4
            · replace hp := hp.2 c_582
              refine lv_iconst (v := 0) hx hb dL_law_2817 (by decide) ?_
              refine W.widen (k := rC) (n := rS) (Nat.le_trans (Nat.le_add_right _ _) hbc) (Nat.le_trans (Nat.le_add_right _ _) hbs) ?_
              exact hQ hp dL_law_2818 hW
        · replace hp := hp.2 c_579
          refine lv_iconst (v := 0) hx hb dL_law_2800 (by decide) ?_
          refine W.widen (k := rC) (n := rS) (Nat.le_trans (Nat.le_add_right _ _) hbc) (Nat.le_trans (Nat.le_add_right _ _) hbs) ?_
          exact hQ hp dL_law_2801 hW
      replace hp := hp.2
      by_cases c_583 : x_3 = 50
      · refine lv_tableIn (tgt := 2822) (x := x_3) (off := 2778) hx hb dL_law_44 (by rw [c_583]; decide) (by rw [c_583]; decide) (by rw [c_583]; decide) (by decide) ?_
        replace hp := hp.1 c_583
        refine lv_aload_n hx hb dL_law_2822 rfl (lv_at hl 1 rfl) ?_
        refine lv_aload_n hx hb dL_law_2823 rfl (lv_at hl 3 rfl) ?_
        obtain ⟨h_586, h_586z, hp⟩ := hp
        refine x_callI (vx_runSX (As := [.ref a1, .ref a3]) (rest := []) F (c_L_forcesMate l hl0 hL_a1 hK_a1 hL_a3 hK_a3 hp H.size) (vx_cwSW 2 hts (wg_S wm_RL_354 wy_L_forcesMate) rfl rfl rfl ⟨by decide, by decide, by decide +kernel⟩ ⟨Nat.le_of_ble_eq_true rfl, Nat.le_of_ble_eq_true rfl⟩) (w_preS hK hW) rfl rfl hl.1 rfl (lv_room (Nat.le_of_ble_eq_true rfl)) dL_law_2824 ⟨by show _ + 1 ≤ rC; omega, by show _ + 6 ≤ rS; omega⟩) hW (fun E ce q9 S9 H locs hp hW h1 h2 h3 => hp.elim) (fun r_584 S_585 H locs hp hW => ?_)
        obtain ⟨hX_S_585, hp⟩ := hp
        refine W.widen (k := _ + 1) (n := _ + 6) (Nat.le_refl _) (Nat.le_refl _) ?_
        replace hbc := w_spend hbc (show 1 ≤ bc by omega)
        replace hbs := w_spend hbs (show 6 ≤ bs by omega)
        have hE := hE.trans hX_S_585
        have hK_a0 : sK S_585 a0 = 21 := (hX_S_585.2 a0 hL_a0).1.trans hK_a0
        have hL_a0 : wM D S_585 a0 := hX_S_585.M hL_a0
        have hK_a1 : sK S_585 a1 = 16 := (hX_S_585.2 a1 hL_a1).1.trans hK_a1
        have hL_a1 : wM D S_585 a1 := hX_S_585.M hL_a1
        have hK_a2 : sK S_585 a2 = 17 := (hX_S_585.2 a2 hL_a2).1.trans hK_a2
        have hL_a2 : wM D S_585 a2 := hX_S_585.M hL_a2
        have hK_a3 : sK S_585 a3 = 22 := (hX_S_585.2 a3 hL_a3).1.trans hK_a3
        have hL_a3 : wM D S_585 a3 := hX_S_585.M hL_a3
        have hK_a4 : sK S_585 a4 = 25 := (hX_S_585.2 a4 hL_a4).1.trans hK_a4
        have hL_a4 : wM D S_585 a4 := hX_S_585.M hL_a4
        refine lv_istore (lv' := [(6, .int r_584), (0, .ref a0), (1, .ref a1), (2, .ref a2), (3, .ref a3), (4, .ref a4), (5, .int x5)]) hx hb dL_law_2827 hl (by decide) rfl (fun ls hl => ?_)
        refine lv_aload_n hx hb dL_law_2829 rfl (lv_at hl 3 rfl) ?_
        refine w_callI (va_runV (As := []) (rest := []) F (c_X12_forcesMate l hL_a2 hK_a2 hp H.size) (cwV (C := RX12) 0 hts (wg_V wm_RL_356 wy_X12_forcesMate) rfl rfl rfl (by decide +kernel) ⟨Nat.le_of_ble_eq_true rfl, Nat.le_of_ble_eq_true rfl⟩) (w_preV hK hW hL_a2 hK_a2 (by decide) rfl) rfl rfl hl.1 rfl (lv_room (Nat.le_of_ble_eq_true rfl)) dL_law_2830 ⟨by show _ ≤ rC; exact Nat.le_trans (Nat.le_add_right _ _) hbc, by show _ ≤ rS; exact Nat.le_trans (Nat.le_add_right _ _) hbs⟩) hW (fun r_587 S_588 H locs hp hW => ?_)
        obtain ⟨hX_S_588, hp⟩ := hp
        refine w_same ?_
        have hE := hE.trans hX_S_588
        have hK_a0 : sK S_588 a0 = 21 := (hX_S_588.2 a0 hL_a0).1.trans hK_a0
        have hL_a0 : wM D S_588 a0 := hX_S_588.M hL_a0
        have hK_a1 : sK S_588 a1 = 16 := (hX_S_588.2 a1 hL_a1).1.trans hK_a1
        have hL_a1 : wM D S_588 a1 := hX_S_588.M hL_a1
        have hK_a2 : sK S_588 a2 = 17 := (hX_S_588.2 a2 hL_a2).1.trans hK_a2
        have hL_a2 : wM D S_588 a2 := hX_S_588.M hL_a2
        have hK_a3 : sK S_588 a3 = 22 := (hX_S_588.2 a3 hL_a3).1.trans hK_a3
        have hL_a3 : wM D S_588 a3 := hX_S_588.M hL_a3
        have hK_a4 : sK S_588 a4 = 25 := (hX_S_588.2 a4 hL_a4).1.trans hK_a4
        have hL_a4 : wM D S_588 a4 := hX_S_588.M hL_a4
        refine lv_istore (lv' := [(7, .int r_587), (6, .int r_584), (0, .ref a0), (1, .ref a1), (2, .ref a2), (3, .ref a3), (4, .ref a4), (5, .int x5)]) hx hb dL_law_2833 hl (by decide) rfl (fun ls hl => ?_)
        refine lv_aload_n hx hb dL_law_2835 rfl (lv_at hl 4 rfl) ?_
        refine w_callI (va_runV (As := []) (rest := []) F (c_X12_thrown l hL_a2 hK_a2 hp H.size) (cwV (C := RX12) 0 hts (wg_V wm_RL_181 wy_X12_thrown) rfl rfl rfl (by decide +kernel) ⟨Nat.le_of_ble_eq_true rfl, Nat.le_of_ble_eq_true rfl⟩) (w_preV hK hW hL_a2 hK_a2 (by decide) rfl) rfl rfl hl.1 rfl (lv_room (Nat.le_of_ble_eq_true rfl)) dL_law_2836 ⟨by show _ ≤ rC; exact Nat.le_trans (Nat.le_add_right _ _) hbc, by show _ ≤ rS; exact Nat.le_trans (Nat.le_add_right _ _) hbs⟩) hW (fun r_589 S_590 H locs hp hW => ?_)
        obtain ⟨hX_S_590, hp⟩ := hp
        refine w_same ?_
        have hE := hE.trans hX_S_590
        have hK_a0 : sK S_590 a0 = 21 := (hX_S_590.2 a0 hL_a0).1.trans hK_a0
        have hL_a0 : wM D S_590 a0 := hX_S_590.M hL_a0
        have hK_a1 : sK S_590 a1 = 16 := (hX_S_590.2 a1 hL_a1).1.trans hK_a1
        have hL_a1 : wM D S_590 a1 := hX_S_590.M hL_a1
        have hK_a2 : sK S_590 a2 = 17 := (hX_S_590.2 a2 hL_a2).1.trans hK_a2
        have hL_a2 : wM D S_590 a2 := hX_S_590.M hL_a2
        have hK_a3 : sK S_590 a3 = 22 := (hX_S_590.2 a3 hL_a3).1.trans hK_a3
        have hL_a3 : wM D S_590 a3 := hX_S_590.M hL_a3
        have hK_a4 : sK S_590 a4 = 25 := (hX_S_590.2 a4 hL_a4).1.trans hK_a4
        have hL_a4 : wM D S_590 a4 := hX_S_590.M hL_a4
        refine lv_iload hx hb dL_law_2839 (lv_at hl 1 rfl) ?_
        refine lv_icmp_eq (tgt := 2846) hx hb dL_law_2841 (by decide) (fun c_591 => ?_) (fun c_591 => ?_)
        · replace hp := hp.1 c_591
          refine lv_iload hx hb dL_law_2846 (lv_at hl 1 rfl) ?_
          refine lv_if_ne (tgt := 2863) hx hb dL_law_2848 (by decide) (fun c_592 => ?_) (fun c_592 => ?_)
          · replace hp := hp.1 c_592
            exact t_L_law_2863 F hr hlocks hK hl0 hQ ih hbc hbs hp hW hE (lv_sub hl [2, 3, 4, 5, 6, 7] rfl) hL_a0 hK_a0 hL_a1 hK_a1 hL_a2 hK_a2 hL_a3 hK_a3 hL_a4 hK_a4
          · replace hp := hp.2 c_592
            refine lv_aload_n hx hb dL_law_2851 rfl (lv_at hl 5 rfl) ?_
            refine lv_iconst (v := 0) hx hb dL_law_2852 (by decide) ?_
            obtain ⟨h_593, hp⟩ := hp
            refine w_lld F hK hW hL_a3 hK_a3 h_593 dL_law_2853 ?_
            refine lv_iload hx hb dL_law_2854 (lv_at hl 0 rfl) ?_
            refine lv_i2l (v := (Int32.toInt64 r_587)) hx hb dL_law_2856 rfl ?_
            refine W.lcmp hx hb dL_law_2857 ?_
            refine lv_if_eq (tgt := 2863) hx hb dL_law_2858 (by decide) (fun c_594 => ?_) (fun c_594 => ?_)
            · replace hp := hp.1 c_594
              exact t_L_law_2863 F hr hlocks hK hl0 hQ ih hbc hbs hp hW hE (lv_sub hl [2, 3, 4, 5, 6, 7] rfl) hL_a0 hK_a0 hL_a1 hK_a1 hL_a2 hK_a2 hL_a3 hK_a3 hL_a4 hK_a4
            · replace hp := hp.2 c_594
              refine lv_iconst (v := 0) hx hb dL_law_2861 (by decide) ?_
              refine W.widen (k := rC) (n := rS) (Nat.le_trans (Nat.le_add_right _ _) hbc) (Nat.le_trans (Nat.le_add_right _ _) hbs) ?_
              exact hQ hp dL_law_2862 hW
        · replace hp := hp.2 c_591
          refine lv_iconst (v := 0) hx hb dL_law_2844 (by decide) ?_
          refine W.widen (k := rC) (n := rS) (Nat.le_trans (Nat.le_add_right _ _) hbc) (Nat.le_trans (Nat.le_add_right _ _) hbs) ?_
          exact hQ hp dL_law_2845 hW
      replace hp := hp.2
      by_cases c_595 : x_3 = 51
      · refine lv_tableIn (tgt := 2866) (x := x_3) (off := 2822) hx hb dL_law_44 (by rw [c_595]; decide) (by rw [c_595]; decide) (by rw [c_595]; decide) (by decide) ?_
        replace hp := hp.1 c_595
        refine lv_aload_n hx hb dL_law_2866 rfl (lv_at hl 1 rfl) ?_
        refine lv_aload_n hx hb dL_law_2867 rfl (lv_at hl 3 rfl) ?_
        obtain ⟨h_598, h_598z, hp⟩ := hp
        refine x_callI (vx_runSX (As := [.ref a1, .ref a3]) (rest := []) F (c_L_keyCount l hl0 hL_a1 hK_a1 hL_a3 hK_a3 hp H.size) (vx_cwSW 2 hts (wg_S wm_RL_357 wy_L_keyCount) rfl rfl rfl ⟨by decide, by decide, by decide +kernel⟩ ⟨Nat.le_of_ble_eq_true rfl, Nat.le_of_ble_eq_true rfl⟩) (w_preS hK hW) rfl rfl hl.1 rfl (lv_room (Nat.le_of_ble_eq_true rfl)) dL_law_2868 ⟨by show _ + 1 ≤ rC; omega, by show _ + 6 ≤ rS; omega⟩) hW (fun E ce q9 S9 H locs hp hW h1 h2 h3 => hp.elim) (fun r_596 S_597 H locs hp hW => ?_)
        obtain ⟨hX_S_597, hp⟩ := hp
        refine W.widen (k := _ + 1) (n := _ + 6) (Nat.le_refl _) (Nat.le_refl _) ?_
        replace hbc := w_spend hbc (show 1 ≤ bc by omega)
        replace hbs := w_spend hbs (show 6 ≤ bs by omega)
        have hE := hE.trans hX_S_597
        have hK_a0 : sK S_597 a0 = 21 := (hX_S_597.2 a0 hL_a0).1.trans hK_a0
        have hL_a0 : wM D S_597 a0 := hX_S_597.M hL_a0
        have hK_a1 : sK S_597 a1 = 16 := (hX_S_597.2 a1 hL_a1).1.trans hK_a1
        have hL_a1 : wM D S_597 a1 := hX_S_597.M hL_a1
        have hK_a2 : sK S_597 a2 = 17 := (hX_S_597.2 a2 hL_a2).1.trans hK_a2
        have hL_a2 : wM D S_597 a2 := hX_S_597.M hL_a2
        have hK_a3 : sK S_597 a3 = 22 := (hX_S_597.2 a3 hL_a3).1.trans hK_a3
        have hL_a3 : wM D S_597 a3 := hX_S_597.M hL_a3
        have hK_a4 : sK S_597 a4 = 25 := (hX_S_597.2 a4 hL_a4).1.trans hK_a4
        have hL_a4 : wM D S_597 a4 := hX_S_597.M hL_a4
        refine lv_istore (lv' := [(6, .int r_596), (0, .ref a0), (1, .ref a1), (2, .ref a2), (3, .ref a3), (4, .ref a4), (5, .int x5)]) hx hb dL_law_2871 hl (by decide) rfl (fun ls hl => ?_)
        refine lv_aload_n hx hb dL_law_2873 rfl (lv_at hl 3 rfl) ?_
        refine w_callI (va_runV (As := []) (rest := []) F (c_X12_keyCount l hL_a2 hK_a2 hp H.size) (cwV (C := RX12) 0 hts (wg_V wm_RL_359 wy_X12_keyCount) rfl rfl rfl (by decide +kernel) ⟨Nat.le_of_ble_eq_true rfl, Nat.le_of_ble_eq_true rfl⟩) (w_preV hK hW hL_a2 hK_a2 (by decide) rfl) rfl rfl hl.1 rfl (lv_room (Nat.le_of_ble_eq_true rfl)) dL_law_2874 ⟨by show _ ≤ rC; exact Nat.le_trans (Nat.le_add_right _ _) hbc, by show _ ≤ rS; exact Nat.le_trans (Nat.le_add_right _ _) hbs⟩) hW (fun r_599 S_600 H locs hp hW => ?_)
        obtain ⟨hX_S_600, hp⟩ := hp
        refine w_same ?_
        have hE := hE.trans hX_S_600
        have hK_a0 : sK S_600 a0 = 21 := (hX_S_600.2 a0 hL_a0).1.trans hK_a0
        have hL_a0 : wM D S_600 a0 := hX_S_600.M hL_a0
        have hK_a1 : sK S_600 a1 = 16 := (hX_S_600.2 a1 hL_a1).1.trans hK_a1
        have hL_a1 : wM D S_600 a1 := hX_S_600.M hL_a1
        have hK_a2 : sK S_600 a2 = 17 := (hX_S_600.2 a2 hL_a2).1.trans hK_a2
        have hL_a2 : wM D S_600 a2 := hX_S_600.M hL_a2
        have hK_a3 : sK S_600 a3 = 22 := (hX_S_600.2 a3 hL_a3).1.trans hK_a3
        have hL_a3 : wM D S_600 a3 := hX_S_600.M hL_a3
        have hK_a4 : sK S_600 a4 = 25 := (hX_S_600.2 a4 hL_a4).1.trans hK_a4
        have hL_a4 : wM D S_600 a4 := hX_S_600.M hL_a4
        refine lv_istore (lv' := [(7, .int r_599), (6, .int r_596), (0, .ref a0), (1, .ref a1), (2, .ref a2), (3, .ref a3), (4, .ref a4), (5, .int x5)]) hx hb dL_law_2877 hl (by decide) rfl (fun ls hl => ?_)
        refine lv_aload_n hx hb dL_law_2879 rfl (lv_at hl 4 rfl) ?_
        refine w_callI (va_runV (As := []) (rest := []) F (c_X12_thrown l hL_a2 hK_a2 hp H.size) (cwV (C := RX12) 0 hts (wg_V wm_RL_181 wy_X12_thrown) rfl rfl rfl (by decide +kernel) ⟨Nat.le_of_ble_eq_true rfl, Nat.le_of_ble_eq_true rfl⟩) (w_preV hK hW hL_a2 hK_a2 (by decide) rfl) rfl rfl hl.1 rfl (lv_room (Nat.le_of_ble_eq_true rfl)) dL_law_2880 ⟨by show _ ≤ rC; exact Nat.le_trans (Nat.le_add_right _ _) hbc, by show _ ≤ rS; exact Nat.le_trans (Nat.le_add_right _ _) hbs⟩) hW (fun r_601 S_602 H locs hp hW => ?_)
        obtain ⟨hX_S_602, hp⟩ := hp
        refine w_same ?_
        have hE := hE.trans hX_S_602
        have hK_a0 : sK S_602 a0 = 21 := (hX_S_602.2 a0 hL_a0).1.trans hK_a0
        have hL_a0 : wM D S_602 a0 := hX_S_602.M hL_a0
        have hK_a1 : sK S_602 a1 = 16 := (hX_S_602.2 a1 hL_a1).1.trans hK_a1
        have hL_a1 : wM D S_602 a1 := hX_S_602.M hL_a1
        have hK_a2 : sK S_602 a2 = 17 := (hX_S_602.2 a2 hL_a2).1.trans hK_a2
        have hL_a2 : wM D S_602 a2 := hX_S_602.M hL_a2
        have hK_a3 : sK S_602 a3 = 22 := (hX_S_602.2 a3 hL_a3).1.trans hK_a3
        have hL_a3 : wM D S_602 a3 := hX_S_602.M hL_a3
        have hK_a4 : sK S_602 a4 = 25 := (hX_S_602.2 a4 hL_a4).1.trans hK_a4
        have hL_a4 : wM D S_602 a4 := hX_S_602.M hL_a4
        refine lv_iload hx hb dL_law_2883 (lv_at hl 1 rfl) ?_
        refine lv_icmp_eq (tgt := 2890) hx hb dL_law_2885 (by decide) (fun c_603 => ?_) (fun c_603 => ?_)
        · replace hp := hp.1 c_603
          refine lv_iload hx hb dL_law_2890 (lv_at hl 1 rfl) ?_
          refine lv_if_ne (tgt := 2907) hx hb dL_law_2892 (by decide) (fun c_604 => ?_) (fun c_604 => ?_)
          · replace hp := hp.1 c_604
            exact t_L_law_2907 F hr hlocks hK hl0 hQ ih hbc hbs hp hW hE (lv_sub hl [2, 3, 4, 5, 6, 7] rfl) hL_a0 hK_a0 hL_a1 hK_a1 hL_a2 hK_a2 hL_a3 hK_a3 hL_a4 hK_a4
          · replace hp := hp.2 c_604
            refine lv_aload_n hx hb dL_law_2895 rfl (lv_at hl 5 rfl) ?_
            refine lv_iconst (v := 0) hx hb dL_law_2896 (by decide) ?_
            obtain ⟨h_605, hp⟩ := hp
            refine w_lld F hK hW hL_a3 hK_a3 h_605 dL_law_2897 ?_
            refine lv_iload hx hb dL_law_2898 (lv_at hl 0 rfl) ?_
            refine lv_i2l (v := (Int32.toInt64 r_599)) hx hb dL_law_2900 rfl ?_
            refine W.lcmp hx hb dL_law_2901 ?_
            refine lv_if_eq (tgt := 2907) hx hb dL_law_2902 (by decide) (fun c_606 => ?_) (fun c_606 => ?_)
            · replace hp := hp.1 c_606
              exact t_L_law_2907 F hr hlocks hK hl0 hQ ih hbc hbs hp hW hE (lv_sub hl [2, 3, 4, 5, 6, 7] rfl) hL_a0 hK_a0 hL_a1 hK_a1 hL_a2 hK_a2 hL_a3 hK_a3 hL_a4 hK_a4
            · replace hp := hp.2 c_606
              refine lv_iconst (v := 0) hx hb dL_law_2905 (by decide) ?_
              refine W.widen (k := rC) (n := rS) (Nat.le_trans (Nat.le_add_right _ _) hbc) (Nat.le_trans (Nat.le_add_right _ _) hbs) ?_
              exact hQ hp dL_law_2906 hW
        · replace hp := hp.2 c_603
          refine lv_iconst (v := 0) hx hb dL_law_2888 (by decide) ?_
          refine W.widen (k := rC) (n := rS) (Nat.le_trans (Nat.le_add_right _ _) hbc) (Nat.le_trans (Nat.le_add_right _ _) hbs) ?_
          exact hQ hp dL_law_2889 hW
      replace hp := hp.2
      by_cases c_607 : x_3 = 52
      · refine lv_tableIn (tgt := 2910) (x := x_3) (off := 2866) hx hb dL_law_44 (by rw [c_607]; decide) (by rw [c_607]; decide) (by rw [c_607]; decide) (by decide) ?_
        replace hp := hp.1 c_607
        refine lv_aload_n hx hb dL_law_2910 rfl (lv_at hl 1 rfl) ?_
        refine lv_aload_n hx hb dL_law_2911 rfl (lv_at hl 3 rfl) ?_
        obtain ⟨h_610, h_610z, hp⟩ := hp
        refine x_callI (vx_runSX (As := [.ref a1, .ref a3]) (rest := []) F (c_L_firstKey l hl0 hL_a1 hK_a1 hL_a3 hK_a3 hp H.size) (vx_cwSW 2 hts (wg_S wm_RL_360 wy_L_firstKey) rfl rfl rfl ⟨by decide, by decide, by decide +kernel⟩ ⟨Nat.le_of_ble_eq_true rfl, Nat.le_of_ble_eq_true rfl⟩) (w_preS hK hW) rfl rfl hl.1 rfl (lv_room (Nat.le_of_ble_eq_true rfl)) dL_law_2912 ⟨by show _ + 2 ≤ rC; omega, by show _ + 12 ≤ rS; omega⟩) hW (fun E ce q9 S9 H locs hp hW h1 h2 h3 => hp.elim) (fun r_608 S_609 H locs hp hW => ?_)
        obtain ⟨hX_S_609, hp⟩ := hp
        refine W.widen (k := _ + 2) (n := _ + 12) (Nat.le_refl _) (Nat.le_refl _) ?_
        replace hbc := w_spend hbc (show 2 ≤ bc by omega)
        replace hbs := w_spend hbs (show 12 ≤ bs by omega)
        have hE := hE.trans hX_S_609
        have hK_a0 : sK S_609 a0 = 21 := (hX_S_609.2 a0 hL_a0).1.trans hK_a0
        have hL_a0 : wM D S_609 a0 := hX_S_609.M hL_a0
        have hK_a1 : sK S_609 a1 = 16 := (hX_S_609.2 a1 hL_a1).1.trans hK_a1
        have hL_a1 : wM D S_609 a1 := hX_S_609.M hL_a1
        have hK_a2 : sK S_609 a2 = 17 := (hX_S_609.2 a2 hL_a2).1.trans hK_a2
        have hL_a2 : wM D S_609 a2 := hX_S_609.M hL_a2
        have hK_a3 : sK S_609 a3 = 22 := (hX_S_609.2 a3 hL_a3).1.trans hK_a3
        have hL_a3 : wM D S_609 a3 := hX_S_609.M hL_a3
        have hK_a4 : sK S_609 a4 = 25 := (hX_S_609.2 a4 hL_a4).1.trans hK_a4
        have hL_a4 : wM D S_609 a4 := hX_S_609.M hL_a4
        refine lv_istore (lv' := [(6, .int r_608), (0, .ref a0), (1, .ref a1), (2, .ref a2), (3, .ref a3), (4, .ref a4), (5, .int x5)]) hx hb dL_law_2915 hl (by decide) rfl (fun ls hl => ?_)
        refine lv_aload_n hx hb dL_law_2917 rfl (lv_at hl 3 rfl) ?_
        refine w_callI (va_runV (As := []) (rest := []) F (c_X12_firstKey l hL_a2 hK_a2 hp H.size) (cwV (C := RX12) 0 hts (wg_V wm_RL_362 wy_X12_firstKey) rfl rfl rfl (by decide +kernel) ⟨Nat.le_of_ble_eq_true rfl, Nat.le_of_ble_eq_true rfl⟩) (w_preV hK hW hL_a2 hK_a2 (by decide) rfl) rfl rfl hl.1 rfl (lv_room (Nat.le_of_ble_eq_true rfl)) dL_law_2918 ⟨by show _ ≤ rC; exact Nat.le_trans (Nat.le_add_right _ _) hbc, by show _ ≤ rS; exact Nat.le_trans (Nat.le_add_right _ _) hbs⟩) hW (fun r_611 S_612 H locs hp hW => ?_)
        obtain ⟨hX_S_612, hp⟩ := hp
        refine w_same ?_
        have hE := hE.trans hX_S_612
        have hK_a0 : sK S_612 a0 = 21 := (hX_S_612.2 a0 hL_a0).1.trans hK_a0
        have hL_a0 : wM D S_612 a0 := hX_S_612.M hL_a0
        have hK_a1 : sK S_612 a1 = 16 := (hX_S_612.2 a1 hL_a1).1.trans hK_a1
        have hL_a1 : wM D S_612 a1 := hX_S_612.M hL_a1
        have hK_a2 : sK S_612 a2 = 17 := (hX_S_612.2 a2 hL_a2).1.trans hK_a2
        have hL_a2 : wM D S_612 a2 := hX_S_612.M hL_a2
        have hK_a3 : sK S_612 a3 = 22 := (hX_S_612.2 a3 hL_a3).1.trans hK_a3
        have hL_a3 : wM D S_612 a3 := hX_S_612.M hL_a3
        have hK_a4 : sK S_612 a4 = 25 := (hX_S_612.2 a4 hL_a4).1.trans hK_a4
        have hL_a4 : wM D S_612 a4 := hX_S_612.M hL_a4
        refine lv_istore (lv' := [(7, .int r_611), (6, .int r_608), (0, .ref a0), (1, .ref a1), (2, .ref a2), (3, .ref a3), (4, .ref a4), (5, .int x5)]) hx hb dL_law_2921 hl (by decide) rfl (fun ls hl => ?_)
        refine lv_aload_n hx hb dL_law_2923 rfl (lv_at hl 4 rfl) ?_
        refine w_callI (va_runV (As := []) (rest := []) F (c_X12_thrown l hL_a2 hK_a2 hp H.size) (cwV (C := RX12) 0 hts (wg_V wm_RL_181 wy_X12_thrown) rfl rfl rfl (by decide +kernel) ⟨Nat.le_of_ble_eq_true rfl, Nat.le_of_ble_eq_true rfl⟩) (w_preV hK hW hL_a2 hK_a2 (by decide) rfl) rfl rfl hl.1 rfl (lv_room (Nat.le_of_ble_eq_true rfl)) dL_law_2924 ⟨by show _ ≤ rC; exact Nat.le_trans (Nat.le_add_right _ _) hbc, by show _ ≤ rS; exact Nat.le_trans (Nat.le_add_right _ _) hbs⟩) hW (fun r_613 S_614 H locs hp hW => ?_)
        obtain ⟨hX_S_614, hp⟩ := hp
        refine w_same ?_
        have hE := hE.trans hX_S_614
        have hK_a0 : sK S_614 a0 = 21 := (hX_S_614.2 a0 hL_a0).1.trans hK_a0
        have hL_a0 : wM D S_614 a0 := hX_S_614.M hL_a0
        have hK_a1 : sK S_614 a1 = 16 := (hX_S_614.2 a1 hL_a1).1.trans hK_a1
        have hL_a1 : wM D S_614 a1 := hX_S_614.M hL_a1
        have hK_a2 : sK S_614 a2 = 17 := (hX_S_614.2 a2 hL_a2).1.trans hK_a2
        have hL_a2 : wM D S_614 a2 := hX_S_614.M hL_a2
        have hK_a3 : sK S_614 a3 = 22 := (hX_S_614.2 a3 hL_a3).1.trans hK_a3
        have hL_a3 : wM D S_614 a3 := hX_S_614.M hL_a3
        have hK_a4 : sK S_614 a4 = 25 := (hX_S_614.2 a4 hL_a4).1.trans hK_a4
        have hL_a4 : wM D S_614 a4 := hX_S_614.M hL_a4
        refine lv_iload hx hb dL_law_2927 (lv_at hl 1 rfl) ?_
        refine lv_icmp_eq (tgt := 2934) hx hb dL_law_2929 (by decide) (fun c_615 => ?_) (fun c_615 => ?_)
        · replace hp := hp.1 c_615
          refine lv_iload hx hb dL_law_2934 (lv_at hl 1 rfl) ?_
          refine lv_if_ne (tgt := 2951) hx hb dL_law_2936 (by decide) (fun c_616 => ?_) (fun c_616 => ?_)
          · replace hp := hp.1 c_616
            exact t_L_law_2951 F hr hlocks hK hl0 hQ ih hbc hbs hp hW hE (lv_sub hl [2, 3, 4, 5, 6, 7] rfl) hL_a0 hK_a0 hL_a1 hK_a1 hL_a2 hK_a2 hL_a3 hK_a3 hL_a4 hK_a4
          · replace hp := hp.2 c_616
            refine lv_aload_n hx hb dL_law_2939 rfl (lv_at hl 5 rfl) ?_
            refine lv_iconst (v := 0) hx hb dL_law_2940 (by decide) ?_
            obtain ⟨h_617, hp⟩ := hp
            refine w_lld F hK hW hL_a3 hK_a3 h_617 dL_law_2941 ?_
            refine lv_iload hx hb dL_law_2942 (lv_at hl 0 rfl) ?_
            refine lv_i2l (v := (Int32.toInt64 r_611)) hx hb dL_law_2944 rfl ?_
            refine W.lcmp hx hb dL_law_2945 ?_
            refine lv_if_eq (tgt := 2951) hx hb dL_law_2946 (by decide) (fun c_618 => ?_) (fun c_618 => ?_)
            · replace hp := hp.1 c_618
              exact t_L_law_2951 F hr hlocks hK hl0 hQ ih hbc hbs hp hW hE (lv_sub hl [2, 3, 4, 5, 6, 7] rfl) hL_a0 hK_a0 hL_a1 hK_a1 hL_a2 hK_a2 hL_a3 hK_a3 hL_a4 hK_a4
            · replace hp := hp.2 c_618
              refine lv_iconst (v := 0) hx hb dL_law_2949 (by decide) ?_
              refine W.widen (k := rC) (n := rS) (Nat.le_trans (Nat.le_add_right _ _) hbc) (Nat.le_trans (Nat.le_add_right _ _) hbs) ?_
              exact hQ hp dL_law_2950 hW
        · replace hp := hp.2 c_615
          refine lv_iconst (v := 0) hx hb dL_law_2932 (by decide) ?_
          refine W.widen (k := rC) (n := rS) (Nat.le_trans (Nat.le_add_right _ _) hbc) (Nat.le_trans (Nat.le_add_right _ _) hbs) ?_
          exact hQ hp dL_law_2933 hW
      replace hp := hp.2
      by_cases c_619 : x_3 = 53
      · refine lv_tableIn (tgt := 2954) (x := x_3) (off := 2910) hx hb dL_law_44 (by rw [c_619]; decide) (by rw [c_619]; decide) (by rw [c_619]; decide) (by decide) ?_
        replace hp := hp.1 c_619
        refine lv_aload_n hx hb dL_law_2954 rfl (lv_at hl 1 rfl) ?_
        refine lv_aload_n hx hb dL_law_2955 rfl (lv_at hl 0 rfl) ?_
        refine lv_iload hx hb dL_law_2956 (lv_at hl 5 rfl) ?_
        refine lv_iconst (v := 1) hx hb dL_law_2958 (by decide) ?_
        refine lv_iadd hx hb dL_law_2959 ?_
        obtain ⟨h_620, hp⟩ := hp
        refine w_ild F hK hW hL_a0 hK_a0 h_620 dL_law_2960 ?_
        refine lv_aload_n hx hb dL_law_2961 rfl (lv_at hl 3 rfl) ?_
        obtain ⟨m_623, z_624, hm_623, hz_624, hp⟩ := hp
        refine x_callI (vx_runSX (As := [.ref a1, .int (sI S a0 ((x5 + (1 : Int32))).toNatClampNeg), .ref a3]) (rest := []) F (c_L_solve l hl0 hL_a1 hK_a1 hL_a3 hK_a3 hp H.size) (vx_cwSW 3 hts (wg_S wm_RL_363 wy_L_solve) rfl rfl rfl ⟨by decide, by decide, by decide +kernel⟩ ⟨Nat.le_of_ble_eq_true rfl, Nat.le_of_ble_eq_true rfl⟩) (w_preS hK hW) rfl rfl hl.1 rfl (lv_room (Nat.le_of_ble_eq_true rfl)) dL_law_2962 ⟨by show _ + m_623 ≤ rC; omega, by show _ + z_624 ≤ rS; omega⟩) hW (fun E ce q9 S9 H locs hp hW h1 h2 h3 => hp.elim) (fun r_621 S_622 H locs hp hW => ?_)
        obtain ⟨hX_S_622, hp⟩ := hp
        refine W.widen (k := _ + m_623) (n := _ + z_624) (Nat.le_refl _) (Nat.le_refl _) ?_
        replace hbc := w_spend hbc (show m_623 ≤ bc by omega)
        replace hbs := w_spend hbs (show z_624 ≤ bs by omega)
        have hE := hE.trans hX_S_622
        have hK_a0 : sK S_622 a0 = 21 := (hX_S_622.2 a0 hL_a0).1.trans hK_a0
        have hL_a0 : wM D S_622 a0 := hX_S_622.M hL_a0
        have hK_a1 : sK S_622 a1 = 16 := (hX_S_622.2 a1 hL_a1).1.trans hK_a1
        have hL_a1 : wM D S_622 a1 := hX_S_622.M hL_a1
        have hK_a2 : sK S_622 a2 = 17 := (hX_S_622.2 a2 hL_a2).1.trans hK_a2
        have hL_a2 : wM D S_622 a2 := hX_S_622.M hL_a2
        have hK_a3 : sK S_622 a3 = 22 := (hX_S_622.2 a3 hL_a3).1.trans hK_a3
        have hL_a3 : wM D S_622 a3 := hX_S_622.M hL_a3
        have hK_a4 : sK S_622 a4 = 25 := (hX_S_622.2 a4 hL_a4).1.trans hK_a4
        have hL_a4 : wM D S_622 a4 := hX_S_622.M hL_a4
        refine lv_istore (lv' := [(6, .int r_621), (0, .ref a0), (1, .ref a1), (2, .ref a2), (3, .ref a3), (4, .ref a4), (5, .int x5)]) hx hb dL_law_2965 hl (by decide) rfl (fun ls hl => ?_)
        refine lv_aload_n hx hb dL_law_2967 rfl (lv_at hl 3 rfl) ?_
        refine lv_aload_n hx hb dL_law_2968 rfl (lv_at hl 1 rfl) ?_
        refine lv_iload hx hb dL_law_2969 (lv_at hl 6 rfl) ?_
        refine lv_iconst (v := 1) hx hb dL_law_2971 (by decide) ?_
        refine lv_iadd hx hb dL_law_2972 ?_
        obtain ⟨h_625, hp⟩ := hp
        refine w_ild F hK hW hL_a0 hK_a0 h_625 dL_law_2973 ?_
        refine w_callI (va_runV (As := [.int (sI S_622 a0 ((x5 + (1 : Int32))).toNatClampNeg)]) (rest := []) F (c_X12_solve l hL_a2 hK_a2 hp H.size) (cwV (C := RX12) 1 hts (wg_V wm_RL_365 wy_X12_solve) rfl rfl rfl (by decide +kernel) ⟨Nat.le_of_ble_eq_true rfl, Nat.le_of_ble_eq_true rfl⟩) (w_preV hK hW hL_a2 hK_a2 (by decide) rfl) rfl rfl hl.1 rfl (lv_room (Nat.le_of_ble_eq_true rfl)) dL_law_2974 ⟨by show _ ≤ rC; exact Nat.le_trans (Nat.le_add_right _ _) hbc, by show _ ≤ rS; exact Nat.le_trans (Nat.le_add_right _ _) hbs⟩) hW (fun r_626 S_627 H locs hp hW => ?_)
        obtain ⟨hX_S_627, hp⟩ := hp
        refine w_same ?_
        have hE := hE.trans hX_S_627
        have hK_a0 : sK S_627 a0 = 21 := (hX_S_627.2 a0 hL_a0).1.trans hK_a0
        have hL_a0 : wM D S_627 a0 := hX_S_627.M hL_a0
        have hK_a1 : sK S_627 a1 = 16 := (hX_S_627.2 a1 hL_a1).1.trans hK_a1
        have hL_a1 : wM D S_627 a1 := hX_S_627.M hL_a1
        have hK_a2 : sK S_627 a2 = 17 := (hX_S_627.2 a2 hL_a2).1.trans hK_a2
        have hL_a2 : wM D S_627 a2 := hX_S_627.M hL_a2
        have hK_a3 : sK S_627 a3 = 22 := (hX_S_627.2 a3 hL_a3).1.trans hK_a3
        have hL_a3 : wM D S_627 a3 := hX_S_627.M hL_a3
        have hK_a4 : sK S_627 a4 = 25 := (hX_S_627.2 a4 hL_a4).1.trans hK_a4
        have hL_a4 : wM D S_627 a4 := hX_S_627.M hL_a4
        refine lv_istore (lv' := [(7, .int r_626), (6, .int r_621), (0, .ref a0), (1, .ref a1), (2, .ref a2), (3, .ref a3), (4, .ref a4), (5, .int x5)]) hx hb dL_law_2977 hl (by decide) rfl (fun ls hl => ?_)
        refine lv_aload_n hx hb dL_law_2979 rfl (lv_at hl 4 rfl) ?_
        refine w_callI (va_runV (As := []) (rest := []) F (c_X12_thrown l hL_a2 hK_a2 hp H.size) (cwV (C := RX12) 0 hts (wg_V wm_RL_181 wy_X12_thrown) rfl rfl rfl (by decide +kernel) ⟨Nat.le_of_ble_eq_true rfl, Nat.le_of_ble_eq_true rfl⟩) (w_preV hK hW hL_a2 hK_a2 (by decide) rfl) rfl rfl hl.1 rfl (lv_room (Nat.le_of_ble_eq_true rfl)) dL_law_2980 ⟨by show _ ≤ rC; exact Nat.le_trans (Nat.le_add_right _ _) hbc, by show _ ≤ rS; exact Nat.le_trans (Nat.le_add_right _ _) hbs⟩) hW (fun r_628 S_629 H locs hp hW => ?_)
        obtain ⟨hX_S_629, hp⟩ := hp
        refine w_same ?_
        have hE := hE.trans hX_S_629
        have hK_a0 : sK S_629 a0 = 21 := (hX_S_629.2 a0 hL_a0).1.trans hK_a0
        have hL_a0 : wM D S_629 a0 := hX_S_629.M hL_a0
        have hK_a1 : sK S_629 a1 = 16 := (hX_S_629.2 a1 hL_a1).1.trans hK_a1
        have hL_a1 : wM D S_629 a1 := hX_S_629.M hL_a1
        have hK_a2 : sK S_629 a2 = 17 := (hX_S_629.2 a2 hL_a2).1.trans hK_a2
        have hL_a2 : wM D S_629 a2 := hX_S_629.M hL_a2
        have hK_a3 : sK S_629 a3 = 22 := (hX_S_629.2 a3 hL_a3).1.trans hK_a3
        have hL_a3 : wM D S_629 a3 := hX_S_629.M hL_a3
        have hK_a4 : sK S_629 a4 = 25 := (hX_S_629.2 a4 hL_a4).1.trans hK_a4
        have hL_a4 : wM D S_629 a4 := hX_S_629.M hL_a4
        refine lv_iload hx hb dL_law_2983 (lv_at hl 1 rfl) ?_
        refine lv_icmp_eq (tgt := 2990) hx hb dL_law_2985 (by decide) (fun c_630 => ?_) (fun c_630 => ?_)
        · replace hp := hp.1 c_630
          refine lv_iload hx hb dL_law_2990 (lv_at hl 1 rfl) ?_
          refine lv_if_ne (tgt := 3007) hx hb dL_law_2992 (by decide) (fun c_631 => ?_) (fun c_631 => ?_)
          · replace hp := hp.1 c_631
            exact t_L_law_3007 F hr hlocks hK hl0 hQ ih hbc hbs hp hW hE (lv_sub hl [2, 3, 4, 5, 6, 7] rfl) hL_a0 hK_a0 hL_a1 hK_a1 hL_a2 hK_a2 hL_a3 hK_a3 hL_a4 hK_a4
          · replace hp := hp.2 c_631
            refine lv_aload_n hx hb dL_law_2995 rfl (lv_at hl 5 rfl) ?_
            refine lv_iconst (v := 0) hx hb dL_law_2996 (by decide) ?_
            obtain ⟨h_632, hp⟩ := hp
            refine w_lld F hK hW hL_a3 hK_a3 h_632 dL_law_2997 ?_
            refine lv_iload hx hb dL_law_2998 (lv_at hl 0 rfl) ?_
            refine lv_i2l (v := (Int32.toInt64 r_626)) hx hb dL_law_3000 rfl ?_
            refine W.lcmp hx hb dL_law_3001 ?_
            refine lv_if_eq (tgt := 3007) hx hb dL_law_3002 (by decide) (fun c_633 => ?_) (fun c_633 => ?_)
            · replace hp := hp.1 c_633
              exact t_L_law_3007 F hr hlocks hK hl0 hQ ih hbc hbs hp hW hE (lv_sub hl [2, 3, 4, 5, 6, 7] rfl) hL_a0 hK_a0 hL_a1 hK_a1 hL_a2 hK_a2 hL_a3 hK_a3 hL_a4 hK_a4
            · replace hp := hp.2 c_633
              refine lv_iconst (v := 0) hx hb dL_law_3005 (by decide) ?_
              refine W.widen (k := rC) (n := rS) (Nat.le_trans (Nat.le_add_right _ _) hbc) (Nat.le_trans (Nat.le_add_right _ _) hbs) ?_
              exact hQ hp dL_law_3006 hW
        · replace hp := hp.2 c_630
          refine lv_iconst (v := 0) hx hb dL_law_2988 (by decide) ?_
          refine W.widen (k := rC) (n := rS) (Nat.le_trans (Nat.le_add_right _ _) hbc) (Nat.le_trans (Nat.le_add_right _ _) hbs) ?_
          exact hQ hp dL_law_2989 hW
      replace hp := hp.2
      by_cases c_634 : x_3 = 54
      · refine lv_tableIn (tgt := 3010) (x := x_3) (off := 2966) hx hb dL_law_44 (by rw [c_634]; decide) (by rw [c_634]; decide) (by rw [c_634]; decide) (by decide) ?_
        replace hp := hp.1 c_634
        refine lv_aload_n hx hb dL_law_3010 rfl (lv_at hl 1 rfl) ?_
        refine lv_aload_n hx hb dL_law_3011 rfl (lv_at hl 3 rfl) ?_
        obtain ⟨h_637, h_637z, hp⟩ := hp
        refine x_callI (vx_runSX (As := [.ref a1, .ref a3]) (rest := []) F (c_L_endingValue l hl0 hL_a1 hK_a1 hL_a3 hK_a3 hp H.size) (vx_cwSW 2 hts (wg_S wm_RL_366 wy_L_endingValue) rfl rfl rfl ⟨by decide, by decide, by decide +kernel⟩ ⟨Nat.le_of_ble_eq_true rfl, Nat.le_of_ble_eq_true rfl⟩) (w_preS hK hW) rfl rfl hl.1 rfl (lv_room (Nat.le_of_ble_eq_true rfl)) dL_law_3012 ⟨by show _ + 1 ≤ rC; omega, by show _ + 6 ≤ rS; omega⟩) hW (fun E ce q9 S9 H locs hp hW h1 h2 h3 => hp.elim) (fun r_635 S_636 H locs hp hW => ?_)
        obtain ⟨hX_S_636, hp⟩ := hp
        refine W.widen (k := _ + 1) (n := _ + 6) (Nat.le_refl _) (Nat.le_refl _) ?_
        replace hbc := w_spend hbc (show 1 ≤ bc by omega)
        replace hbs := w_spend hbs (show 6 ≤ bs by omega)
        have hE := hE.trans hX_S_636
        have hK_a0 : sK S_636 a0 = 21 := (hX_S_636.2 a0 hL_a0).1.trans hK_a0
        have hL_a0 : wM D S_636 a0 := hX_S_636.M hL_a0
        have hK_a1 : sK S_636 a1 = 16 := (hX_S_636.2 a1 hL_a1).1.trans hK_a1
        have hL_a1 : wM D S_636 a1 := hX_S_636.M hL_a1
        have hK_a2 : sK S_636 a2 = 17 := (hX_S_636.2 a2 hL_a2).1.trans hK_a2
        have hL_a2 : wM D S_636 a2 := hX_S_636.M hL_a2
        have hK_a3 : sK S_636 a3 = 22 := (hX_S_636.2 a3 hL_a3).1.trans hK_a3
        have hL_a3 : wM D S_636 a3 := hX_S_636.M hL_a3
        have hK_a4 : sK S_636 a4 = 25 := (hX_S_636.2 a4 hL_a4).1.trans hK_a4
        have hL_a4 : wM D S_636 a4 := hX_S_636.M hL_a4
        refine lv_istore (lv' := [(6, .int r_635), (0, .ref a0), (1, .ref a1), (2, .ref a2), (3, .ref a3), (4, .ref a4), (5, .int x5)]) hx hb dL_law_3015 hl (by decide) rfl (fun ls hl => ?_)
        refine lv_aload_n hx hb dL_law_3017 rfl (lv_at hl 3 rfl) ?_
        refine w_callI (va_runV (As := []) (rest := []) F (c_X12_endingValue l hL_a2 hK_a2 hp H.size) (cwV (C := RX12) 0 hts (wg_V wm_RL_368 wy_X12_endingValue) rfl rfl rfl (by decide +kernel) ⟨Nat.le_of_ble_eq_true rfl, Nat.le_of_ble_eq_true rfl⟩) (w_preV hK hW hL_a2 hK_a2 (by decide) rfl) rfl rfl hl.1 rfl (lv_room (Nat.le_of_ble_eq_true rfl)) dL_law_3018 ⟨by show _ ≤ rC; exact Nat.le_trans (Nat.le_add_right _ _) hbc, by show _ ≤ rS; exact Nat.le_trans (Nat.le_add_right _ _) hbs⟩) hW (fun r_638 S_639 H locs hp hW => ?_)
        obtain ⟨hX_S_639, hp⟩ := hp
        refine w_same ?_
        have hE := hE.trans hX_S_639
        have hK_a0 : sK S_639 a0 = 21 := (hX_S_639.2 a0 hL_a0).1.trans hK_a0
        have hL_a0 : wM D S_639 a0 := hX_S_639.M hL_a0
        have hK_a1 : sK S_639 a1 = 16 := (hX_S_639.2 a1 hL_a1).1.trans hK_a1
        have hL_a1 : wM D S_639 a1 := hX_S_639.M hL_a1
        have hK_a2 : sK S_639 a2 = 17 := (hX_S_639.2 a2 hL_a2).1.trans hK_a2
        have hL_a2 : wM D S_639 a2 := hX_S_639.M hL_a2
        have hK_a3 : sK S_639 a3 = 22 := (hX_S_639.2 a3 hL_a3).1.trans hK_a3
        have hL_a3 : wM D S_639 a3 := hX_S_639.M hL_a3
        have hK_a4 : sK S_639 a4 = 25 := (hX_S_639.2 a4 hL_a4).1.trans hK_a4
        have hL_a4 : wM D S_639 a4 := hX_S_639.M hL_a4
        refine lv_istore (lv' := [(7, .int r_638), (6, .int r_635), (0, .ref a0), (1, .ref a1), (2, .ref a2), (3, .ref a3), (4, .ref a4), (5, .int x5)]) hx hb dL_law_3021 hl (by decide) rfl (fun ls hl => ?_)
        refine lv_aload_n hx hb dL_law_3023 rfl (lv_at hl 4 rfl) ?_
        refine w_callI (va_runV (As := []) (rest := []) F (c_X12_thrown l hL_a2 hK_a2 hp H.size) (cwV (C := RX12) 0 hts (wg_V wm_RL_181 wy_X12_thrown) rfl rfl rfl (by decide +kernel) ⟨Nat.le_of_ble_eq_true rfl, Nat.le_of_ble_eq_true rfl⟩) (w_preV hK hW hL_a2 hK_a2 (by decide) rfl) rfl rfl hl.1 rfl (lv_room (Nat.le_of_ble_eq_true rfl)) dL_law_3024 ⟨by show _ ≤ rC; exact Nat.le_trans (Nat.le_add_right _ _) hbc, by show _ ≤ rS; exact Nat.le_trans (Nat.le_add_right _ _) hbs⟩) hW (fun r_640 S_641 H locs hp hW => ?_)
        obtain ⟨hX_S_641, hp⟩ := hp
        refine w_same ?_
        have hE := hE.trans hX_S_641
        have hK_a0 : sK S_641 a0 = 21 := (hX_S_641.2 a0 hL_a0).1.trans hK_a0
        have hL_a0 : wM D S_641 a0 := hX_S_641.M hL_a0
        have hK_a1 : sK S_641 a1 = 16 := (hX_S_641.2 a1 hL_a1).1.trans hK_a1
        have hL_a1 : wM D S_641 a1 := hX_S_641.M hL_a1
        have hK_a2 : sK S_641 a2 = 17 := (hX_S_641.2 a2 hL_a2).1.trans hK_a2
        have hL_a2 : wM D S_641 a2 := hX_S_641.M hL_a2
        have hK_a3 : sK S_641 a3 = 22 := (hX_S_641.2 a3 hL_a3).1.trans hK_a3
        have hL_a3 : wM D S_641 a3 := hX_S_641.M hL_a3
        have hK_a4 : sK S_641 a4 = 25 := (hX_S_641.2 a4 hL_a4).1.trans hK_a4
        have hL_a4 : wM D S_641 a4 := hX_S_641.M hL_a4
        refine lv_iload hx hb dL_law_3027 (lv_at hl 1 rfl) ?_
        refine lv_icmp_eq (tgt := 3034) hx hb dL_law_3029 (by decide) (fun c_642 => ?_) (fun c_642 => ?_)
        · replace hp := hp.1 c_642
          refine lv_iload hx hb dL_law_3034 (lv_at hl 1 rfl) ?_
          refine lv_if_ne (tgt := 3051) hx hb dL_law_3036 (by decide) (fun c_643 => ?_) (fun c_643 => ?_)
          · replace hp := hp.1 c_643
            exact t_L_law_3051 F hr hlocks hK hl0 hQ ih hbc hbs hp hW hE (lv_sub hl [2, 3, 4, 5, 6, 7] rfl) hL_a0 hK_a0 hL_a1 hK_a1 hL_a2 hK_a2 hL_a3 hK_a3 hL_a4 hK_a4
          · replace hp := hp.2 c_643
            refine lv_aload_n hx hb dL_law_3039 rfl (lv_at hl 5 rfl) ?_
            refine lv_iconst (v := 0) hx hb dL_law_3040 (by decide) ?_
            obtain ⟨h_644, hp⟩ := hp
            refine w_lld F hK hW hL_a3 hK_a3 h_644 dL_law_3041 ?_
            refine lv_iload hx hb dL_law_3042 (lv_at hl 0 rfl) ?_
            refine lv_i2l (v := (Int32.toInt64 r_638)) hx hb dL_law_3044 rfl ?_
            refine W.lcmp hx hb dL_law_3045 ?_
            refine lv_if_eq (tgt := 3051) hx hb dL_law_3046 (by decide) (fun c_645 => ?_) (fun c_645 => ?_)
            · replace hp := hp.1 c_645
              exact t_L_law_3051 F hr hlocks hK hl0 hQ ih hbc hbs hp hW hE (lv_sub hl [2, 3, 4, 5, 6, 7] rfl) hL_a0 hK_a0 hL_a1 hK_a1 hL_a2 hK_a2 hL_a3 hK_a3 hL_a4 hK_a4
            · replace hp := hp.2 c_645
              refine lv_iconst (v := 0) hx hb dL_law_3049 (by decide) ?_
              refine W.widen (k := rC) (n := rS) (Nat.le_trans (Nat.le_add_right _ _) hbc) (Nat.le_trans (Nat.le_add_right _ _) hbs) ?_
              exact hQ hp dL_law_3050 hW
        · replace hp := hp.2 c_642
          refine lv_iconst (v := 0) hx hb dL_law_3032 (by decide) ?_
          refine W.widen (k := rC) (n := rS) (Nat.le_trans (Nat.le_add_right _ _) hbc) (Nat.le_trans (Nat.le_add_right _ _) hbs) ?_
          exact hQ hp dL_law_3033 hW
      replace hp := hp.2
      by_cases c_646 : x_3 = 55
      · refine lv_tableIn (tgt := 3054) (x := x_3) (off := 3010) hx hb dL_law_44 (by rw [c_646]; decide) (by rw [c_646]; decide) (by rw [c_646]; decide) (by decide) ?_
        replace hp := hp.1 c_646
        refine lv_aload_n hx hb dL_law_3054 rfl (lv_at hl 1 rfl) ?_
        refine lv_aload_n hx hb dL_law_3055 rfl (lv_at hl 0 rfl) ?_
        refine lv_iload hx hb dL_law_3056 (lv_at hl 5 rfl) ?_
        refine lv_iconst (v := 1) hx hb dL_law_3058 (by decide) ?_
        refine lv_iadd hx hb dL_law_3059 ?_
        obtain ⟨h_647, hp⟩ := hp
        refine w_ild F hK hW hL_a0 hK_a0 h_647 dL_law_3060 ?_
        refine lv_aload_n hx hb dL_law_3061 rfl (lv_at hl 3 rfl) ?_
        obtain ⟨h_650, h_650z, hp⟩ := hp
        refine x_callI (vx_runSX (As := [.ref a1, .int (sI S a0 ((x5 + (1 : Int32))).toNatClampNeg), .ref a3]) (rest := []) F (c_L_longest l hl0 hL_a1 hK_a1 hL_a3 hK_a3 hp H.size) (vx_cwSW 3 hts (wg_S wm_RL_369 wy_L_longest) rfl rfl rfl ⟨by decide, by decide, by decide +kernel⟩ ⟨Nat.le_of_ble_eq_true rfl, Nat.le_of_ble_eq_true rfl⟩) (w_preS hK hW) rfl rfl hl.1 rfl (lv_room (Nat.le_of_ble_eq_true rfl)) dL_law_3062 ⟨by show _ + 2 ≤ rC; omega, by show _ + 12 ≤ rS; omega⟩) hW (fun E ce q9 S9 H locs hp hW h1 h2 h3 => hp.elim) (fun r_648 S_649 H locs hp hW => ?_)
        obtain ⟨hX_S_649, hp⟩ := hp
        refine W.widen (k := _ + 2) (n := _ + 12) (Nat.le_refl _) (Nat.le_refl _) ?_
        replace hbc := w_spend hbc (show 2 ≤ bc by omega)
        replace hbs := w_spend hbs (show 12 ≤ bs by omega)
        have hE := hE.trans hX_S_649
        have hK_a0 : sK S_649 a0 = 21 := (hX_S_649.2 a0 hL_a0).1.trans hK_a0
        have hL_a0 : wM D S_649 a0 := hX_S_649.M hL_a0
        have hK_a1 : sK S_649 a1 = 16 := (hX_S_649.2 a1 hL_a1).1.trans hK_a1
        have hL_a1 : wM D S_649 a1 := hX_S_649.M hL_a1
        have hK_a2 : sK S_649 a2 = 17 := (hX_S_649.2 a2 hL_a2).1.trans hK_a2
        have hL_a2 : wM D S_649 a2 := hX_S_649.M hL_a2
        have hK_a3 : sK S_649 a3 = 22 := (hX_S_649.2 a3 hL_a3).1.trans hK_a3
        have hL_a3 : wM D S_649 a3 := hX_S_649.M hL_a3
        have hK_a4 : sK S_649 a4 = 25 := (hX_S_649.2 a4 hL_a4).1.trans hK_a4
        have hL_a4 : wM D S_649 a4 := hX_S_649.M hL_a4
        refine lv_istore (lv' := [(6, .int r_648), (0, .ref a0), (1, .ref a1), (2, .ref a2), (3, .ref a3), (4, .ref a4), (5, .int x5)]) hx hb dL_law_3065 hl (by decide) rfl (fun ls hl => ?_)
        refine lv_aload_n hx hb dL_law_3067 rfl (lv_at hl 3 rfl) ?_
        refine lv_aload_n hx hb dL_law_3068 rfl (lv_at hl 1 rfl) ?_
        refine lv_iload hx hb dL_law_3069 (lv_at hl 6 rfl) ?_
        refine lv_iconst (v := 1) hx hb dL_law_3071 (by decide) ?_
        refine lv_iadd hx hb dL_law_3072 ?_
        obtain ⟨h_651, hp⟩ := hp
        refine w_ild F hK hW hL_a0 hK_a0 h_651 dL_law_3073 ?_
        refine w_callI (va_runV (As := [.int (sI S_649 a0 ((x5 + (1 : Int32))).toNatClampNeg)]) (rest := []) F (c_X12_longest l hL_a2 hK_a2 hp H.size) (cwV (C := RX12) 1 hts (wg_V wm_RL_371 wy_X12_longest) rfl rfl rfl (by decide +kernel) ⟨Nat.le_of_ble_eq_true rfl, Nat.le_of_ble_eq_true rfl⟩) (w_preV hK hW hL_a2 hK_a2 (by decide) rfl) rfl rfl hl.1 rfl (lv_room (Nat.le_of_ble_eq_true rfl)) dL_law_3074 ⟨by show _ ≤ rC; exact Nat.le_trans (Nat.le_add_right _ _) hbc, by show _ ≤ rS; exact Nat.le_trans (Nat.le_add_right _ _) hbs⟩) hW (fun r_652 S_653 H locs hp hW => ?_)
        obtain ⟨hX_S_653, hp⟩ := hp
        refine w_same ?_
        have hE := hE.trans hX_S_653
        have hK_a0 : sK S_653 a0 = 21 := (hX_S_653.2 a0 hL_a0).1.trans hK_a0
        have hL_a0 : wM D S_653 a0 := hX_S_653.M hL_a0
        have hK_a1 : sK S_653 a1 = 16 := (hX_S_653.2 a1 hL_a1).1.trans hK_a1
        have hL_a1 : wM D S_653 a1 := hX_S_653.M hL_a1
        have hK_a2 : sK S_653 a2 = 17 := (hX_S_653.2 a2 hL_a2).1.trans hK_a2
        have hL_a2 : wM D S_653 a2 := hX_S_653.M hL_a2
        have hK_a3 : sK S_653 a3 = 22 := (hX_S_653.2 a3 hL_a3).1.trans hK_a3
        have hL_a3 : wM D S_653 a3 := hX_S_653.M hL_a3
        have hK_a4 : sK S_653 a4 = 25 := (hX_S_653.2 a4 hL_a4).1.trans hK_a4
        have hL_a4 : wM D S_653 a4 := hX_S_653.M hL_a4
        refine lv_istore (lv' := [(7, .int r_652), (6, .int r_648), (0, .ref a0), (1, .ref a1), (2, .ref a2), (3, .ref a3), (4, .ref a4), (5, .int x5)]) hx hb dL_law_3077 hl (by decide) rfl (fun ls hl => ?_)
        refine lv_aload_n hx hb dL_law_3079 rfl (lv_at hl 4 rfl) ?_
        refine w_callI (va_runV (As := []) (rest := []) F (c_X12_thrown l hL_a2 hK_a2 hp H.size) (cwV (C := RX12) 0 hts (wg_V wm_RL_181 wy_X12_thrown) rfl rfl rfl (by decide +kernel) ⟨Nat.le_of_ble_eq_true rfl, Nat.le_of_ble_eq_true rfl⟩) (w_preV hK hW hL_a2 hK_a2 (by decide) rfl) rfl rfl hl.1 rfl (lv_room (Nat.le_of_ble_eq_true rfl)) dL_law_3080 ⟨by show _ ≤ rC; exact Nat.le_trans (Nat.le_add_right _ _) hbc, by show _ ≤ rS; exact Nat.le_trans (Nat.le_add_right _ _) hbs⟩) hW (fun r_654 S_655 H locs hp hW => ?_)
        obtain ⟨hX_S_655, hp⟩ := hp
        refine w_same ?_
        have hE := hE.trans hX_S_655
        have hK_a0 : sK S_655 a0 = 21 := (hX_S_655.2 a0 hL_a0).1.trans hK_a0
        have hL_a0 : wM D S_655 a0 := hX_S_655.M hL_a0
        have hK_a1 : sK S_655 a1 = 16 := (hX_S_655.2 a1 hL_a1).1.trans hK_a1
        have hL_a1 : wM D S_655 a1 := hX_S_655.M hL_a1
        have hK_a2 : sK S_655 a2 = 17 := (hX_S_655.2 a2 hL_a2).1.trans hK_a2
        have hL_a2 : wM D S_655 a2 := hX_S_655.M hL_a2
        have hK_a3 : sK S_655 a3 = 22 := (hX_S_655.2 a3 hL_a3).1.trans hK_a3
        have hL_a3 : wM D S_655 a3 := hX_S_655.M hL_a3
        have hK_a4 : sK S_655 a4 = 25 := (hX_S_655.2 a4 hL_a4).1.trans hK_a4
        have hL_a4 : wM D S_655 a4 := hX_S_655.M hL_a4
        refine lv_iload hx hb dL_law_3083 (lv_at hl 1 rfl) ?_
        refine lv_icmp_eq (tgt := 3090) hx hb dL_law_3085 (by decide) (fun c_656 => ?_) (fun c_656 => ?_)
        · replace hp := hp.1 c_656
          refine lv_iload hx hb dL_law_3090 (lv_at hl 1 rfl) ?_
          refine lv_if_ne (tgt := 3107) hx hb dL_law_3092 (by decide) (fun c_657 => ?_) (fun c_657 => ?_)
          · replace hp := hp.1 c_657
            exact t_L_law_3107 F hr hlocks hK hl0 hQ ih hbc hbs hp hW hE (lv_sub hl [2, 3, 4, 5, 6, 7] rfl) hL_a0 hK_a0 hL_a1 hK_a1 hL_a2 hK_a2 hL_a3 hK_a3 hL_a4 hK_a4
          · replace hp := hp.2 c_657
            refine lv_aload_n hx hb dL_law_3095 rfl (lv_at hl 5 rfl) ?_
            refine lv_iconst (v := 0) hx hb dL_law_3096 (by decide) ?_
            obtain ⟨h_658, hp⟩ := hp
            refine w_lld F hK hW hL_a3 hK_a3 h_658 dL_law_3097 ?_
            refine lv_iload hx hb dL_law_3098 (lv_at hl 0 rfl) ?_
            refine lv_i2l (v := (Int32.toInt64 r_652)) hx hb dL_law_3100 rfl ?_
            refine W.lcmp hx hb dL_law_3101 ?_
            refine lv_if_eq (tgt := 3107) hx hb dL_law_3102 (by decide) (fun c_659 => ?_) (fun c_659 => ?_)
            · replace hp := hp.1 c_659
              exact t_L_law_3107 F hr hlocks hK hl0 hQ ih hbc hbs hp hW hE (lv_sub hl [2, 3, 4, 5, 6, 7] rfl) hL_a0 hK_a0 hL_a1 hK_a1 hL_a2 hK_a2 hL_a3 hK_a3 hL_a4 hK_a4
            · replace hp := hp.2 c_659
              refine lv_iconst (v := 0) hx hb dL_law_3105 (by decide) ?_
              refine W.widen (k := rC) (n := rS) (Nat.le_trans (Nat.le_add_right _ _) hbc) (Nat.le_trans (Nat.le_add_right _ _) hbs) ?_
              exact hQ hp dL_law_3106 hW
        · replace hp := hp.2 c_656
          refine lv_iconst (v := 0) hx hb dL_law_3088 (by decide) ?_
          refine W.widen (k := rC) (n := rS) (Nat.le_trans (Nat.le_add_right _ _) hbc) (Nat.le_trans (Nat.le_add_right _ _) hbs) ?_
          exact hQ hp dL_law_3089 hW
      replace hp := hp.2
      by_cases c_660 : x_3 = 56
      · refine lv_tableIn (tgt := 3110) (x := x_3) (off := 3066) hx hb dL_law_44 (by rw [c_660]; decide) (by rw [c_660]; decide) (by rw [c_660]; decide) (by decide) ?_
        replace hp := hp.1 c_660
        refine lv_aload_n hx hb dL_law_3110 rfl (lv_at hl 1 rfl) ?_
        refine lv_aload_n hx hb dL_law_3111 rfl (lv_at hl 3 rfl) ?_
        obtain ⟨h_663, h_663z, hp⟩ := hp
        refine x_callI (vx_runSX (As := [.ref a1, .ref a3]) (rest := []) F (c_L_asked l hl0 hL_a1 hK_a1 hL_a3 hK_a3 hp H.size) (vx_cwSW 2 hts (wg_S wm_RL_372 wy_L_asked) rfl rfl rfl ⟨by decide, by decide, by decide +kernel⟩ ⟨Nat.le_of_ble_eq_true rfl, Nat.le_of_ble_eq_true rfl⟩) (w_preS hK hW) rfl rfl hl.1 rfl (lv_room (Nat.le_of_ble_eq_true rfl)) dL_law_3112 ⟨by show _ + 1 ≤ rC; omega, by show _ + 6 ≤ rS; omega⟩) hW (fun E ce q9 S9 H locs hp hW h1 h2 h3 => hp.elim) (fun r_661 S_662 H locs hp hW => ?_)
        obtain ⟨hX_S_662, hp⟩ := hp
        refine W.widen (k := _ + 1) (n := _ + 6) (Nat.le_refl _) (Nat.le_refl _) ?_
        replace hbc := w_spend hbc (show 1 ≤ bc by omega)
        replace hbs := w_spend hbs (show 6 ≤ bs by omega)
        have hE := hE.trans hX_S_662
        have hK_a0 : sK S_662 a0 = 21 := (hX_S_662.2 a0 hL_a0).1.trans hK_a0
        have hL_a0 : wM D S_662 a0 := hX_S_662.M hL_a0
        have hK_a1 : sK S_662 a1 = 16 := (hX_S_662.2 a1 hL_a1).1.trans hK_a1
        have hL_a1 : wM D S_662 a1 := hX_S_662.M hL_a1
        have hK_a2 : sK S_662 a2 = 17 := (hX_S_662.2 a2 hL_a2).1.trans hK_a2
        have hL_a2 : wM D S_662 a2 := hX_S_662.M hL_a2
        have hK_a3 : sK S_662 a3 = 22 := (hX_S_662.2 a3 hL_a3).1.trans hK_a3
        have hL_a3 : wM D S_662 a3 := hX_S_662.M hL_a3
        have hK_a4 : sK S_662 a4 = 25 := (hX_S_662.2 a4 hL_a4).1.trans hK_a4
        have hL_a4 : wM D S_662 a4 := hX_S_662.M hL_a4
        refine lv_istore (lv' := [(6, .int r_661), (0, .ref a0), (1, .ref a1), (2, .ref a2), (3, .ref a3), (4, .ref a4), (5, .int x5)]) hx hb dL_law_3115 hl (by decide) rfl (fun ls hl => ?_)
        refine lv_aload_n hx hb dL_law_3117 rfl (lv_at hl 3 rfl) ?_
        refine w_callI (va_runV (As := []) (rest := []) F (c_X12_asked l hL_a2 hK_a2 hp H.size) (cwV (C := RX12) 0 hts (wg_V wm_RL_374 wy_X12_asked) rfl rfl rfl (by decide +kernel) ⟨Nat.le_of_ble_eq_true rfl, Nat.le_of_ble_eq_true rfl⟩) (w_preV hK hW hL_a2 hK_a2 (by decide) rfl) rfl rfl hl.1 rfl (lv_room (Nat.le_of_ble_eq_true rfl)) dL_law_3118 ⟨by show _ ≤ rC; exact Nat.le_trans (Nat.le_add_right _ _) hbc, by show _ ≤ rS; exact Nat.le_trans (Nat.le_add_right _ _) hbs⟩) hW (fun r_664 S_665 H locs hp hW => ?_)
        obtain ⟨hX_S_665, hp⟩ := hp
        refine w_same ?_
        have hE := hE.trans hX_S_665
        have hK_a0 : sK S_665 a0 = 21 := (hX_S_665.2 a0 hL_a0).1.trans hK_a0
        have hL_a0 : wM D S_665 a0 := hX_S_665.M hL_a0
        have hK_a1 : sK S_665 a1 = 16 := (hX_S_665.2 a1 hL_a1).1.trans hK_a1
        have hL_a1 : wM D S_665 a1 := hX_S_665.M hL_a1
        have hK_a2 : sK S_665 a2 = 17 := (hX_S_665.2 a2 hL_a2).1.trans hK_a2
        have hL_a2 : wM D S_665 a2 := hX_S_665.M hL_a2
        have hK_a3 : sK S_665 a3 = 22 := (hX_S_665.2 a3 hL_a3).1.trans hK_a3
        have hL_a3 : wM D S_665 a3 := hX_S_665.M hL_a3
        have hK_a4 : sK S_665 a4 = 25 := (hX_S_665.2 a4 hL_a4).1.trans hK_a4
        have hL_a4 : wM D S_665 a4 := hX_S_665.M hL_a4
        refine lv_istore (lv' := [(7, .int r_664), (6, .int r_661), (0, .ref a0), (1, .ref a1), (2, .ref a2), (3, .ref a3), (4, .ref a4), (5, .int x5)]) hx hb dL_law_3121 hl (by decide) rfl (fun ls hl => ?_)
        refine lv_aload_n hx hb dL_law_3123 rfl (lv_at hl 4 rfl) ?_
        refine w_callI (va_runV (As := []) (rest := []) F (c_X12_thrown l hL_a2 hK_a2 hp H.size) (cwV (C := RX12) 0 hts (wg_V wm_RL_181 wy_X12_thrown) rfl rfl rfl (by decide +kernel) ⟨Nat.le_of_ble_eq_true rfl, Nat.le_of_ble_eq_true rfl⟩) (w_preV hK hW hL_a2 hK_a2 (by decide) rfl) rfl rfl hl.1 rfl (lv_room (Nat.le_of_ble_eq_true rfl)) dL_law_3124 ⟨by show _ ≤ rC; exact Nat.le_trans (Nat.le_add_right _ _) hbc, by show _ ≤ rS; exact Nat.le_trans (Nat.le_add_right _ _) hbs⟩) hW (fun r_666 S_667 H locs hp hW => ?_)
        obtain ⟨hX_S_667, hp⟩ := hp
        refine w_same ?_
        have hE := hE.trans hX_S_667
        have hK_a0 : sK S_667 a0 = 21 := (hX_S_667.2 a0 hL_a0).1.trans hK_a0
        have hL_a0 : wM D S_667 a0 := hX_S_667.M hL_a0
        have hK_a1 : sK S_667 a1 = 16 := (hX_S_667.2 a1 hL_a1).1.trans hK_a1
        have hL_a1 : wM D S_667 a1 := hX_S_667.M hL_a1
        have hK_a2 : sK S_667 a2 = 17 := (hX_S_667.2 a2 hL_a2).1.trans hK_a2
        have hL_a2 : wM D S_667 a2 := hX_S_667.M hL_a2
        have hK_a3 : sK S_667 a3 = 22 := (hX_S_667.2 a3 hL_a3).1.trans hK_a3
        have hL_a3 : wM D S_667 a3 := hX_S_667.M hL_a3
        have hK_a4 : sK S_667 a4 = 25 := (hX_S_667.2 a4 hL_a4).1.trans hK_a4
        have hL_a4 : wM D S_667 a4 := hX_S_667.M hL_a4
        refine lv_iload hx hb dL_law_3127 (lv_at hl 1 rfl) ?_
        refine lv_icmp_eq (tgt := 3134) hx hb dL_law_3129 (by decide) (fun c_668 => ?_) (fun c_668 => ?_)
        · replace hp := hp.1 c_668
          refine lv_iload hx hb dL_law_3134 (lv_at hl 1 rfl) ?_
          refine lv_if_ne (tgt := 3151) hx hb dL_law_3136 (by decide) (fun c_669 => ?_) (fun c_669 => ?_)
          · replace hp := hp.1 c_669
            exact t_L_law_3151 F hr hlocks hK hl0 hQ ih hbc hbs hp hW hE (lv_sub hl [2, 3, 4, 5, 6, 7] rfl) hL_a0 hK_a0 hL_a1 hK_a1 hL_a2 hK_a2 hL_a3 hK_a3 hL_a4 hK_a4
          · replace hp := hp.2 c_669
            refine lv_aload_n hx hb dL_law_3139 rfl (lv_at hl 5 rfl) ?_
            refine lv_iconst (v := 0) hx hb dL_law_3140 (by decide) ?_
            obtain ⟨h_670, hp⟩ := hp
            refine w_lld F hK hW hL_a3 hK_a3 h_670 dL_law_3141 ?_
            refine lv_iload hx hb dL_law_3142 (lv_at hl 0 rfl) ?_
            refine lv_i2l (v := (Int32.toInt64 r_664)) hx hb dL_law_3144 rfl ?_
            refine W.lcmp hx hb dL_law_3145 ?_
            refine lv_if_eq (tgt := 3151) hx hb dL_law_3146 (by decide) (fun c_671 => ?_) (fun c_671 => ?_)
            · replace hp := hp.1 c_671
              exact t_L_law_3151 F hr hlocks hK hl0 hQ ih hbc hbs hp hW hE (lv_sub hl [2, 3, 4, 5, 6, 7] rfl) hL_a0 hK_a0 hL_a1 hK_a1 hL_a2 hK_a2 hL_a3 hK_a3 hL_a4 hK_a4
            · replace hp := hp.2 c_671
              refine lv_iconst (v := 0) hx hb dL_law_3149 (by decide) ?_
              refine W.widen (k := rC) (n := rS) (Nat.le_trans (Nat.le_add_right _ _) hbc) (Nat.le_trans (Nat.le_add_right _ _) hbs) ?_
              exact hQ hp dL_law_3150 hW
        · replace hp := hp.2 c_668
          refine lv_iconst (v := 0) hx hb dL_law_3132 (by decide) ?_
          refine W.widen (k := rC) (n := rS) (Nat.le_trans (Nat.le_add_right _ _) hbc) (Nat.le_trans (Nat.le_add_right _ _) hbs) ?_
          exact hQ hp dL_law_3133 hW
      replace hp := hp.2
      by_cases c_672 : x_3 = 57
      · refine lv_tableIn (tgt := 3154) (x := x_3) (off := 3110) hx hb dL_law_44 (by rw [c_672]; decide) (by rw [c_672]; decide) (by rw [c_672]; decide) (by decide) ?_
        replace hp := hp.1 c_672
        refine lv_aload_n hx hb dL_law_3154 rfl (lv_at hl 1 rfl) ?_
        refine lv_aload_n hx hb dL_law_3155 rfl (lv_at hl 0 rfl) ?_
        refine lv_iload hx hb dL_law_3156 (lv_at hl 5 rfl) ?_
        refine lv_iconst (v := 1) hx hb dL_law_3158 (by decide) ?_
        refine lv_iadd hx hb dL_law_3159 ?_
        obtain ⟨h_673, hp⟩ := hp
        refine w_ild F hK hW hL_a0 hK_a0 h_673 dL_law_3160 ?_
        refine lv_if_eq (tgt := 3168) hx hb dL_law_3161 (by decide) (fun c_674 => ?_) (fun c_674 => ?_)
        · replace hp := hp.1 c_674
          refine lv_iconst (v := 0) hx hb dL_law_3168 (by decide) ?_
          exact t_L_law_3169 F hr hlocks hK hl0 hQ ih hbc hbs hp hW hE (lv_sub hl [0, 1, 2, 3, 4, 5] rfl) hL_a0 hK_a0 hL_a1 hK_a1 hL_a2 hK_a2 hL_a3 hK_a3 hL_a4 hK_a4 hL_a1 hK_a1
        · replace hp := hp.2 c_674
          refine lv_iconst (v := 1) hx hb dL_law_3164 (by decide) ?_
          refine lv_goto (tgt := 3169) hx hb dL_law_3165 (by decide) ?_
          exact t_L_law_3169 F hr hlocks hK hl0 hQ ih hbc hbs hp hW hE (lv_sub hl [0, 1, 2, 3, 4, 5] rfl) hL_a0 hK_a0 hL_a1 hK_a1 hL_a2 hK_a2 hL_a3 hK_a3 hL_a4 hK_a4 hL_a1 hK_a1
      replace hp := hp.2
      by_cases c_675 : x_3 = 58
      · refine lv_tableIn (tgt := 3226) (x := x_3) (off := 3182) hx hb dL_law_44 (by rw [c_675]; decide) (by rw [c_675]; decide) (by rw [c_675]; decide) (by decide) ?_
        replace hp := hp.1 c_675
        refine lv_aload_n hx hb dL_law_3226 rfl (lv_at hl 1 rfl) ?_
        refine lv_aload_n hx hb dL_law_3227 rfl (lv_at hl 0 rfl) ?_
        refine lv_iload hx hb dL_law_3228 (lv_at hl 5 rfl) ?_
        refine lv_iconst (v := 1) hx hb dL_law_3230 (by decide) ?_
        refine lv_iadd hx hb dL_law_3231 ?_
        obtain ⟨h_676, hp⟩ := hp
        refine w_ild F hK hW hL_a0 hK_a0 h_676 dL_law_3232 ?_
        refine lv_aload hx hb dL_law_3233 (lv_at hl 4 rfl) ?_
        obtain ⟨h_679, h_679z, hp⟩ := hp
        refine x_callI (vx_runSX (As := [.ref a1, .int (sI S a0 ((x5 + (1 : Int32))).toNatClampNeg), .ref a4]) (rest := []) F (c_L_meanLength l hl0 hL_a1 hK_a1 hL_a4 hK_a4 hp H.size) (vx_cwSW 3 hts (wg_S wm_RL_379 wy_L_meanLength) rfl rfl rfl ⟨by decide, by decide, by decide +kernel⟩ ⟨Nat.le_of_ble_eq_true rfl, Nat.le_of_ble_eq_true rfl⟩) (w_preS hK hW) rfl rfl hl.1 rfl (lv_room (Nat.le_of_ble_eq_true rfl)) dL_law_3235 ⟨by show _ + 1 ≤ rC; omega, by show _ + 6 ≤ rS; omega⟩) hW (fun E ce q9 S9 H locs hp hW h1 h2 h3 => hp.elim) (fun r_677 S_678 H locs hp hW => ?_)
        obtain ⟨hX_S_678, hp⟩ := hp
        refine W.widen (k := _ + 1) (n := _ + 6) (Nat.le_refl _) (Nat.le_refl _) ?_
        replace hbc := w_spend hbc (show 1 ≤ bc by omega)
        replace hbs := w_spend hbs (show 6 ≤ bs by omega)
        have hE := hE.trans hX_S_678
        have hK_a0 : sK S_678 a0 = 21 := (hX_S_678.2 a0 hL_a0).1.trans hK_a0
        have hL_a0 : wM D S_678 a0 := hX_S_678.M hL_a0
        have hK_a1 : sK S_678 a1 = 16 := (hX_S_678.2 a1 hL_a1).1.trans hK_a1
        have hL_a1 : wM D S_678 a1 := hX_S_678.M hL_a1
        have hK_a2 : sK S_678 a2 = 17 := (hX_S_678.2 a2 hL_a2).1.trans hK_a2
        have hL_a2 : wM D S_678 a2 := hX_S_678.M hL_a2
        have hK_a3 : sK S_678 a3 = 22 := (hX_S_678.2 a3 hL_a3).1.trans hK_a3
        have hL_a3 : wM D S_678 a3 := hX_S_678.M hL_a3
        have hK_a4 : sK S_678 a4 = 25 := (hX_S_678.2 a4 hL_a4).1.trans hK_a4
        have hL_a4 : wM D S_678 a4 := hX_S_678.M hL_a4
        refine lv_istore (lv' := [(6, .int r_677), (0, .ref a0), (1, .ref a1), (2, .ref a2), (3, .ref a3), (4, .ref a4), (5, .int x5)]) hx hb dL_law_3238 hl (by decide) rfl (fun ls hl => ?_)
        refine lv_aload_n hx hb dL_law_3240 rfl (lv_at hl 3 rfl) ?_
        refine lv_aload_n hx hb dL_law_3241 rfl (lv_at hl 1 rfl) ?_
        refine lv_iload hx hb dL_law_3242 (lv_at hl 6 rfl) ?_
        refine lv_iconst (v := 1) hx hb dL_law_3244 (by decide) ?_
        refine lv_iadd hx hb dL_law_3245 ?_
        obtain ⟨h_680, hp⟩ := hp
        refine w_ild F hK hW hL_a0 hK_a0 h_680 dL_law_3246 ?_
        refine w_callD (va_runV (As := [.int (sI S_678 a0 ((x5 + (1 : Int32))).toNatClampNeg)]) (rest := []) F (c_X12_meanLength l hL_a2 hK_a2 hp H.size) (cwV (C := RX12) 1 hts (wg_V wm_RL_382 wy_X12_meanLength) rfl rfl rfl (by decide +kernel) ⟨Nat.le_of_ble_eq_true rfl, Nat.le_of_ble_eq_true rfl⟩) (w_preV hK hW hL_a2 hK_a2 (by decide) rfl) rfl rfl hl.1 rfl (lv_room (Nat.le_of_ble_eq_true rfl)) dL_law_3247 ⟨by show _ ≤ rC; exact Nat.le_trans (Nat.le_add_right _ _) hbc, by show _ ≤ rS; exact Nat.le_trans (Nat.le_add_right _ _) hbs⟩) hW (fun r_681 S_682 H locs hp hW => ?_)
        obtain ⟨hX_S_682, hp⟩ := hp
        refine w_same ?_
        have hE := hE.trans hX_S_682
        have hK_a0 : sK S_682 a0 = 21 := (hX_S_682.2 a0 hL_a0).1.trans hK_a0
        have hL_a0 : wM D S_682 a0 := hX_S_682.M hL_a0
        have hK_a1 : sK S_682 a1 = 16 := (hX_S_682.2 a1 hL_a1).1.trans hK_a1
        have hL_a1 : wM D S_682 a1 := hX_S_682.M hL_a1
        have hK_a2 : sK S_682 a2 = 17 := (hX_S_682.2 a2 hL_a2).1.trans hK_a2
        have hL_a2 : wM D S_682 a2 := hX_S_682.M hL_a2
        have hK_a3 : sK S_682 a3 = 22 := (hX_S_682.2 a3 hL_a3).1.trans hK_a3
        have hL_a3 : wM D S_682 a3 := hX_S_682.M hL_a3
        have hK_a4 : sK S_682 a4 = 25 := (hX_S_682.2 a4 hL_a4).1.trans hK_a4
        have hL_a4 : wM D S_682 a4 := hX_S_682.M hL_a4
        refine lv_dstore (lv' := [(7, .double r_681), (6, .int r_677), (0, .ref a0), (1, .ref a1), (2, .ref a2), (3, .ref a3), (4, .ref a4), (5, .int x5)]) hx hb dL_law_3250 hl (by decide) rfl (fun ls hl => ?_)
        refine lv_aload_n hx hb dL_law_3252 rfl (lv_at hl 4 rfl) ?_
        refine w_callI (va_runV (As := []) (rest := []) F (c_X12_thrown l hL_a2 hK_a2 hp H.size) (cwV (C := RX12) 0 hts (wg_V wm_RL_181 wy_X12_thrown) rfl rfl rfl (by decide +kernel) ⟨Nat.le_of_ble_eq_true rfl, Nat.le_of_ble_eq_true rfl⟩) (w_preV hK hW hL_a2 hK_a2 (by decide) rfl) rfl rfl hl.1 rfl (lv_room (Nat.le_of_ble_eq_true rfl)) dL_law_3253 ⟨by show _ ≤ rC; exact Nat.le_trans (Nat.le_add_right _ _) hbc, by show _ ≤ rS; exact Nat.le_trans (Nat.le_add_right _ _) hbs⟩) hW (fun r_683 S_684 H locs hp hW => ?_)
        obtain ⟨hX_S_684, hp⟩ := hp
        refine w_same ?_
        have hE := hE.trans hX_S_684
        have hK_a0 : sK S_684 a0 = 21 := (hX_S_684.2 a0 hL_a0).1.trans hK_a0
        have hL_a0 : wM D S_684 a0 := hX_S_684.M hL_a0
        have hK_a1 : sK S_684 a1 = 16 := (hX_S_684.2 a1 hL_a1).1.trans hK_a1
        have hL_a1 : wM D S_684 a1 := hX_S_684.M hL_a1
        have hK_a2 : sK S_684 a2 = 17 := (hX_S_684.2 a2 hL_a2).1.trans hK_a2
        have hL_a2 : wM D S_684 a2 := hX_S_684.M hL_a2
        have hK_a3 : sK S_684 a3 = 22 := (hX_S_684.2 a3 hL_a3).1.trans hK_a3
        have hL_a3 : wM D S_684 a3 := hX_S_684.M hL_a3
        have hK_a4 : sK S_684 a4 = 25 := (hX_S_684.2 a4 hL_a4).1.trans hK_a4
        have hL_a4 : wM D S_684 a4 := hX_S_684.M hL_a4
        refine lv_iload hx hb dL_law_3256 (lv_at hl 1 rfl) ?_
        refine lv_icmp_eq (tgt := 3263) hx hb dL_law_3258 (by decide) (fun c_685 => ?_) (fun c_685 => ?_)
        · replace hp := hp.1 c_685
          refine lv_iload hx hb dL_law_3263 (lv_at hl 1 rfl) ?_
          refine lv_if_ne (tgt := 3300) hx hb dL_law_3265 (by decide) (fun c_686 => ?_) (fun c_686 => ?_)
          · replace hp := hp.1 c_686
            exact t_L_law_3300 F hr hlocks hK hl0 hQ ih hbc hbs hp hW hE (lv_sub hl [2, 3, 4, 5, 6, 7] rfl) hL_a0 hK_a0 hL_a1 hK_a1 hL_a2 hK_a2 hL_a3 hK_a3 hL_a4 hK_a4
          · replace hp := hp.2 c_686
            refine lv_aload hx hb dL_law_3268 (lv_at hl 6 rfl) ?_
            refine lv_iconst (v := 0) hx hb dL_law_3270 (by decide) ?_
            obtain ⟨h_687, hp⟩ := hp
            refine w_dld F hK hW hL_a4 hK_a4 h_687 dL_law_3271 ?_
            refine lv_dload hx hb dL_law_3272 (lv_at hl 0 rfl) ?_
            refine lv_dcmp hx hb dL_law_3274 ?_
            refine lv_if_eq (tgt := 3300) hx hb dL_law_3275 (by decide) (fun c_688 => ?_) (fun c_688 => ?_)
            · replace hp := hp.1 c_688
              exact t_L_law_3300 F hr hlocks hK hl0 hQ ih hbc hbs hp hW hE (lv_sub hl [2, 3, 4, 5, 6, 7] rfl) hL_a0 hK_a0 hL_a1 hK_a1 hL_a2 hK_a2 hL_a3 hK_a3 hL_a4 hK_a4
            · replace hp := hp.2 c_688
              refine lv_aload hx hb dL_law_3278 (lv_at hl 6 rfl) ?_
              refine lv_iconst (v := 0) hx hb dL_law_3280 (by decide) ?_
              obtain ⟨h_689, hp⟩ := hp
              refine w_dld F hK hW hL_a4 hK_a4 h_689 dL_law_3281 ?_
              refine lv_aload hx hb dL_law_3282 (lv_at hl 6 rfl) ?_
              refine lv_iconst (v := 0) hx hb dL_law_3284 (by decide) ?_
              obtain ⟨h_690, hp⟩ := hp
              refine w_dld F hK hW hL_a4 hK_a4 h_690 dL_law_3285 ?_
              refine lv_dcmp hx hb dL_law_3286 ?_
              refine lv_if_eq (tgt := 3298) hx hb dL_law_3287 (by decide) (fun c_691 => ?_) (fun c_691 => ?_)
              · replace hp := hp.1 c_691
                exact t_L_law_3298 F hr hlocks hK hl0 hQ hbc hbs hp hW hE (lv_sub hl [] rfl)
              · replace hp := hp.2 c_691
                refine lv_dload hx hb dL_law_3290 (lv_at hl 0 rfl) ?_
                refine lv_dload hx hb dL_law_3292 (lv_at hl 0 rfl) ?_
                refine lv_dcmp hx hb dL_law_3294 ?_
                refine lv_if_ne (tgt := 3300) hx hb dL_law_3295 (by decide) (fun c_692 => ?_) (fun c_692 => ?_)
                · replace hp := hp.1 c_692
                  exact t_L_law_3300 F hr hlocks hK hl0 hQ ih hbc hbs hp hW hE (lv_sub hl [2, 3, 4, 5, 6, 7] rfl) hL_a0 hK_a0 hL_a1 hK_a1 hL_a2 hK_a2 hL_a3 hK_a3 hL_a4 hK_a4
                · replace hp := hp.2 c_692
                  exact t_L_law_3298 F hr hlocks hK hl0 hQ hbc hbs hp hW hE (lv_sub hl [] rfl)
        · replace hp := hp.2 c_685
          refine lv_iconst (v := 0) hx hb dL_law_3261 (by decide) ?_
          refine W.widen (k := rC) (n := rS) (Nat.le_trans (Nat.le_add_right _ _) hbc) (Nat.le_trans (Nat.le_add_right _ _) hbs) ?_
          exact hQ hp dL_law_3262 hW
      replace hp := hp.2
      by_cases c_693 : x_3 = 59
      · refine lv_tableIn (tgt := 3303) (x := x_3) (off := 3259) hx hb dL_law_44 (by rw [c_693]; decide) (by rw [c_693]; decide) (by rw [c_693]; decide) (by decide) ?_
        replace hp := hp.1 c_693
        refine lv_aload_n hx hb dL_law_3303 rfl (lv_at hl 1 rfl) ?_
        refine lv_aload_n hx hb dL_law_3304 rfl (lv_at hl 0 rfl) ?_
        refine lv_iload hx hb dL_law_3305 (lv_at hl 5 rfl) ?_
        refine lv_iconst (v := 1) hx hb dL_law_3307 (by decide) ?_
        refine lv_iadd hx hb dL_law_3308 ?_
        obtain ⟨h_694, hp⟩ := hp
        refine w_ild F hK hW hL_a0 hK_a0 h_694 dL_law_3309 ?_
        refine lv_aload hx hb dL_law_3310 (lv_at hl 4 rfl) ?_
        obtain ⟨h_697, h_697z, hp⟩ := hp
        refine x_callI (vx_runSX (As := [.ref a1, .int (sI S a0 ((x5 + (1 : Int32))).toNatClampNeg), .ref a4]) (rest := []) F (c_L_shareWon l hl0 hL_a1 hK_a1 hL_a4 hK_a4 hp H.size) (vx_cwSW 3 hts (wg_S wm_RL_383 wy_L_shareWon) rfl rfl rfl ⟨by decide, by decide, by decide +kernel⟩ ⟨Nat.le_of_ble_eq_true rfl, Nat.le_of_ble_eq_true rfl⟩) (w_preS hK hW) rfl rfl hl.1 rfl (lv_room (Nat.le_of_ble_eq_true rfl)) dL_law_3312 ⟨by show _ + 1 ≤ rC; omega, by show _ + 6 ≤ rS; omega⟩) hW (fun E ce q9 S9 H locs hp hW h1 h2 h3 => hp.elim) (fun r_695 S_696 H locs hp hW => ?_)
        obtain ⟨hX_S_696, hp⟩ := hp
        refine W.widen (k := _ + 1) (n := _ + 6) (Nat.le_refl _) (Nat.le_refl _) ?_
        replace hbc := w_spend hbc (show 1 ≤ bc by omega)
        replace hbs := w_spend hbs (show 6 ≤ bs by omega)
        have hE := hE.trans hX_S_696
        have hK_a0 : sK S_696 a0 = 21 := (hX_S_696.2 a0 hL_a0).1.trans hK_a0
        have hL_a0 : wM D S_696 a0 := hX_S_696.M hL_a0
        have hK_a1 : sK S_696 a1 = 16 := (hX_S_696.2 a1 hL_a1).1.trans hK_a1
        have hL_a1 : wM D S_696 a1 := hX_S_696.M hL_a1
        have hK_a2 : sK S_696 a2 = 17 := (hX_S_696.2 a2 hL_a2).1.trans hK_a2
        have hL_a2 : wM D S_696 a2 := hX_S_696.M hL_a2
        have hK_a3 : sK S_696 a3 = 22 := (hX_S_696.2 a3 hL_a3).1.trans hK_a3
        have hL_a3 : wM D S_696 a3 := hX_S_696.M hL_a3
        have hK_a4 : sK S_696 a4 = 25 := (hX_S_696.2 a4 hL_a4).1.trans hK_a4
        have hL_a4 : wM D S_696 a4 := hX_S_696.M hL_a4
        refine lv_istore (lv' := [(6, .int r_695), (0, .ref a0), (1, .ref a1), (2, .ref a2), (3, .ref a3), (4, .ref a4), (5, .int x5)]) hx hb dL_law_3315 hl (by decide) rfl (fun ls hl => ?_)
        refine lv_aload_n hx hb dL_law_3317 rfl (lv_at hl 3 rfl) ?_
        refine lv_aload_n hx hb dL_law_3318 rfl (lv_at hl 1 rfl) ?_
        refine lv_iload hx hb dL_law_3319 (lv_at hl 6 rfl) ?_
        refine lv_iconst (v := 1) hx hb dL_law_3321 (by decide) ?_
        refine lv_iadd hx hb dL_law_3322 ?_
        obtain ⟨h_698, hp⟩ := hp
        refine w_ild F hK hW hL_a0 hK_a0 h_698 dL_law_3323 ?_
        refine w_callF (va_runV (As := [.int (sI S_696 a0 ((x5 + (1 : Int32))).toNatClampNeg)]) (rest := []) F (c_X12_shareWon l hL_a2 hK_a2 hp H.size) (cwV (C := RX12) 1 hts (wg_V wm_RL_385 wy_X12_shareWon) rfl rfl rfl (by decide +kernel) ⟨Nat.le_of_ble_eq_true rfl, Nat.le_of_ble_eq_true rfl⟩) (w_preV hK hW hL_a2 hK_a2 (by decide) rfl) rfl rfl hl.1 rfl (lv_room (Nat.le_of_ble_eq_true rfl)) dL_law_3324 ⟨by show _ ≤ rC; exact Nat.le_trans (Nat.le_add_right _ _) hbc, by show _ ≤ rS; exact Nat.le_trans (Nat.le_add_right _ _) hbs⟩) hW (fun r_699 S_700 H locs hp hW => ?_)
        obtain ⟨hX_S_700, hp⟩ := hp
        refine w_same ?_
        have hE := hE.trans hX_S_700
        have hK_a0 : sK S_700 a0 = 21 := (hX_S_700.2 a0 hL_a0).1.trans hK_a0
        have hL_a0 : wM D S_700 a0 := hX_S_700.M hL_a0
        have hK_a1 : sK S_700 a1 = 16 := (hX_S_700.2 a1 hL_a1).1.trans hK_a1
        have hL_a1 : wM D S_700 a1 := hX_S_700.M hL_a1
        have hK_a2 : sK S_700 a2 = 17 := (hX_S_700.2 a2 hL_a2).1.trans hK_a2
        have hL_a2 : wM D S_700 a2 := hX_S_700.M hL_a2
        have hK_a3 : sK S_700 a3 = 22 := (hX_S_700.2 a3 hL_a3).1.trans hK_a3
        have hL_a3 : wM D S_700 a3 := hX_S_700.M hL_a3
        have hK_a4 : sK S_700 a4 = 25 := (hX_S_700.2 a4 hL_a4).1.trans hK_a4
        have hL_a4 : wM D S_700 a4 := hX_S_700.M hL_a4
        refine lv_fstore (lv' := [(7, .float r_699), (6, .int r_695), (0, .ref a0), (1, .ref a1), (2, .ref a2), (3, .ref a3), (4, .ref a4), (5, .int x5)]) hx hb dL_law_3327 hl (by decide) rfl (fun ls hl => ?_)
        refine lv_aload_n hx hb dL_law_3329 rfl (lv_at hl 4 rfl) ?_
        refine w_callI (va_runV (As := []) (rest := []) F (c_X12_thrown l hL_a2 hK_a2 hp H.size) (cwV (C := RX12) 0 hts (wg_V wm_RL_181 wy_X12_thrown) rfl rfl rfl (by decide +kernel) ⟨Nat.le_of_ble_eq_true rfl, Nat.le_of_ble_eq_true rfl⟩) (w_preV hK hW hL_a2 hK_a2 (by decide) rfl) rfl rfl hl.1 rfl (lv_room (Nat.le_of_ble_eq_true rfl)) dL_law_3330 ⟨by show _ ≤ rC; exact Nat.le_trans (Nat.le_add_right _ _) hbc, by show _ ≤ rS; exact Nat.le_trans (Nat.le_add_right _ _) hbs⟩) hW (fun r_701 S_702 H locs hp hW => ?_)
        obtain ⟨hX_S_702, hp⟩ := hp
        refine w_same ?_
        have hE := hE.trans hX_S_702
        have hK_a0 : sK S_702 a0 = 21 := (hX_S_702.2 a0 hL_a0).1.trans hK_a0
        have hL_a0 : wM D S_702 a0 := hX_S_702.M hL_a0
        have hK_a1 : sK S_702 a1 = 16 := (hX_S_702.2 a1 hL_a1).1.trans hK_a1
        have hL_a1 : wM D S_702 a1 := hX_S_702.M hL_a1
        have hK_a2 : sK S_702 a2 = 17 := (hX_S_702.2 a2 hL_a2).1.trans hK_a2
        have hL_a2 : wM D S_702 a2 := hX_S_702.M hL_a2
        have hK_a3 : sK S_702 a3 = 22 := (hX_S_702.2 a3 hL_a3).1.trans hK_a3
        have hL_a3 : wM D S_702 a3 := hX_S_702.M hL_a3
        have hK_a4 : sK S_702 a4 = 25 := (hX_S_702.2 a4 hL_a4).1.trans hK_a4
        have hL_a4 : wM D S_702 a4 := hX_S_702.M hL_a4
        refine lv_iload hx hb dL_law_3333 (lv_at hl 1 rfl) ?_
        refine lv_icmp_eq (tgt := 3340) hx hb dL_law_3335 (by decide) (fun c_703 => ?_) (fun c_703 => ?_)
        · replace hp := hp.1 c_703
          refine lv_iload hx hb dL_law_3340 (lv_at hl 1 rfl) ?_
          refine lv_if_ne (tgt := 3378) hx hb dL_law_3342 (by decide) (fun c_704 => ?_) (fun c_704 => ?_)
          · replace hp := hp.1 c_704
            exact t_L_law_3378 F hr hlocks hK hl0 hQ ih hbc hbs hp hW hE (lv_sub hl [2, 3, 4, 5, 6, 7] rfl) hL_a0 hK_a0 hL_a1 hK_a1 hL_a2 hK_a2 hL_a3 hK_a3 hL_a4 hK_a4
          · replace hp := hp.2 c_704
            refine lv_aload hx hb dL_law_3345 (lv_at hl 6 rfl) ?_
            refine lv_iconst (v := 0) hx hb dL_law_3347 (by decide) ?_
            obtain ⟨h_705, hp⟩ := hp
            refine w_dld F hK hW hL_a4 hK_a4 h_705 dL_law_3348 ?_
            refine lv_fload hx hb dL_law_3349 (lv_at hl 0 rfl) ?_
            obtain ⟨h_706, hp⟩ := hp
            refine lv_f2d hx hb dL_law_3351 h_706 ?_
            refine lv_dcmp hx hb dL_law_3352 ?_
            refine lv_if_eq (tgt := 3378) hx hb dL_law_3353 (by decide) (fun c_707 => ?_) (fun c_707 => ?_)
            · replace hp := hp.1 c_707
              exact t_L_law_3378 F hr hlocks hK hl0 hQ ih hbc hbs hp hW hE (lv_sub hl [2, 3, 4, 5, 6, 7] rfl) hL_a0 hK_a0 hL_a1 hK_a1 hL_a2 hK_a2 hL_a3 hK_a3 hL_a4 hK_a4
            · replace hp := hp.2 c_707
              refine lv_aload hx hb dL_law_3356 (lv_at hl 6 rfl) ?_
              refine lv_iconst (v := 0) hx hb dL_law_3358 (by decide) ?_
              obtain ⟨h_708, hp⟩ := hp
              refine w_dld F hK hW hL_a4 hK_a4 h_708 dL_law_3359 ?_
              refine lv_aload hx hb dL_law_3360 (lv_at hl 6 rfl) ?_
              refine lv_iconst (v := 0) hx hb dL_law_3362 (by decide) ?_
              obtain ⟨h_709, hp⟩ := hp
              refine w_dld F hK hW hL_a4 hK_a4 h_709 dL_law_3363 ?_
              refine lv_dcmp hx hb dL_law_3364 ?_
              refine lv_if_eq (tgt := 3376) hx hb dL_law_3365 (by decide) (fun c_710 => ?_) (fun c_710 => ?_)
              · replace hp := hp.1 c_710
                exact t_L_law_3376 F hr hlocks hK hl0 hQ hbc hbs hp hW hE (lv_sub hl [] rfl)
              · replace hp := hp.2 c_710
                refine lv_fload hx hb dL_law_3368 (lv_at hl 0 rfl) ?_
                refine lv_fload hx hb dL_law_3370 (lv_at hl 0 rfl) ?_
                refine lv_fcmp hx hb dL_law_3372 ?_
                refine lv_if_ne (tgt := 3378) hx hb dL_law_3373 (by decide) (fun c_711 => ?_) (fun c_711 => ?_)
                · replace hp := hp.1 c_711
                  exact t_L_law_3378 F hr hlocks hK hl0 hQ ih hbc hbs hp hW hE (lv_sub hl [2, 3, 4, 5, 6, 7] rfl) hL_a0 hK_a0 hL_a1 hK_a1 hL_a2 hK_a2 hL_a3 hK_a3 hL_a4 hK_a4
                · replace hp := hp.2 c_711
                  exact t_L_law_3376 F hr hlocks hK hl0 hQ hbc hbs hp hW hE (lv_sub hl [] rfl)
        · replace hp := hp.2 c_703
          refine lv_iconst (v := 0) hx hb dL_law_3338 (by decide) ?_
          refine W.widen (k := rC) (n := rS) (Nat.le_trans (Nat.le_add_right _ _) hbc) (Nat.le_trans (Nat.le_add_right _ _) hbs) ?_
          exact hQ hp dL_law_3339 hW
      replace hp := hp.2
      by_cases c_712 : x_3 = 60
      · refine lv_tableIn (tgt := 3381) (x := x_3) (off := 3337) hx hb dL_law_44 (by rw [c_712]; decide) (by rw [c_712]; decide) (by rw [c_712]; decide) (by decide) ?_
        replace hp := hp.1 c_712
        refine lv_aload_n hx hb dL_law_3381 rfl (lv_at hl 1 rfl) ?_
        refine w_callI (va_runV (As := []) (rest := []) F (c_X11_errors l hL_a1 hK_a1 hp H.size) (cwV (C := RX11) 0 hts (wg_V wm_RL_386 wy_X11_errors) rfl rfl rfl (by decide +kernel) ⟨Nat.le_of_ble_eq_true rfl, Nat.le_of_ble_eq_true rfl⟩) (w_preV hK hW hL_a1 hK_a1 (by decide) rfl) rfl rfl hl.1 rfl (lv_room (Nat.le_of_ble_eq_true rfl)) dL_law_3382 ⟨by show _ ≤ rC; exact Nat.le_trans (Nat.le_add_right _ _) hbc, by show _ ≤ rS; exact Nat.le_trans (Nat.le_add_right _ _) hbs⟩) hW (fun r_713 S_714 H locs hp hW => ?_)
        obtain ⟨hX_S_714, hp⟩ := hp
        refine w_same ?_
        have hE := hE.trans hX_S_714
        have hK_a0 : sK S_714 a0 = 21 := (hX_S_714.2 a0 hL_a0).1.trans hK_a0
        have hL_a0 : wM D S_714 a0 := hX_S_714.M hL_a0
        have hK_a1 : sK S_714 a1 = 16 := (hX_S_714.2 a1 hL_a1).1.trans hK_a1
        have hL_a1 : wM D S_714 a1 := hX_S_714.M hL_a1
        have hK_a2 : sK S_714 a2 = 17 := (hX_S_714.2 a2 hL_a2).1.trans hK_a2
        have hL_a2 : wM D S_714 a2 := hX_S_714.M hL_a2
        have hK_a3 : sK S_714 a3 = 22 := (hX_S_714.2 a3 hL_a3).1.trans hK_a3
        have hL_a3 : wM D S_714 a3 := hX_S_714.M hL_a3
        have hK_a4 : sK S_714 a4 = 25 := (hX_S_714.2 a4 hL_a4).1.trans hK_a4
        have hL_a4 : wM D S_714 a4 := hX_S_714.M hL_a4
        refine lv_aload_n hx hb dL_law_3385 rfl (lv_at hl 2 rfl) ?_
        refine w_callI (va_runV (As := []) (rest := [.int r_713]) F (c_X12_errors l hL_a2 hK_a2 hp H.size) (cwV (C := RX12) 0 hts (wg_V wm_RL_389 wy_X12_errors) rfl rfl rfl (by decide +kernel) ⟨Nat.le_of_ble_eq_true rfl, Nat.le_of_ble_eq_true rfl⟩) (w_preV hK hW hL_a2 hK_a2 (by decide) rfl) rfl rfl hl.1 rfl (lv_room (Nat.le_of_ble_eq_true rfl)) dL_law_3386 ⟨by show _ ≤ rC; exact Nat.le_trans (Nat.le_add_right _ _) hbc, by show _ ≤ rS; exact Nat.le_trans (Nat.le_add_right _ _) hbs⟩) hW (fun r_715 S_716 H locs hp hW => ?_)
        obtain ⟨hX_S_716, hp⟩ := hp
        refine w_same ?_
        have hE := hE.trans hX_S_716
        have hK_a0 : sK S_716 a0 = 21 := (hX_S_716.2 a0 hL_a0).1.trans hK_a0
        have hL_a0 : wM D S_716 a0 := hX_S_716.M hL_a0
        have hK_a1 : sK S_716 a1 = 16 := (hX_S_716.2 a1 hL_a1).1.trans hK_a1
        have hL_a1 : wM D S_716 a1 := hX_S_716.M hL_a1
        have hK_a2 : sK S_716 a2 = 17 := (hX_S_716.2 a2 hL_a2).1.trans hK_a2
        have hL_a2 : wM D S_716 a2 := hX_S_716.M hL_a2
        have hK_a3 : sK S_716 a3 = 22 := (hX_S_716.2 a3 hL_a3).1.trans hK_a3
        have hL_a3 : wM D S_716 a3 := hX_S_716.M hL_a3
        have hK_a4 : sK S_716 a4 = 25 := (hX_S_716.2 a4 hL_a4).1.trans hK_a4
        have hL_a4 : wM D S_716 a4 := hX_S_716.M hL_a4
        refine lv_icmp_eq (tgt := 3394) hx hb dL_law_3389 (by decide) (fun c_717 => ?_) (fun c_717 => ?_)
        · replace hp := hp.1 c_717
          exact t_L_law_3394 F hr hlocks hK hl0 hQ ih hbc hbs hp hW hE (lv_sub hl [0, 1, 2, 3, 4, 5] rfl) hL_a0 hK_a0 hL_a1 hK_a1 hL_a2 hK_a2 hL_a3 hK_a3 hL_a4 hK_a4
        · replace hp := hp.2 c_717
          refine lv_iconst (v := 0) hx hb dL_law_3392 (by decide) ?_
          refine W.widen (k := rC) (n := rS) (Nat.le_trans (Nat.le_add_right _ _) hbc) (Nat.le_trans (Nat.le_add_right _ _) hbs) ?_
          exact hQ hp dL_law_3393 hW
      replace hp := hp.2
      replace hp := hp c_4 c_20 c_26 c_42 c_45 c_58 c_72 c_78 c_84 c_90 c_96 c_100 c_112 c_126 c_134 c_148 c_151 c_165 c_177 c_191 c_205 c_219 c_234 c_248 c_260 c_266 c_278 c_284 c_288 c_305 c_313 c_325 c_338 c_344 c_365 c_379 c_395 c_409 c_423 c_439 c_457 c_461 c_475 c_491 c_507 c_523 c_539 c_547 c_563 c_569 c_583 c_595 c_607 c_619 c_634 c_646 c_660 c_672 c_675 c_693 c_712
      refine lv_tableOut (tgt := 3394) hx hb dL_law_44 (w_out (lo := 0) (hi := 60) (by decide) (by decide) (fun v h1 h2 => by have h3 : v = 0 ∨ v = 1 ∨ v = 2 ∨ v = 3 ∨ v = 4 ∨ v = 5 ∨ v = 6 ∨ v = 7 ∨ v = 8 ∨ v = 9 ∨ v = 10 ∨ v = 11 ∨ v = 12 ∨ v = 13 ∨ v = 14 ∨ v = 15 ∨ v = 16 ∨ v = 17 ∨ v = 18 ∨ v = 19 ∨ v = 20 ∨ v = 21 ∨ v = 22 ∨ v = 23 ∨ v = 24 ∨ v = 25 ∨ v = 26 ∨ v = 27 ∨ v = 28 ∨ v = 29 ∨ v = 30 ∨ v = 31 ∨ v = 32 ∨ v = 33 ∨ v = 34 ∨ v = 35 ∨ v = 36 ∨ v = 37 ∨ v = 38 ∨ v = 39 ∨ v = 40 ∨ v = 41 ∨ v = 42 ∨ v = 43 ∨ v = 44 ∨ v = 45 ∨ v = 46 ∨ v = 47 ∨ v = 48 ∨ v = 49 ∨ v = 50 ∨ v = 51 ∨ v = 52 ∨ v = 53 ∨ v = 54 ∨ v = 55 ∨ v = 56 ∨ v = 57 ∨ v = 58 ∨ v = 59 ∨ v = 60 := (by omega); rcases h3 with rfl | rfl | rfl | rfl | rfl | rfl | rfl | rfl | rfl | rfl | rfl | rfl | rfl | rfl | rfl | rfl | rfl | rfl | rfl | rfl | rfl | rfl | rfl | rfl | rfl | rfl | rfl | rfl | rfl | rfl | rfl | rfl | rfl | rfl | rfl | rfl | rfl | rfl | rfl | rfl | rfl | rfl | rfl | rfl | rfl | rfl | rfl | rfl | rfl | rfl | rfl | rfl | rfl | rfl | rfl | rfl | rfl | rfl | rfl | rfl | rfl <;> (intro q; first | exact c_4 q | exact c_20 q | exact c_26 q | exact c_42 q | exact c_45 q | exact c_58 q | exact c_72 q | exact c_78 q | exact c_84 q | exact c_90 q | exact c_96 q | exact c_100 q | exact c_112 q | exact c_126 q | exact c_134 q | exact c_148 q | exact c_151 q | exact c_165 q | exact c_177 q | exact c_191 q | exact c_205 q | exact c_219 q | exact c_234 q | exact c_248 q | exact c_260 q | exact c_266 q | exact c_278 q | exact c_284 q | exact c_288 q | exact c_305 q | exact c_313 q | exact c_325 q | exact c_338 q | exact c_344 q | exact c_365 q | exact c_379 q | exact c_395 q | exact c_409 q | exact c_423 q | exact c_439 q | exact c_457 q | exact c_461 q | exact c_475 q | exact c_491 q | exact c_507 q | exact c_523 q | exact c_539 q | exact c_547 q | exact c_563 q | exact c_569 q | exact c_583 q | exact c_595 q | exact c_607 q | exact c_619 q | exact c_634 q | exact c_646 q | exact c_660 q | exact c_672 q | exact c_675 q | exact c_693 q | exact c_712 q))) (by decide) ?_
      exact t_L_law_3394 F hr hlocks hK hl0 hQ ih hbc hbs hp hW hE (lv_sub hl [0, 1, 2, 3, 4, 5] rfl) hL_a0 hK_a0 hL_a1 hK_a1 hL_a2 hK_a2 hL_a3 hK_a3 hL_a4 hK_a4
set_option maxHeartbeats 4000000 in
set_option maxRecDepth 100000 in
theorem t_L_law_0 {p : Program} {l : Launch} {e : Env} {s : State} {m : MethodId} {args : Array Value} {below : List Frame} {meth : Method} {c : Code} {D : wD} {cy : Nat → ClassId} {X : va_W} {A : Nat → Prop} {S0 : wS} {rC rS : Nat} {post : Int32 → wS → Prop} (F : CallFix p m c cL_law 9 s args wz_L_law RL) (hr : meth.sig.returnType = (some .boolean)) (hlocks : meth.locks = false) (hK : wK D cy A s) (hl0 : l.stackTraces = false) {Q : State → Prop} (hQ : ∀ {pc : Nat} {H : Heap} {locs : List Loc} {ls : Array Slot} {S : wS} {r : Int32}, post r S → decode cL_law pc = .ok (.ireturn, 1) → wO D cy X A s.heap S H locs → W p l e (r_L_law rC rS) s m args below meth c H locs rC rS Q (F0 m pc ls [.int r])) : ∀ {bc bs cells slots : Nat} (hbc : cells + bc ≤ rC) (hbs : slots + bs ≤ rS) {S : wS} {H : Heap} {locs : List Loc} {ls : Array Slot} {a0 : Nat}, wp_L_law_0 D post bc bs S a0 → wO D cy X A s.heap S H locs → wX D S0 S → lv_has ls 9 [(0, .ref a0)] → wM D S a0 → sK S a0 = 21 → W p l e (r_L_law rC rS) s m args below meth c H locs cells slots Q (F0 m 0 ls []) := by
  obtain ⟨hx, hb, hml, hown, hts⟩ := id F
  have hwg : ∀ w ∈ WG, w.before args s = true := fun w h => hts w (List.mem_cons_of_mem _ h)
  intro bc bs cells slots hbc hbs S H locs ls a0 hp hW hE hl hL_a0 hK_a0
  unfold wp_L_law_0 at hp
  obtain ⟨h_3, h_3b, hp⟩ := hp
  refine w_new (k := 16) (T := TX11) F hK hW rfl (by decide) (fun w h => List.mem_cons_of_mem _ (wu_16 w h)) tyX11 tyX11_ok (hwg _ wc_RL_8) (hwg _ wn_16) (hwg _ wi_OpeningsCabinet) wdef_16 (by show _ ≤ rC; omega) (by show _ ≤ rS; omega) dL_law_0 (fun y_1 H hq_y_1 hW => ?_)
  replace hbc := w_spend hbc (show 1 ≤ bc by omega)
  replace hbs := w_spend hbs (show 18 ≤ bs by omega)
  obtain ⟨S_2, eS_2⟩ : ∃ z : wS, z = nA S y_1 16 0 := ⟨_, rfl⟩
  rw [← eS_2] at hW
  replace hp := hp y_1 hq_y_1 S_2 eS_2
  have hX_S_2 : wX D S S_2 := by rw [eS_2]; exact wX_nA hq_y_1
  have hE := hE.trans hX_S_2
  have hK_a0 : sK S_2 a0 = 21 := (hX_S_2.2 a0 hL_a0).1.trans hK_a0
  have hL_a0 : wM D S_2 a0 := hX_S_2.M hL_a0
  have hL_y_1 : wM D S_2 y_1 := by rw [eS_2]; exact Or.inl (List.mem_append_right _ List.mem_cons_self)
  have hK_y_1 : sK S_2 y_1 = 16 := by rw [eS_2]; exact va_up_self _ _ _
  refine lv_dup hx hb dL_law_3 rfl ?_
  obtain ⟨m_6, z_7, hm_6, hz_7, hp⟩ := hp
  refine w_callV (va_runI (As := []) (rest := [.ref y_1]) F (c_X11_init l hL_y_1 hK_y_1 hp H.size) (cwI 0 hts (wg_cons wy_X11_init.2.2) rfl rfl rfl (hwg _ wy_X11_init.2.1) (hwg _ wm_RL_171) (hwg _ wy_X11_init.1) rfl (by decide +kernel) ⟨Nat.le_of_ble_eq_true rfl, Nat.le_of_ble_eq_true rfl⟩) (w_preS hK hW) rfl rfl hl.1 rfl (lv_room (Nat.le_of_ble_eq_true rfl)) dL_law_4 ⟨by show _ + m_6 ≤ rC; omega, by show _ + z_7 ≤ rS; omega⟩) hW (fun S_5 H locs hp hW => ?_)
  obtain ⟨hX_S_5, hp⟩ := hp
  refine W.widen (k := _ + m_6) (n := _ + z_7) (Nat.le_refl _) (Nat.le_refl _) ?_
  replace hbc := w_spend hbc (show m_6 ≤ (bc - 1) by omega)
  replace hbs := w_spend hbs (show z_7 ≤ (bs - 18) by omega)
  have hE := hE.trans hX_S_5
  have hK_a0 : sK S_5 a0 = 21 := (hX_S_5.2 a0 hL_a0).1.trans hK_a0
  have hL_a0 : wM D S_5 a0 := hX_S_5.M hL_a0
  have hK_y_1 : sK S_5 y_1 = 16 := (hX_S_5.2 y_1 hL_y_1).1.trans hK_y_1
  have hL_y_1 : wM D S_5 y_1 := hX_S_5.M hL_y_1
  refine lv_astore_n (lv' := [(1, .ref y_1), (0, .ref a0)]) hx hb dL_law_7 rfl hl (by decide) rfl (fun ls hl => ?_)
  obtain ⟨h_10, h_10b, hp⟩ := hp
  refine w_new (k := 17) (T := TX12) F hK hW rfl (by decide) (fun w h => List.mem_cons_of_mem _ (wu_17 w h)) tyX12 tyX12_ok (hwg _ wc_RL_172) (hwg _ wn_17) (hwg _ wi_OpeningsCabinetModel) wdef_17 (by show _ ≤ rC; omega) (by show _ ≤ rS; omega) dL_law_8 (fun y_8 H hq_y_8 hW => ?_)
  replace hbc := w_spend hbc (show 1 ≤ ((bc - 1) - m_6) by omega)
  replace hbs := w_spend hbs (show 43 ≤ ((bs - 18) - z_7) by omega)
  obtain ⟨S_9, eS_9⟩ : ∃ z : wS, z = nA S_5 y_8 17 0 := ⟨_, rfl⟩
  rw [← eS_9] at hW
  replace hp := hp y_8 hq_y_8 S_9 eS_9
  have hX_S_9 : wX D S_5 S_9 := by rw [eS_9]; exact wX_nA hq_y_8
  have hE := hE.trans hX_S_9
  have hK_a0 : sK S_9 a0 = 21 := (hX_S_9.2 a0 hL_a0).1.trans hK_a0
  have hL_a0 : wM D S_9 a0 := hX_S_9.M hL_a0
  have hK_y_1 : sK S_9 y_1 = 16 := (hX_S_9.2 y_1 hL_y_1).1.trans hK_y_1
  have hL_y_1 : wM D S_9 y_1 := hX_S_9.M hL_y_1
  have hL_y_8 : wM D S_9 y_8 := by rw [eS_9]; exact Or.inl (List.mem_append_right _ List.mem_cons_self)
  have hK_y_8 : sK S_9 y_8 = 17 := by rw [eS_9]; exact va_up_self _ _ _
  refine lv_dup hx hb dL_law_11 rfl ?_
  obtain ⟨h_13, h_13z, hp⟩ := hp
  refine w_callV (va_runI (As := []) (rest := [.ref y_8]) F (c_X12_init l hL_y_8 hK_y_8 hp H.size) (cwI 0 hts (wg_cons wy_X12_init.2.2) rfl rfl rfl (hwg _ wy_X12_init.2.1) (hwg _ wm_RL_174) (hwg _ wy_X12_init.1) rfl (by decide +kernel) ⟨Nat.le_of_ble_eq_true rfl, Nat.le_of_ble_eq_true rfl⟩) (w_preS hK hW) rfl rfl hl.1 rfl (lv_room (Nat.le_of_ble_eq_true rfl)) dL_law_12 ⟨by show _ + 29 ≤ rC; omega, by show _ + 586881 ≤ rS; omega⟩) hW (fun S_12 H locs hp hW => ?_)
  obtain ⟨hX_S_12, hp⟩ := hp
  refine W.widen (k := _ + 29) (n := _ + 586881) (Nat.le_refl _) (Nat.le_refl _) ?_
  replace hbc := w_spend hbc (show 29 ≤ (((bc - 1) - m_6) - 1) by omega)
  replace hbs := w_spend hbs (show 586881 ≤ (((bs - 18) - z_7) - 43) by omega)
  have hE := hE.trans hX_S_12
  have hK_a0 : sK S_12 a0 = 21 := (hX_S_12.2 a0 hL_a0).1.trans hK_a0
  have hL_a0 : wM D S_12 a0 := hX_S_12.M hL_a0
  have hK_y_1 : sK S_12 y_1 = 16 := (hX_S_12.2 y_1 hL_y_1).1.trans hK_y_1
  have hL_y_1 : wM D S_12 y_1 := hX_S_12.M hL_y_1
  have hK_y_8 : sK S_12 y_8 = 17 := (hX_S_12.2 y_8 hL_y_8).1.trans hK_y_8
  have hL_y_8 : wM D S_12 y_8 := hX_S_12.M hL_y_8
  refine lv_astore_n (lv' := [(2, .ref y_8), (1, .ref y_1), (0, .ref a0)]) hx hb dL_law_15 rfl hl (by decide) rfl (fun ls hl => ?_)
  refine lv_iconst (v := 1) hx hb dL_law_16 (by decide) ?_
  obtain ⟨h_16, h_16b, h_16c, h_16d, hp⟩ := hp
  refine w_newaJ F hK hW (hwg _ wr_long) h_16 h_16b (by show _ ≤ rC; omega) (by show _ ≤ rS; omega) dL_law_17 (fun y_14 H hq_y_14 hW => ?_)
  replace hbc := w_spend hbc (show 1 ≤ ((((bc - 1) - m_6) - 1) - 29) by omega)
  replace hbs := w_spend hbs (show ((1 : Int32)).toNatClampNeg ≤ ((((bs - 18) - z_7) - 43) - 586881) by omega)
  obtain ⟨S_15, eS_15⟩ : ∃ z : wS, z = nA S_12 y_14 22 ((1 : Int32)).toNatClampNeg := ⟨_, rfl⟩
  rw [← eS_15] at hW
  replace hp := hp y_14 hq_y_14 S_15 eS_15
  have hX_S_15 : wX D S_12 S_15 := by rw [eS_15]; exact wX_nA hq_y_14
  have hE := hE.trans hX_S_15
  have hK_a0 : sK S_15 a0 = 21 := (hX_S_15.2 a0 hL_a0).1.trans hK_a0
  have hL_a0 : wM D S_15 a0 := hX_S_15.M hL_a0
  have hK_y_1 : sK S_15 y_1 = 16 := (hX_S_15.2 y_1 hL_y_1).1.trans hK_y_1
  have hL_y_1 : wM D S_15 y_1 := hX_S_15.M hL_y_1
  have hK_y_8 : sK S_15 y_8 = 17 := (hX_S_15.2 y_8 hL_y_8).1.trans hK_y_8
  have hL_y_8 : wM D S_15 y_8 := hX_S_15.M hL_y_8
  have hL_y_14 : wM D S_15 y_14 := by rw [eS_15]; exact Or.inl (List.mem_append_right _ List.mem_cons_self)
  have hK_y_14 : sK S_15 y_14 = 22 := by rw [eS_15]; exact va_up_self _ _ _
  refine lv_astore_n (lv' := [(3, .ref y_14), (2, .ref y_8), (1, .ref y_1), (0, .ref a0)]) hx hb dL_law_19 rfl hl (by decide) rfl (fun ls hl => ?_)
  refine lv_iconst (v := 1) hx hb dL_law_20 (by decide) ?_
  obtain ⟨h_19, h_19b, h_19c, h_19d, hp⟩ := hp
  refine w_newaD F hK hW (hwg _ wr_double) h_19 h_19b (by show _ ≤ rC; omega) (by show _ ≤ rS; omega) dL_law_21 (fun y_17 H hq_y_17 hW => ?_)
  replace hbc := w_spend hbc (show 1 ≤ (((((bc - 1) - m_6) - 1) - 29) - 1) by omega)
  replace hbs := w_spend hbs (show ((1 : Int32)).toNatClampNeg ≤ (((((bs - 18) - z_7) - 43) - 586881) - ((1 : Int32)).toNatClampNeg) by omega)
  obtain ⟨S_18, eS_18⟩ : ∃ z : wS, z = nA S_15 y_17 25 ((1 : Int32)).toNatClampNeg := ⟨_, rfl⟩
  rw [← eS_18] at hW
  replace hp := hp y_17 hq_y_17 S_18 eS_18
  have hX_S_18 : wX D S_15 S_18 := by rw [eS_18]; exact wX_nA hq_y_17
  have hE := hE.trans hX_S_18
  have hK_a0 : sK S_18 a0 = 21 := (hX_S_18.2 a0 hL_a0).1.trans hK_a0
  have hL_a0 : wM D S_18 a0 := hX_S_18.M hL_a0
  have hK_y_1 : sK S_18 y_1 = 16 := (hX_S_18.2 y_1 hL_y_1).1.trans hK_y_1
  have hL_y_1 : wM D S_18 y_1 := hX_S_18.M hL_y_1
  have hK_y_8 : sK S_18 y_8 = 17 := (hX_S_18.2 y_8 hL_y_8).1.trans hK_y_8
  have hL_y_8 : wM D S_18 y_8 := hX_S_18.M hL_y_8
  have hK_y_14 : sK S_18 y_14 = 22 := (hX_S_18.2 y_14 hL_y_14).1.trans hK_y_14
  have hL_y_14 : wM D S_18 y_14 := hX_S_18.M hL_y_14
  have hL_y_17 : wM D S_18 y_17 := by rw [eS_18]; exact Or.inl (List.mem_append_right _ List.mem_cons_self)
  have hK_y_17 : sK S_18 y_17 = 25 := by rw [eS_18]; exact va_up_self _ _ _
  refine lv_astore (lv' := [(4, .ref y_17), (3, .ref y_14), (2, .ref y_8), (1, .ref y_1), (0, .ref a0)]) hx hb dL_law_23 hl (by decide) rfl (fun ls hl => ?_)
  refine lv_iconst (v := 0) hx hb dL_law_25 (by decide) ?_
  refine lv_istore (lv' := [(5, .int (0 : Int32)), (4, .ref y_17), (3, .ref y_14), (2, .ref y_8), (1, .ref y_1), (0, .ref a0)]) hx hb dL_law_26 hl (by decide) rfl (fun ls hl => ?_)
  obtain ⟨n_20, hp⟩ := hp
  exact t_L_law_28 F hr hlocks hK hl0 hQ n_20 hbc hbs hp hW hE (lv_sub hl [5, 4, 3, 2, 1, 0] rfl) hL_a0 hK_a0 hL_y_1 hK_y_1 hL_y_8 hK_y_8 hL_y_14 hK_y_14 hL_y_17 hK_y_17
