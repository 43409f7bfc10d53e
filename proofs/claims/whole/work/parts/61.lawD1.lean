/-! DECODE ROWS of the law, by program. -/
theorem dd_L_law_360 : decode L_law.2.1 360 = .ok (.invokevirtual 48, 3) := by decide +kernel
theorem dd_L_law_363 : decode L_law.2.1 363 = .ok (.if_icmp .eq 628, 3) := by decide +kernel
theorem dd_L_law_368 : decode L_law.2.1 368 = .ok (.aload_n 1, 1) := by decide +kernel
theorem dd_L_law_369 : decode L_law.2.1 369 = .ok (.aload_n 0, 1) := by decide +kernel
theorem dd_L_law_370 : decode L_law.2.1 370 = .ok (.iload_n 3, 1) := by decide +kernel
theorem dd_L_law_371 : decode L_law.2.1 371 = .ok (.iconst 1, 1) := by decide +kernel
theorem dd_L_law_372 : decode L_law.2.1 372 = .ok (.iadd, 1) := by decide +kernel
theorem dd_L_law_373 : decode L_law.2.1 373 = .ok (.iaload, 1) := by decide +kernel
theorem dd_L_law_374 : decode L_law.2.1 374 = .ok (.invokevirtual 49, 3) := by decide +kernel
theorem dd_L_law_377 : decode L_law.2.1 377 = .ok (.aload_n 2, 1) := by decide +kernel
theorem dd_L_law_378 : decode L_law.2.1 378 = .ok (.aload_n 0, 1) := by decide +kernel
theorem dd_L_law_379 : decode L_law.2.1 379 = .ok (.iload_n 3, 1) := by decide +kernel
theorem dd_L_law_380 : decode L_law.2.1 380 = .ok (.iconst 1, 1) := by decide +kernel
theorem dd_L_law_381 : decode L_law.2.1 381 = .ok (.iadd, 1) := by decide +kernel
theorem dd_L_law_382 : decode L_law.2.1 382 = .ok (.iaload, 1) := by decide +kernel
theorem dd_L_law_383 : decode L_law.2.1 383 = .ok (.invokevirtual 52, 3) := by decide +kernel
theorem dd_L_law_386 : decode L_law.2.1 386 = .ok (.if_icmp .eq 605, 3) := by decide +kernel
theorem dd_L_law_391 : decode L_law.2.1 391 = .ok (.aload_n 1, 1) := by decide +kernel
theorem dd_L_law_392 : decode L_law.2.1 392 = .ok (.aload_n 0, 1) := by decide +kernel
theorem dd_L_law_393 : decode L_law.2.1 393 = .ok (.iload_n 3, 1) := by decide +kernel
theorem dd_L_law_394 : decode L_law.2.1 394 = .ok (.iconst 1, 1) := by decide +kernel
theorem dd_L_law_395 : decode L_law.2.1 395 = .ok (.iadd, 1) := by decide +kernel
theorem dd_L_law_396 : decode L_law.2.1 396 = .ok (.iaload, 1) := by decide +kernel
theorem dd_L_law_397 : decode L_law.2.1 397 = .ok (.aload_n 0, 1) := by decide +kernel
theorem dd_L_law_398 : decode L_law.2.1 398 = .ok (.iload_n 3, 1) := by decide +kernel
theorem dd_L_law_399 : decode L_law.2.1 399 = .ok (.iconst 2, 1) := by decide +kernel
theorem dd_L_law_400 : decode L_law.2.1 400 = .ok (.iadd, 1) := by decide +kernel
theorem dd_L_law_401 : decode L_law.2.1 401 = .ok (.iaload, 1) := by decide +kernel
theorem dd_L_law_402 : decode L_law.2.1 402 = .ok (.invokevirtual 53, 3) := by decide +kernel
theorem dd_L_law_405 : decode L_law.2.1 405 = .ok (.aload_n 2, 1) := by decide +kernel
theorem dd_L_law_406 : decode L_law.2.1 406 = .ok (.aload_n 0, 1) := by decide +kernel
theorem dd_L_law_407 : decode L_law.2.1 407 = .ok (.iload_n 3, 1) := by decide +kernel
theorem dd_L_law_408 : decode L_law.2.1 408 = .ok (.iconst 1, 1) := by decide +kernel
theorem dd_L_law_409 : decode L_law.2.1 409 = .ok (.iadd, 1) := by decide +kernel
theorem dd_L_law_410 : decode L_law.2.1 410 = .ok (.iaload, 1) := by decide +kernel
theorem dd_L_law_411 : decode L_law.2.1 411 = .ok (.aload_n 0, 1) := by decide +kernel
theorem dd_L_law_412 : decode L_law.2.1 412 = .ok (.iload_n 3, 1) := by decide +kernel
theorem dd_L_law_413 : decode L_law.2.1 413 = .ok (.iconst 2, 1) := by decide +kernel
theorem dd_L_law_414 : decode L_law.2.1 414 = .ok (.iadd, 1) := by decide +kernel
theorem dd_L_law_415 : decode L_law.2.1 415 = .ok (.iaload, 1) := by decide +kernel
theorem dd_L_law_416 : decode L_law.2.1 416 = .ok (.invokevirtual 56, 3) := by decide +kernel
theorem dd_L_law_419 : decode L_law.2.1 419 = .ok (.if_icmp .eq 572, 3) := by decide +kernel
theorem dd_L_law_424 : decode L_law.2.1 424 = .ok (.aload_n 1, 1) := by decide +kernel
theorem dd_L_law_425 : decode L_law.2.1 425 = .ok (.invokevirtual 57, 3) := by decide +kernel
theorem dd_L_law_428 : decode L_law.2.1 428 = .ok (.aload_n 2, 1) := by decide +kernel
theorem dd_L_law_429 : decode L_law.2.1 429 = .ok (.invokevirtual 60, 3) := by decide +kernel
theorem dd_L_law_432 : decode L_law.2.1 432 = .ok (.if_icmp .eq 559, 3) := by decide +kernel
theorem dd_L_law_437 : decode L_law.2.1 437 = .ok (.aload_n 1, 1) := by decide +kernel
theorem dd_L_law_438 : decode L_law.2.1 438 = .ok (.aload_n 0, 1) := by decide +kernel
theorem dd_L_law_439 : decode L_law.2.1 439 = .ok (.iload_n 3, 1) := by decide +kernel
theorem dd_L_law_440 : decode L_law.2.1 440 = .ok (.iconst 1, 1) := by decide +kernel
theorem dd_L_law_441 : decode L_law.2.1 441 = .ok (.iadd, 1) := by decide +kernel
theorem dd_L_law_442 : decode L_law.2.1 442 = .ok (.iaload, 1) := by decide +kernel
theorem dd_L_law_443 : decode L_law.2.1 443 = .ok (.invokevirtual 61, 3) := by decide +kernel
theorem dd_L_law_446 : decode L_law.2.1 446 = .ok (.aload_n 2, 1) := by decide +kernel
theorem dd_L_law_447 : decode L_law.2.1 447 = .ok (.aload_n 0, 1) := by decide +kernel
theorem dd_L_law_448 : decode L_law.2.1 448 = .ok (.iload_n 3, 1) := by decide +kernel
theorem dd_L_law_449 : decode L_law.2.1 449 = .ok (.iconst 1, 1) := by decide +kernel
theorem dd_L_law_450 : decode L_law.2.1 450 = .ok (.iadd, 1) := by decide +kernel
theorem dd_L_law_451 : decode L_law.2.1 451 = .ok (.iaload, 1) := by decide +kernel
theorem dd_L_law_452 : decode L_law.2.1 452 = .ok (.invokevirtual 64, 3) := by decide +kernel
theorem dd_L_law_455 : decode L_law.2.1 455 = .ok (.if_icmp .eq 536, 3) := by decide +kernel
theorem dd_L_law_460 : decode L_law.2.1 460 = .ok (.aload_n 1, 1) := by decide +kernel
theorem dd_L_law_461 : decode L_law.2.1 461 = .ok (.aload_n 0, 1) := by decide +kernel
theorem dd_L_law_462 : decode L_law.2.1 462 = .ok (.iload_n 3, 1) := by decide +kernel
theorem dd_L_law_463 : decode L_law.2.1 463 = .ok (.iconst 1, 1) := by decide +kernel
theorem dd_L_law_464 : decode L_law.2.1 464 = .ok (.iadd, 1) := by decide +kernel
theorem dd_L_law_465 : decode L_law.2.1 465 = .ok (.iaload, 1) := by decide +kernel
theorem dd_L_law_466 : decode L_law.2.1 466 = .ok (.invokevirtual 65, 3) := by decide +kernel
theorem dd_L_law_469 : decode L_law.2.1 469 = .ok (.aload_n 2, 1) := by decide +kernel
theorem dd_L_law_470 : decode L_law.2.1 470 = .ok (.aload_n 0, 1) := by decide +kernel
theorem dd_L_law_471 : decode L_law.2.1 471 = .ok (.iload_n 3, 1) := by decide +kernel
theorem dd_L_law_472 : decode L_law.2.1 472 = .ok (.iconst 1, 1) := by decide +kernel
theorem dd_L_law_473 : decode L_law.2.1 473 = .ok (.iadd, 1) := by decide +kernel
theorem dd_L_law_474 : decode L_law.2.1 474 = .ok (.iaload, 1) := by decide +kernel
theorem dd_L_law_475 : decode L_law.2.1 475 = .ok (.invokevirtual 68, 3) := by decide +kernel
theorem dd_L_law_478 : decode L_law.2.1 478 = .ok (.if_icmp .eq 513, 3) := by decide +kernel
theorem dd_L_law_483 : decode L_law.2.1 483 = .ok (.aload_n 1, 1) := by decide +kernel
theorem dd_L_law_484 : decode L_law.2.1 484 = .ok (.aload_n 0, 1) := by decide +kernel
theorem dd_L_law_485 : decode L_law.2.1 485 = .ok (.iload_n 3, 1) := by decide +kernel
theorem dd_L_law_486 : decode L_law.2.1 486 = .ok (.iconst 1, 1) := by decide +kernel
theorem dd_L_law_487 : decode L_law.2.1 487 = .ok (.iadd, 1) := by decide +kernel
theorem dd_L_law_488 : decode L_law.2.1 488 = .ok (.iaload, 1) := by decide +kernel
theorem dd_L_law_489 : decode L_law.2.1 489 = .ok (.aload_n 0, 1) := by decide +kernel
theorem dd_L_law_490 : decode L_law.2.1 490 = .ok (.iload_n 3, 1) := by decide +kernel
theorem dd_L_law_491 : decode L_law.2.1 491 = .ok (.iconst 2, 1) := by decide +kernel
theorem dd_L_law_492 : decode L_law.2.1 492 = .ok (.iadd, 1) := by decide +kernel
theorem dd_L_law_493 : decode L_law.2.1 493 = .ok (.iaload, 1) := by decide +kernel
theorem dd_L_law_494 : decode L_law.2.1 494 = .ok (.invokevirtual 69, 3) := by decide +kernel
theorem dd_L_law_497 : decode L_law.2.1 497 = .ok (.aload_n 2, 1) := by decide +kernel
theorem dd_L_law_498 : decode L_law.2.1 498 = .ok (.aload_n 0, 1) := by decide +kernel
theorem dd_L_law_499 : decode L_law.2.1 499 = .ok (.iload_n 3, 1) := by decide +kernel
theorem dd_L_law_500 : decode L_law.2.1 500 = .ok (.iconst 1, 1) := by decide +kernel
theorem dd_L_law_501 : decode L_law.2.1 501 = .ok (.iadd, 1) := by decide +kernel
theorem dd_L_law_502 : decode L_law.2.1 502 = .ok (.iaload, 1) := by decide +kernel
theorem dd_L_law_503 : decode L_law.2.1 503 = .ok (.aload_n 0, 1) := by decide +kernel
theorem dd_L_law_504 : decode L_law.2.1 504 = .ok (.iload_n 3, 1) := by decide +kernel
theorem dd_L_law_505 : decode L_law.2.1 505 = .ok (.iconst 2, 1) := by decide +kernel
theorem dd_L_law_506 : decode L_law.2.1 506 = .ok (.iadd, 1) := by decide +kernel
theorem dd_L_law_507 : decode L_law.2.1 507 = .ok (.iaload, 1) := by decide +kernel
theorem dd_L_law_508 : decode L_law.2.1 508 = .ok (.invokevirtual 72, 3) := by decide +kernel
theorem dd_L_law_511 : decode L_law.2.1 511 = .ok (.if_icmp .eq 480, 3) := by decide +kernel
theorem dd_L_law_516 : decode L_law.2.1 516 = .ok (.aload_n 1, 1) := by decide +kernel
theorem dd_L_law_517 : decode L_law.2.1 517 = .ok (.aload_n 0, 1) := by decide +kernel
theorem dd_L_law_518 : decode L_law.2.1 518 = .ok (.iload_n 3, 1) := by decide +kernel
theorem dd_L_law_519 : decode L_law.2.1 519 = .ok (.iconst 1, 1) := by decide +kernel
theorem dd_L_law_520 : decode L_law.2.1 520 = .ok (.iadd, 1) := by decide +kernel
theorem dd_L_law_521 : decode L_law.2.1 521 = .ok (.iaload, 1) := by decide +kernel
theorem dd_L_law_522 : decode L_law.2.1 522 = .ok (.invokevirtual 73, 3) := by decide +kernel
theorem dd_L_law_525 : decode L_law.2.1 525 = .ok (.aload_n 2, 1) := by decide +kernel
theorem dd_L_law_526 : decode L_law.2.1 526 = .ok (.aload_n 0, 1) := by decide +kernel
theorem dd_L_law_527 : decode L_law.2.1 527 = .ok (.iload_n 3, 1) := by decide +kernel
theorem dd_L_law_528 : decode L_law.2.1 528 = .ok (.iconst 1, 1) := by decide +kernel
theorem dd_L_law_529 : decode L_law.2.1 529 = .ok (.iadd, 1) := by decide +kernel
theorem dd_L_law_530 : decode L_law.2.1 530 = .ok (.iaload, 1) := by decide +kernel
theorem dd_L_law_531 : decode L_law.2.1 531 = .ok (.invokevirtual 76, 3) := by decide +kernel
theorem dd_L_law_534 : decode L_law.2.1 534 = .ok (.if_icmp .eq 457, 3) := by decide +kernel
theorem dd_L_law_539 : decode L_law.2.1 539 = .ok (.aload_n 1, 1) := by decide +kernel
theorem dd_L_law_540 : decode L_law.2.1 540 = .ok (.aload_n 0, 1) := by decide +kernel
theorem dd_L_law_541 : decode L_law.2.1 541 = .ok (.iload_n 3, 1) := by decide +kernel
theorem dd_L_law_542 : decode L_law.2.1 542 = .ok (.iconst 1, 1) := by decide +kernel
theorem dd_L_law_543 : decode L_law.2.1 543 = .ok (.iadd, 1) := by decide +kernel
theorem dd_L_law_544 : decode L_law.2.1 544 = .ok (.iaload, 1) := by decide +kernel
theorem dd_L_law_545 : decode L_law.2.1 545 = .ok (.aload_n 0, 1) := by decide +kernel
theorem dd_L_law_546 : decode L_law.2.1 546 = .ok (.iload_n 3, 1) := by decide +kernel
theorem dd_L_law_547 : decode L_law.2.1 547 = .ok (.iconst 2, 1) := by decide +kernel
theorem dd_L_law_548 : decode L_law.2.1 548 = .ok (.iadd, 1) := by decide +kernel
theorem dd_L_law_549 : decode L_law.2.1 549 = .ok (.iaload, 1) := by decide +kernel
theorem dd_L_law_550 : decode L_law.2.1 550 = .ok (.invokevirtual 77, 3) := by decide +kernel
theorem dd_L_law_553 : decode L_law.2.1 553 = .ok (.aload_n 2, 1) := by decide +kernel
theorem dd_L_law_554 : decode L_law.2.1 554 = .ok (.aload_n 0, 1) := by decide +kernel
theorem dd_L_law_555 : decode L_law.2.1 555 = .ok (.iload_n 3, 1) := by decide +kernel
theorem dd_L_law_556 : decode L_law.2.1 556 = .ok (.iconst 1, 1) := by decide +kernel
theorem dd_L_law_557 : decode L_law.2.1 557 = .ok (.iadd, 1) := by decide +kernel
theorem dd_L_law_558 : decode L_law.2.1 558 = .ok (.iaload, 1) := by decide +kernel
theorem dd_L_law_559 : decode L_law.2.1 559 = .ok (.aload_n 0, 1) := by decide +kernel
theorem dd_L_law_560 : decode L_law.2.1 560 = .ok (.iload_n 3, 1) := by decide +kernel
theorem dd_L_law_561 : decode L_law.2.1 561 = .ok (.iconst 2, 1) := by decide +kernel
theorem dd_L_law_562 : decode L_law.2.1 562 = .ok (.iadd, 1) := by decide +kernel
theorem dd_L_law_563 : decode L_law.2.1 563 = .ok (.iaload, 1) := by decide +kernel
theorem dd_L_law_564 : decode L_law.2.1 564 = .ok (.invokevirtual 80, 3) := by decide +kernel
theorem dd_L_law_567 : decode L_law.2.1 567 = .ok (.if_icmp .eq 424, 3) := by decide +kernel
theorem dd_L_law_572 : decode L_law.2.1 572 = .ok (.aload_n 1, 1) := by decide +kernel
theorem dd_L_law_573 : decode L_law.2.1 573 = .ok (.aload_n 0, 1) := by decide +kernel
theorem dd_L_law_574 : decode L_law.2.1 574 = .ok (.iload_n 3, 1) := by decide +kernel
theorem dd_L_law_575 : decode L_law.2.1 575 = .ok (.iconst 1, 1) := by decide +kernel
theorem dd_L_law_576 : decode L_law.2.1 576 = .ok (.iadd, 1) := by decide +kernel
theorem dd_L_law_577 : decode L_law.2.1 577 = .ok (.iaload, 1) := by decide +kernel
theorem dd_L_law_578 : decode L_law.2.1 578 = .ok (.aload_n 0, 1) := by decide +kernel
theorem dd_L_law_579 : decode L_law.2.1 579 = .ok (.iload_n 3, 1) := by decide +kernel
theorem dd_L_law_580 : decode L_law.2.1 580 = .ok (.iconst 2, 1) := by decide +kernel
theorem dd_L_law_581 : decode L_law.2.1 581 = .ok (.iadd, 1) := by decide +kernel
theorem dd_L_law_582 : decode L_law.2.1 582 = .ok (.iaload, 1) := by decide +kernel
theorem dd_L_law_583 : decode L_law.2.1 583 = .ok (.invokevirtual 81, 3) := by decide +kernel
theorem dd_L_law_586 : decode L_law.2.1 586 = .ok (.aload_n 2, 1) := by decide +kernel
theorem dd_L_law_587 : decode L_law.2.1 587 = .ok (.aload_n 0, 1) := by decide +kernel
theorem dd_L_law_588 : decode L_law.2.1 588 = .ok (.iload_n 3, 1) := by decide +kernel
theorem dd_L_law_589 : decode L_law.2.1 589 = .ok (.iconst 1, 1) := by decide +kernel
theorem dd_L_law_590 : decode L_law.2.1 590 = .ok (.iadd, 1) := by decide +kernel
theorem dd_L_law_591 : decode L_law.2.1 591 = .ok (.iaload, 1) := by decide +kernel
