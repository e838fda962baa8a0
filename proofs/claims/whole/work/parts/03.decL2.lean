theorem mD_La_law_389 : decode mB_La_law 389 = .ok (.aload_n 1, 1) := by decide +kernel
theorem mD_La_law_390 : decode mB_La_law 390 = .ok (.aload_n 0, 1) := by decide +kernel
theorem mD_La_law_391 : decode mB_La_law 391 = .ok (.iload 4, 2) := by decide +kernel
theorem mD_La_law_393 : decode mB_La_law 393 = .ok (.iconst 1, 1) := by decide +kernel
theorem mD_La_law_394 : decode mB_La_law 394 = .ok (.iadd, 1) := by decide +kernel
theorem mD_La_law_395 : decode mB_La_law 395 = .ok (.iaload, 1) := by decide +kernel
theorem mD_La_law_396 : decode mB_La_law 396 = .ok (.aload_n 0, 1) := by decide +kernel
theorem mD_La_law_397 : decode mB_La_law 397 = .ok (.iload 4, 2) := by decide +kernel
theorem mD_La_law_399 : decode mB_La_law 399 = .ok (.iconst 2, 1) := by decide +kernel
theorem mD_La_law_400 : decode mB_La_law 400 = .ok (.iadd, 1) := by decide +kernel
theorem mD_La_law_401 : decode mB_La_law 401 = .ok (.iaload, 1) := by decide +kernel
theorem mD_La_law_402 : decode mB_La_law 402 = .ok (.aload_n 3, 1) := by decide +kernel
theorem mD_La_law_403 : decode mB_La_law 403 = .ok (.invokestatic 88, 3) := by decide +kernel
theorem mD_La_law_406 : decode mB_La_law 406 = .ok (.istore 5, 2) := by decide +kernel
theorem mD_La_law_408 : decode mB_La_law 408 = .ok (.aload_n 2, 1) := by decide +kernel
theorem mD_La_law_409 : decode mB_La_law 409 = .ok (.aload_n 0, 1) := by decide +kernel
theorem mD_La_law_410 : decode mB_La_law 410 = .ok (.iload 4, 2) := by decide +kernel
theorem mD_La_law_412 : decode mB_La_law 412 = .ok (.iconst 1, 1) := by decide +kernel
theorem mD_La_law_413 : decode mB_La_law 413 = .ok (.iadd, 1) := by decide +kernel
theorem mD_La_law_414 : decode mB_La_law 414 = .ok (.iaload, 1) := by decide +kernel
theorem mD_La_law_415 : decode mB_La_law 415 = .ok (.aload_n 0, 1) := by decide +kernel
theorem mD_La_law_416 : decode mB_La_law 416 = .ok (.iload 4, 2) := by decide +kernel
theorem mD_La_law_418 : decode mB_La_law 418 = .ok (.iconst 2, 1) := by decide +kernel
theorem mD_La_law_419 : decode mB_La_law 419 = .ok (.iadd, 1) := by decide +kernel
theorem mD_La_law_420 : decode mB_La_law 420 = .ok (.iaload, 1) := by decide +kernel
theorem mD_La_law_421 : decode mB_La_law 421 = .ok (.invokevirtual 90, 3) := by decide +kernel
theorem mD_La_law_424 : decode mB_La_law 424 = .ok (.istore 6, 2) := by decide +kernel
theorem mD_La_law_426 : decode mB_La_law 426 = .ok (.aload_n 2, 1) := by decide +kernel
theorem mD_La_law_427 : decode mB_La_law 427 = .ok (.invokevirtual 73, 3) := by decide +kernel
theorem mD_La_law_430 : decode mB_La_law 430 = .ok (.iload 5, 2) := by decide +kernel
theorem mD_La_law_432 : decode mB_La_law 432 = .ok (.if_icmp .eq 5, 3) := by decide +kernel
theorem mD_La_law_435 : decode mB_La_law 435 = .ok (.iconst 0, 1) := by decide +kernel
theorem mD_La_law_436 : decode mB_La_law 436 = .ok (.ireturn, 1) := by decide +kernel
theorem mD_La_law_437 : decode mB_La_law 437 = .ok (.iload 5, 2) := by decide +kernel
theorem mD_La_law_439 : decode mB_La_law 439 = .ok (.ifCond .ne 15, 3) := by decide +kernel
theorem mD_La_law_442 : decode mB_La_law 442 = .ok (.aload_n 3, 1) := by decide +kernel
theorem mD_La_law_443 : decode mB_La_law 443 = .ok (.iconst 0, 1) := by decide +kernel
theorem mD_La_law_444 : decode mB_La_law 444 = .ok (.laload, 1) := by decide +kernel
theorem mD_La_law_445 : decode mB_La_law 445 = .ok (.iload 6, 2) := by decide +kernel
theorem mD_La_law_447 : decode mB_La_law 447 = .ok (.i2l, 1) := by decide +kernel
theorem mD_La_law_448 : decode mB_La_law 448 = .ok (.lcmp, 1) := by decide +kernel
theorem mD_La_law_449 : decode mB_La_law 449 = .ok (.ifCond .eq 5, 3) := by decide +kernel
theorem mD_La_law_452 : decode mB_La_law 452 = .ok (.iconst 0, 1) := by decide +kernel
theorem mD_La_law_453 : decode mB_La_law 453 = .ok (.ireturn, 1) := by decide +kernel
theorem mD_La_law_454 : decode mB_La_law 454 = .ok (.goto 555, 3) := by decide +kernel
theorem mD_La_law_457 : decode mB_La_law 457 = .ok (.aload_n 1, 1) := by decide +kernel
theorem mD_La_law_458 : decode mB_La_law 458 = .ok (.aload_n 0, 1) := by decide +kernel
theorem mD_La_law_459 : decode mB_La_law 459 = .ok (.iload 4, 2) := by decide +kernel
theorem mD_La_law_461 : decode mB_La_law 461 = .ok (.iconst 1, 1) := by decide +kernel
theorem mD_La_law_462 : decode mB_La_law 462 = .ok (.iadd, 1) := by decide +kernel
theorem mD_La_law_463 : decode mB_La_law 463 = .ok (.iaload, 1) := by decide +kernel
theorem mD_La_law_464 : decode mB_La_law 464 = .ok (.aload_n 0, 1) := by decide +kernel
theorem mD_La_law_465 : decode mB_La_law 465 = .ok (.iload 4, 2) := by decide +kernel
theorem mD_La_law_467 : decode mB_La_law 467 = .ok (.iconst 2, 1) := by decide +kernel
theorem mD_La_law_468 : decode mB_La_law 468 = .ok (.iadd, 1) := by decide +kernel
theorem mD_La_law_469 : decode mB_La_law 469 = .ok (.iaload, 1) := by decide +kernel
theorem mD_La_law_470 : decode mB_La_law 470 = .ok (.aload_n 0, 1) := by decide +kernel
theorem mD_La_law_471 : decode mB_La_law 471 = .ok (.iload 4, 2) := by decide +kernel
theorem mD_La_law_473 : decode mB_La_law 473 = .ok (.iconst 3, 1) := by decide +kernel
theorem mD_La_law_474 : decode mB_La_law 474 = .ok (.iadd, 1) := by decide +kernel
theorem mD_La_law_475 : decode mB_La_law 475 = .ok (.iaload, 1) := by decide +kernel
theorem mD_La_law_476 : decode mB_La_law 476 = .ok (.aload_n 3, 1) := by decide +kernel
theorem mD_La_law_477 : decode mB_La_law 477 = .ok (.invokestatic 91, 3) := by decide +kernel
theorem mD_La_law_480 : decode mB_La_law 480 = .ok (.istore 5, 2) := by decide +kernel
theorem mD_La_law_482 : decode mB_La_law 482 = .ok (.aload_n 2, 1) := by decide +kernel
theorem mD_La_law_483 : decode mB_La_law 483 = .ok (.aload_n 0, 1) := by decide +kernel
theorem mD_La_law_484 : decode mB_La_law 484 = .ok (.iload 4, 2) := by decide +kernel
theorem mD_La_law_486 : decode mB_La_law 486 = .ok (.iconst 1, 1) := by decide +kernel
theorem mD_La_law_487 : decode mB_La_law 487 = .ok (.iadd, 1) := by decide +kernel
theorem mD_La_law_488 : decode mB_La_law 488 = .ok (.iaload, 1) := by decide +kernel
theorem mD_La_law_489 : decode mB_La_law 489 = .ok (.aload_n 0, 1) := by decide +kernel
theorem mD_La_law_490 : decode mB_La_law 490 = .ok (.iload 4, 2) := by decide +kernel
theorem mD_La_law_492 : decode mB_La_law 492 = .ok (.iconst 2, 1) := by decide +kernel
theorem mD_La_law_493 : decode mB_La_law 493 = .ok (.iadd, 1) := by decide +kernel
theorem mD_La_law_494 : decode mB_La_law 494 = .ok (.iaload, 1) := by decide +kernel
theorem mD_La_law_495 : decode mB_La_law 495 = .ok (.aload_n 0, 1) := by decide +kernel
theorem mD_La_law_496 : decode mB_La_law 496 = .ok (.iload 4, 2) := by decide +kernel
theorem mD_La_law_498 : decode mB_La_law 498 = .ok (.iconst 3, 1) := by decide +kernel
theorem mD_La_law_499 : decode mB_La_law 499 = .ok (.iadd, 1) := by decide +kernel
theorem mD_La_law_500 : decode mB_La_law 500 = .ok (.iaload, 1) := by decide +kernel
theorem mD_La_law_501 : decode mB_La_law 501 = .ok (.invokevirtual 94, 3) := by decide +kernel
theorem mD_La_law_504 : decode mB_La_law 504 = .ok (.istore 6, 2) := by decide +kernel
theorem mD_La_law_506 : decode mB_La_law 506 = .ok (.aload_n 2, 1) := by decide +kernel
theorem mD_La_law_507 : decode mB_La_law 507 = .ok (.invokevirtual 73, 3) := by decide +kernel
theorem mD_La_law_510 : decode mB_La_law 510 = .ok (.iload 5, 2) := by decide +kernel
theorem mD_La_law_512 : decode mB_La_law 512 = .ok (.if_icmp .eq 5, 3) := by decide +kernel
theorem mD_La_law_515 : decode mB_La_law 515 = .ok (.iconst 0, 1) := by decide +kernel
theorem mD_La_law_516 : decode mB_La_law 516 = .ok (.ireturn, 1) := by decide +kernel
theorem mD_La_law_517 : decode mB_La_law 517 = .ok (.iload 5, 2) := by decide +kernel
theorem mD_La_law_519 : decode mB_La_law 519 = .ok (.ifCond .ne 15, 3) := by decide +kernel
theorem mD_La_law_522 : decode mB_La_law 522 = .ok (.aload_n 3, 1) := by decide +kernel
theorem mD_La_law_523 : decode mB_La_law 523 = .ok (.iconst 0, 1) := by decide +kernel
theorem mD_La_law_524 : decode mB_La_law 524 = .ok (.laload, 1) := by decide +kernel
theorem mD_La_law_525 : decode mB_La_law 525 = .ok (.iload 6, 2) := by decide +kernel
theorem mD_La_law_527 : decode mB_La_law 527 = .ok (.i2l, 1) := by decide +kernel
theorem mD_La_law_528 : decode mB_La_law 528 = .ok (.lcmp, 1) := by decide +kernel
theorem mD_La_law_529 : decode mB_La_law 529 = .ok (.ifCond .eq 5, 3) := by decide +kernel
theorem mD_La_law_532 : decode mB_La_law 532 = .ok (.iconst 0, 1) := by decide +kernel
theorem mD_La_law_533 : decode mB_La_law 533 = .ok (.ireturn, 1) := by decide +kernel
theorem mD_La_law_534 : decode mB_La_law 534 = .ok (.goto 475, 3) := by decide +kernel
