theorem dX12_init_434 : decode cX12_init 434 = .ok (.bipush 7, 2) := by decide +kernel
theorem dX12_init_436 : decode cX12_init 436 = .ok (.iastore, 1) := by decide +kernel
theorem dX12_init_437 : decode cX12_init 437 = .ok (.dup, 1) := by decide +kernel
theorem dX12_init_438 : decode cX12_init 438 = .ok (.bipush 35, 2) := by decide +kernel
theorem dX12_init_440 : decode cX12_init 440 = .ok (.bipush 8, 2) := by decide +kernel
theorem dX12_init_442 : decode cX12_init 442 = .ok (.iastore, 1) := by decide +kernel
theorem dX12_init_443 : decode cX12_init 443 = .ok (.dup, 1) := by decide +kernel
theorem dX12_init_444 : decode cX12_init 444 = .ok (.bipush 36, 2) := by decide +kernel
theorem dX12_init_446 : decode cX12_init 446 = .ok (.iconst 0, 1) := by decide +kernel
theorem dX12_init_447 : decode cX12_init 447 = .ok (.iastore, 1) := by decide +kernel
theorem dX12_init_448 : decode cX12_init 448 = .ok (.dup, 1) := by decide +kernel
theorem dX12_init_449 : decode cX12_init 449 = .ok (.bipush 37, 2) := by decide +kernel
theorem dX12_init_451 : decode cX12_init 451 = .ok (.iconst 3, 1) := by decide +kernel
theorem dX12_init_452 : decode cX12_init 452 = .ok (.iastore, 1) := by decide +kernel
theorem dX12_init_453 : decode cX12_init 453 = .ok (.dup, 1) := by decide +kernel
theorem dX12_init_454 : decode cX12_init 454 = .ok (.bipush 38, 2) := by decide +kernel
theorem dX12_init_456 : decode cX12_init 456 = .ok (.bipush 18, 2) := by decide +kernel
theorem dX12_init_458 : decode cX12_init 458 = .ok (.iastore, 1) := by decide +kernel
theorem dX12_init_459 : decode cX12_init 459 = .ok (.dup, 1) := by decide +kernel
theorem dX12_init_460 : decode cX12_init 460 = .ok (.bipush 39, 2) := by decide +kernel
theorem dX12_init_462 : decode cX12_init 462 = .ok (.iconst 5, 1) := by decide +kernel
theorem dX12_init_463 : decode cX12_init 463 = .ok (.iastore, 1) := by decide +kernel
theorem dX12_init_464 : decode cX12_init 464 = .ok (.dup, 1) := by decide +kernel
theorem dX12_init_465 : decode cX12_init 465 = .ok (.bipush 40, 2) := by decide +kernel
theorem dX12_init_467 : decode cX12_init 467 = .ok (.bipush 19, 2) := by decide +kernel
theorem dX12_init_469 : decode cX12_init 469 = .ok (.iastore, 1) := by decide +kernel
theorem dX12_init_470 : decode cX12_init 470 = .ok (.dup, 1) := by decide +kernel
theorem dX12_init_471 : decode cX12_init 471 = .ok (.bipush 41, 2) := by decide +kernel
theorem dX12_init_473 : decode cX12_init 473 = .ok (.bipush 20, 2) := by decide +kernel
theorem dX12_init_475 : decode cX12_init 475 = .ok (.iastore, 1) := by decide +kernel
theorem dX12_init_476 : decode cX12_init 476 = .ok (.dup, 1) := by decide +kernel
theorem dX12_init_477 : decode cX12_init 477 = .ok (.bipush 42, 2) := by decide +kernel
theorem dX12_init_479 : decode cX12_init 479 = .ok (.iconst 0, 1) := by decide +kernel
theorem dX12_init_480 : decode cX12_init 480 = .ok (.iastore, 1) := by decide +kernel
theorem dX12_init_481 : decode cX12_init 481 = .ok (.dup, 1) := by decide +kernel
theorem dX12_init_482 : decode cX12_init 482 = .ok (.bipush 43, 2) := by decide +kernel
theorem dX12_init_484 : decode cX12_init 484 = .ok (.iconst 4, 1) := by decide +kernel
theorem dX12_init_485 : decode cX12_init 485 = .ok (.iastore, 1) := by decide +kernel
theorem dX12_init_486 : decode cX12_init 486 = .ok (.dup, 1) := by decide +kernel
theorem dX12_init_487 : decode cX12_init 487 = .ok (.bipush 44, 2) := by decide +kernel
theorem dX12_init_489 : decode cX12_init 489 = .ok (.iconst 5, 1) := by decide +kernel
theorem dX12_init_490 : decode cX12_init 490 = .ok (.iastore, 1) := by decide +kernel
theorem dX12_init_491 : decode cX12_init 491 = .ok (.dup, 1) := by decide +kernel
theorem dX12_init_492 : decode cX12_init 492 = .ok (.bipush 45, 2) := by decide +kernel
theorem dX12_init_494 : decode cX12_init 494 = .ok (.bipush 12, 2) := by decide +kernel
theorem dX12_init_496 : decode cX12_init 496 = .ok (.iastore, 1) := by decide +kernel
theorem dX12_init_497 : decode cX12_init 497 = .ok (.dup, 1) := by decide +kernel
theorem dX12_init_498 : decode cX12_init 498 = .ok (.bipush 46, 2) := by decide +kernel
theorem dX12_init_500 : decode cX12_init 500 = .ok (.iconst 1, 1) := by decide +kernel
theorem dX12_init_501 : decode cX12_init 501 = .ok (.iastore, 1) := by decide +kernel
theorem dX12_init_502 : decode cX12_init 502 = .ok (.dup, 1) := by decide +kernel
theorem dX12_init_503 : decode cX12_init 503 = .ok (.bipush 47, 2) := by decide +kernel
theorem dX12_init_505 : decode cX12_init 505 = .ok (.bipush 25, 2) := by decide +kernel
theorem dX12_init_507 : decode cX12_init 507 = .ok (.iastore, 1) := by decide +kernel
theorem dX12_init_508 : decode cX12_init 508 = .ok (.dup, 1) := by decide +kernel
theorem dX12_init_509 : decode cX12_init 509 = .ok (.bipush 48, 2) := by decide +kernel
theorem dX12_init_511 : decode cX12_init 511 = .ok (.iconst 0, 1) := by decide +kernel
theorem dX12_init_512 : decode cX12_init 512 = .ok (.iastore, 1) := by decide +kernel
theorem dX12_init_513 : decode cX12_init 513 = .ok (.dup, 1) := by decide +kernel
theorem dX12_init_514 : decode cX12_init 514 = .ok (.bipush 49, 2) := by decide +kernel
theorem dX12_init_516 : decode cX12_init 516 = .ok (.bipush 12, 2) := by decide +kernel
theorem dX12_init_518 : decode cX12_init 518 = .ok (.iastore, 1) := by decide +kernel
theorem dX12_init_519 : decode cX12_init 519 = .ok (.dup, 1) := by decide +kernel
theorem dX12_init_520 : decode cX12_init 520 = .ok (.bipush 50, 2) := by decide +kernel
theorem dX12_init_522 : decode cX12_init 522 = .ok (.iconst 5, 1) := by decide +kernel
theorem dX12_init_523 : decode cX12_init 523 = .ok (.iastore, 1) := by decide +kernel
theorem dX12_init_524 : decode cX12_init 524 = .ok (.dup, 1) := by decide +kernel
theorem dX12_init_525 : decode cX12_init 525 = .ok (.bipush 51, 2) := by decide +kernel
theorem dX12_init_527 : decode cX12_init 527 = .ok (.iconst 1, 1) := by decide +kernel
theorem dX12_init_528 : decode cX12_init 528 = .ok (.iastore, 1) := by decide +kernel
theorem dX12_init_529 : decode cX12_init 529 = .ok (.dup, 1) := by decide +kernel
theorem dX12_init_530 : decode cX12_init 530 = .ok (.bipush 52, 2) := by decide +kernel
theorem dX12_init_532 : decode cX12_init 532 = .ok (.bipush 11, 2) := by decide +kernel
theorem dX12_init_534 : decode cX12_init 534 = .ok (.iastore, 1) := by decide +kernel
theorem dX12_init_535 : decode cX12_init 535 = .ok (.dup, 1) := by decide +kernel
theorem dX12_init_536 : decode cX12_init 536 = .ok (.bipush 53, 2) := by decide +kernel
theorem dX12_init_538 : decode cX12_init 538 = .ok (.iconst 0, 1) := by decide +kernel
theorem dX12_init_539 : decode cX12_init 539 = .ok (.iastore, 1) := by decide +kernel
theorem dX12_init_540 : decode cX12_init 540 = .ok (.dup, 1) := by decide +kernel
theorem dX12_init_541 : decode cX12_init 541 = .ok (.bipush 54, 2) := by decide +kernel
theorem dX12_init_543 : decode cX12_init 543 = .ok (.bipush 7, 2) := by decide +kernel
theorem dX12_init_545 : decode cX12_init 545 = .ok (.iastore, 1) := by decide +kernel
theorem dX12_init_546 : decode cX12_init 546 = .ok (.dup, 1) := by decide +kernel
theorem dX12_init_547 : decode cX12_init 547 = .ok (.bipush 55, 2) := by decide +kernel
theorem dX12_init_549 : decode cX12_init 549 = .ok (.iconst 1, 1) := by decide +kernel
theorem dX12_init_550 : decode cX12_init 550 = .ok (.iastore, 1) := by decide +kernel
theorem dX12_init_551 : decode cX12_init 551 = .ok (.dup, 1) := by decide +kernel
theorem dX12_init_552 : decode cX12_init 552 = .ok (.bipush 56, 2) := by decide +kernel
theorem dX12_init_554 : decode cX12_init 554 = .ok (.bipush 20, 2) := by decide +kernel
theorem dX12_init_556 : decode cX12_init 556 = .ok (.iastore, 1) := by decide +kernel
