theorem d_law_460 : decode code 460 = .ok (.iconst 1, 1) := by decide +kernel
theorem d_law_461 : decode code 461 = .ok (.goto 4, 3) := by decide +kernel
theorem d_law_464 : decode code 464 = .ok (.iconst 0, 1) := by decide +kernel
theorem d_law_465 : decode code 465 = .ok (.invokevirtual 71, 3) := by decide +kernel
theorem d_law_468 : decode code 468 = .ok (.istore 6, 2) := by decide +kernel
theorem d_law_470 : decode code 470 = .ok (.goto 108, 3) := by decide +kernel
theorem d_law_473 : decode code 473 = .ok (.aload_n 1, 1) := by decide +kernel
theorem d_law_474 : decode code 474 = .ok (.aload_n 0, 1) := by decide +kernel
theorem d_law_475 : decode code 475 = .ok (.iload 4, 2) := by decide +kernel
theorem d_law_477 : decode code 477 = .ok (.iconst 1, 1) := by decide +kernel
theorem d_law_478 : decode code 478 = .ok (.iadd, 1) := by decide +kernel
theorem d_law_479 : decode code 479 = .ok (.iaload, 1) := by decide +kernel
theorem d_law_480 : decode code 480 = .ok (.aload_n 0, 1) := by decide +kernel
theorem d_law_481 : decode code 481 = .ok (.iload 4, 2) := by decide +kernel
theorem d_law_483 : decode code 483 = .ok (.iconst 2, 1) := by decide +kernel
theorem d_law_484 : decode code 484 = .ok (.iadd, 1) := by decide +kernel
theorem d_law_485 : decode code 485 = .ok (.iaload, 1) := by decide +kernel
theorem d_law_486 : decode code 486 = .ok (.ifCond .eq 7, 3) := by decide +kernel
theorem d_law_489 : decode code 489 = .ok (.iconst 1, 1) := by decide +kernel
theorem d_law_490 : decode code 490 = .ok (.goto 4, 3) := by decide +kernel
theorem d_law_493 : decode code 493 = .ok (.iconst 0, 1) := by decide +kernel
theorem d_law_494 : decode code 494 = .ok (.aload_n 3, 1) := by decide +kernel
theorem d_law_495 : decode code 495 = .ok (.invokestatic 72, 3) := by decide +kernel
theorem d_law_498 : decode code 498 = .ok (.istore 5, 2) := by decide +kernel
theorem d_law_500 : decode code 500 = .ok (.aload_n 2, 1) := by decide +kernel
theorem d_law_501 : decode code 501 = .ok (.aload_n 0, 1) := by decide +kernel
theorem d_law_502 : decode code 502 = .ok (.iload 4, 2) := by decide +kernel
theorem d_law_504 : decode code 504 = .ok (.iconst 1, 1) := by decide +kernel
theorem d_law_505 : decode code 505 = .ok (.iadd, 1) := by decide +kernel
theorem d_law_506 : decode code 506 = .ok (.iaload, 1) := by decide +kernel
theorem d_law_507 : decode code 507 = .ok (.aload_n 0, 1) := by decide +kernel
theorem d_law_508 : decode code 508 = .ok (.iload 4, 2) := by decide +kernel
theorem d_law_510 : decode code 510 = .ok (.iconst 2, 1) := by decide +kernel
theorem d_law_511 : decode code 511 = .ok (.iadd, 1) := by decide +kernel
theorem d_law_512 : decode code 512 = .ok (.iaload, 1) := by decide +kernel
theorem d_law_513 : decode code 513 = .ok (.ifCond .eq 7, 3) := by decide +kernel
theorem d_law_516 : decode code 516 = .ok (.iconst 1, 1) := by decide +kernel
theorem d_law_517 : decode code 517 = .ok (.goto 4, 3) := by decide +kernel
theorem d_law_520 : decode code 520 = .ok (.iconst 0, 1) := by decide +kernel
theorem d_law_521 : decode code 521 = .ok (.invokevirtual 74, 3) := by decide +kernel
theorem d_law_524 : decode code 524 = .ok (.istore 6, 2) := by decide +kernel
theorem d_law_526 : decode code 526 = .ok (.goto 52, 3) := by decide +kernel
theorem d_law_529 : decode code 529 = .ok (.aload_n 1, 1) := by decide +kernel
theorem d_law_530 : decode code 530 = .ok (.invokevirtual 75, 3) := by decide +kernel
theorem d_law_533 : decode code 533 = .ok (.pop, 1) := by decide +kernel
theorem d_law_534 : decode code 534 = .ok (.aload_n 2, 1) := by decide +kernel
theorem d_law_535 : decode code 535 = .ok (.invokevirtual 78, 3) := by decide +kernel
theorem d_law_538 : decode code 538 = .ok (.pop, 1) := by decide +kernel
theorem d_law_539 : decode code 539 = .ok (.goto 39, 3) := by decide +kernel
theorem d_law_542 : decode code 542 = .ok (.aload_n 1, 1) := by decide +kernel
theorem d_law_543 : decode code 543 = .ok (.aload_n 0, 1) := by decide +kernel
theorem d_law_544 : decode code 544 = .ok (.iload 4, 2) := by decide +kernel
theorem d_law_546 : decode code 546 = .ok (.iconst 1, 1) := by decide +kernel
theorem d_law_547 : decode code 547 = .ok (.iadd, 1) := by decide +kernel
theorem d_law_548 : decode code 548 = .ok (.iaload, 1) := by decide +kernel
theorem d_law_549 : decode code 549 = .ok (.invokevirtual 79, 3) := by decide +kernel
theorem d_law_552 : decode code 552 = .ok (.pop, 1) := by decide +kernel
theorem d_law_553 : decode code 553 = .ok (.aload_n 2, 1) := by decide +kernel
theorem d_law_554 : decode code 554 = .ok (.aload_n 0, 1) := by decide +kernel
theorem d_law_555 : decode code 555 = .ok (.iload 4, 2) := by decide +kernel
theorem d_law_557 : decode code 557 = .ok (.iconst 1, 1) := by decide +kernel
theorem d_law_558 : decode code 558 = .ok (.iadd, 1) := by decide +kernel
theorem d_law_559 : decode code 559 = .ok (.iaload, 1) := by decide +kernel
theorem d_law_560 : decode code 560 = .ok (.invokevirtual 83, 3) := by decide +kernel
theorem d_law_563 : decode code 563 = .ok (.pop, 1) := by decide +kernel
theorem d_law_564 : decode code 564 = .ok (.goto 14, 3) := by decide +kernel
theorem d_law_567 : decode code 567 = .ok (.aload_n 1, 1) := by decide +kernel
theorem d_law_568 : decode code 568 = .ok (.invokevirtual 84, 3) := by decide +kernel
theorem d_law_571 : decode code 571 = .ok (.aload_n 2, 1) := by decide +kernel
theorem d_law_572 : decode code 572 = .ok (.invokevirtual 87, 3) := by decide +kernel
theorem d_law_575 : decode code 575 = .ok (.goto 3, 3) := by decide +kernel
theorem d_law_578 : decode code 578 = .ok (.iinc 4 5, 3) := by decide +kernel
theorem d_law_581 : decode code 581 = .ok (.goto (-558), 3) := by decide +kernel
theorem d_law_584 : decode code 584 = .ok (.iconst 1, 1) := by decide +kernel
theorem d_law_585 : decode code 585 = .ok (.ireturn, 1) := by decide +kernel
