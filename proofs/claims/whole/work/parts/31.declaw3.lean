theorem dLL_law_495 : decode cLL_law 495 = .ok (.aload_n 3, 1) := by decide +kernel
theorem dLL_law_496 : decode cLL_law 496 = .ok (.iconst 0, 1) := by decide +kernel
theorem dLL_law_497 : decode cLL_law 497 = .ok (.laload, 1) := by decide +kernel
theorem dLL_law_498 : decode cLL_law 498 = .ok (.iload 6, 2) := by decide +kernel
theorem dLL_law_500 : decode cLL_law 500 = .ok (.i2l, 1) := by decide +kernel
theorem dLL_law_501 : decode cLL_law 501 = .ok (.lcmp, 1) := by decide +kernel
theorem dLL_law_502 : decode cLL_law 502 = .ok (.ifCond .eq 5, 3) := by decide +kernel
theorem dLL_law_505 : decode cLL_law 505 = .ok (.iconst 0, 1) := by decide +kernel
theorem dLL_law_506 : decode cLL_law 506 = .ok (.ireturn, 1) := by decide +kernel
theorem dLL_law_507 : decode cLL_law 507 = .ok (.goto 116, 3) := by decide +kernel
theorem dLL_law_510 : decode cLL_law 510 = .ok (.aload_n 1, 1) := by decide +kernel
theorem dLL_law_511 : decode cLL_law 511 = .ok (.invokevirtual 83, 3) := by decide +kernel
theorem dLL_law_514 : decode cLL_law 514 = .ok (.aload_n 2, 1) := by decide +kernel
theorem dLL_law_515 : decode cLL_law 515 = .ok (.invokevirtual 86, 3) := by decide +kernel
theorem dLL_law_518 : decode cLL_law 518 = .ok (.if_icmp .eq 105, 3) := by decide +kernel
theorem dLL_law_521 : decode cLL_law 521 = .ok (.iconst 0, 1) := by decide +kernel
theorem dLL_law_522 : decode cLL_law 522 = .ok (.ireturn, 1) := by decide +kernel
theorem dLL_law_523 : decode cLL_law 523 = .ok (.aload_n 1, 1) := by decide +kernel
theorem dLL_law_524 : decode cLL_law 524 = .ok (.aload_n 0, 1) := by decide +kernel
theorem dLL_law_525 : decode cLL_law 525 = .ok (.iload 4, 2) := by decide +kernel
theorem dLL_law_527 : decode cLL_law 527 = .ok (.iconst 1, 1) := by decide +kernel
theorem dLL_law_528 : decode cLL_law 528 = .ok (.iadd, 1) := by decide +kernel
theorem dLL_law_529 : decode cLL_law 529 = .ok (.iaload, 1) := by decide +kernel
theorem dLL_law_530 : decode cLL_law 530 = .ok (.invokevirtual 87, 3) := by decide +kernel
theorem dLL_law_533 : decode cLL_law 533 = .ok (.aload_n 2, 1) := by decide +kernel
theorem dLL_law_534 : decode cLL_law 534 = .ok (.aload_n 0, 1) := by decide +kernel
theorem dLL_law_535 : decode cLL_law 535 = .ok (.iload 4, 2) := by decide +kernel
theorem dLL_law_537 : decode cLL_law 537 = .ok (.iconst 1, 1) := by decide +kernel
theorem dLL_law_538 : decode cLL_law 538 = .ok (.iadd, 1) := by decide +kernel
theorem dLL_law_539 : decode cLL_law 539 = .ok (.iaload, 1) := by decide +kernel
theorem dLL_law_540 : decode cLL_law 540 = .ok (.invokevirtual 90, 3) := by decide +kernel
theorem dLL_law_543 : decode cLL_law 543 = .ok (.if_icmp .eq 80, 3) := by decide +kernel
theorem dLL_law_546 : decode cLL_law 546 = .ok (.iconst 0, 1) := by decide +kernel
theorem dLL_law_547 : decode cLL_law 547 = .ok (.ireturn, 1) := by decide +kernel
theorem dLL_law_548 : decode cLL_law 548 = .ok (.aload_n 1, 1) := by decide +kernel
theorem dLL_law_549 : decode cLL_law 549 = .ok (.aload_n 0, 1) := by decide +kernel
theorem dLL_law_550 : decode cLL_law 550 = .ok (.iload 4, 2) := by decide +kernel
theorem dLL_law_552 : decode cLL_law 552 = .ok (.iconst 1, 1) := by decide +kernel
theorem dLL_law_553 : decode cLL_law 553 = .ok (.iadd, 1) := by decide +kernel
theorem dLL_law_554 : decode cLL_law 554 = .ok (.iaload, 1) := by decide +kernel
theorem dLL_law_555 : decode cLL_law 555 = .ok (.invokevirtual 91, 3) := by decide +kernel
theorem dLL_law_558 : decode cLL_law 558 = .ok (.aload_n 2, 1) := by decide +kernel
theorem dLL_law_559 : decode cLL_law 559 = .ok (.aload_n 0, 1) := by decide +kernel
theorem dLL_law_560 : decode cLL_law 560 = .ok (.iload 4, 2) := by decide +kernel
theorem dLL_law_562 : decode cLL_law 562 = .ok (.iconst 1, 1) := by decide +kernel
theorem dLL_law_563 : decode cLL_law 563 = .ok (.iadd, 1) := by decide +kernel
theorem dLL_law_564 : decode cLL_law 564 = .ok (.iaload, 1) := by decide +kernel
theorem dLL_law_565 : decode cLL_law 565 = .ok (.invokevirtual 95, 3) := by decide +kernel
theorem dLL_law_568 : decode cLL_law 568 = .ok (.if_icmp .eq 55, 3) := by decide +kernel
theorem dLL_law_571 : decode cLL_law 571 = .ok (.iconst 0, 1) := by decide +kernel
theorem dLL_law_572 : decode cLL_law 572 = .ok (.ireturn, 1) := by decide +kernel
theorem dLL_law_573 : decode cLL_law 573 = .ok (.aload_n 1, 1) := by decide +kernel
theorem dLL_law_574 : decode cLL_law 574 = .ok (.aload_n 0, 1) := by decide +kernel
theorem dLL_law_575 : decode cLL_law 575 = .ok (.iload 4, 2) := by decide +kernel
theorem dLL_law_577 : decode cLL_law 577 = .ok (.iconst 1, 1) := by decide +kernel
theorem dLL_law_578 : decode cLL_law 578 = .ok (.iadd, 1) := by decide +kernel
theorem dLL_law_579 : decode cLL_law 579 = .ok (.iaload, 1) := by decide +kernel
theorem dLL_law_580 : decode cLL_law 580 = .ok (.invokevirtual 96, 3) := by decide +kernel
theorem dLL_law_583 : decode cLL_law 583 = .ok (.aload_n 2, 1) := by decide +kernel
theorem dLL_law_584 : decode cLL_law 584 = .ok (.aload_n 0, 1) := by decide +kernel
theorem dLL_law_585 : decode cLL_law 585 = .ok (.iload 4, 2) := by decide +kernel
theorem dLL_law_587 : decode cLL_law 587 = .ok (.iconst 1, 1) := by decide +kernel
theorem dLL_law_588 : decode cLL_law 588 = .ok (.iadd, 1) := by decide +kernel
theorem dLL_law_589 : decode cLL_law 589 = .ok (.iaload, 1) := by decide +kernel
theorem dLL_law_590 : decode cLL_law 590 = .ok (.invokevirtual 99, 3) := by decide +kernel
theorem dLL_law_593 : decode cLL_law 593 = .ok (.if_icmp .eq 30, 3) := by decide +kernel
theorem dLL_law_596 : decode cLL_law 596 = .ok (.iconst 0, 1) := by decide +kernel
theorem dLL_law_597 : decode cLL_law 597 = .ok (.ireturn, 1) := by decide +kernel
theorem dLL_law_598 : decode cLL_law 598 = .ok (.aload_n 1, 1) := by decide +kernel
theorem dLL_law_599 : decode cLL_law 599 = .ok (.aload_n 0, 1) := by decide +kernel
theorem dLL_law_600 : decode cLL_law 600 = .ok (.iload 4, 2) := by decide +kernel
theorem dLL_law_602 : decode cLL_law 602 = .ok (.iconst 1, 1) := by decide +kernel
theorem dLL_law_603 : decode cLL_law 603 = .ok (.iadd, 1) := by decide +kernel
theorem dLL_law_604 : decode cLL_law 604 = .ok (.iaload, 1) := by decide +kernel
theorem dLL_law_605 : decode cLL_law 605 = .ok (.invokevirtual 100, 3) := by decide +kernel
theorem dLL_law_608 : decode cLL_law 608 = .ok (.aload_n 2, 1) := by decide +kernel
theorem dLL_law_609 : decode cLL_law 609 = .ok (.aload_n 0, 1) := by decide +kernel
theorem dLL_law_610 : decode cLL_law 610 = .ok (.iload 4, 2) := by decide +kernel
theorem dLL_law_612 : decode cLL_law 612 = .ok (.iconst 1, 1) := by decide +kernel
theorem dLL_law_613 : decode cLL_law 613 = .ok (.iadd, 1) := by decide +kernel
theorem dLL_law_614 : decode cLL_law 614 = .ok (.iaload, 1) := by decide +kernel
theorem dLL_law_615 : decode cLL_law 615 = .ok (.invokevirtual 103, 3) := by decide +kernel
theorem dLL_law_618 : decode cLL_law 618 = .ok (.if_icmp .eq 5, 3) := by decide +kernel
theorem dLL_law_621 : decode cLL_law 621 = .ok (.iconst 0, 1) := by decide +kernel
theorem dLL_law_622 : decode cLL_law 622 = .ok (.ireturn, 1) := by decide +kernel
theorem dLL_law_623 : decode cLL_law 623 = .ok (.iinc 4 3, 3) := by decide +kernel
theorem dLL_law_626 : decode cLL_law 626 = .ok (.goto (-603), 3) := by decide +kernel
theorem dLL_law_629 : decode cLL_law 629 = .ok (.iconst 1, 1) := by decide +kernel
theorem dLL_law_630 : decode cLL_law 630 = .ok (.ireturn, 1) := by decide +kernel
