theorem d_La_law_477 : decode code 477 = .ok (.iaload, 1) := by decide +kernel
theorem d_La_law_478 : decode code 478 = .ok (.i2l, 1) := by decide +kernel
theorem d_La_law_479 : decode code 479 = .ok (.bipush 32, 2) := by decide +kernel
theorem d_La_law_481 : decode code 481 = .ok (.lshl, 1) := by decide +kernel
theorem d_La_law_482 : decode code 482 = .ok (.aload_n 0, 1) := by decide +kernel
theorem d_La_law_483 : decode code 483 = .ok (.iload 4, 2) := by decide +kernel
theorem d_La_law_485 : decode code 485 = .ok (.iconst 2, 1) := by decide +kernel
theorem d_La_law_486 : decode code 486 = .ok (.iadd, 1) := by decide +kernel
theorem d_La_law_487 : decode code 487 = .ok (.iaload, 1) := by decide +kernel
theorem d_La_law_488 : decode code 488 = .ok (.i2l, 1) := by decide +kernel
theorem d_La_law_489 : decode code 489 = .ok (.ldc2_w 89, 3) := by decide +kernel
theorem d_La_law_492 : decode code 492 = .ok (.land, 1) := by decide +kernel
theorem d_La_law_493 : decode code 493 = .ok (.lor, 1) := by decide +kernel
theorem d_La_law_494 : decode code 494 = .ok (.invokevirtual 121, 3) := by decide +kernel
theorem d_La_law_497 : decode code 497 = .ok (.istore 6, 2) := by decide +kernel
theorem d_La_law_499 : decode code 499 = .ok (.aload_n 2, 1) := by decide +kernel
theorem d_La_law_500 : decode code 500 = .ok (.invokevirtual 95, 3) := by decide +kernel
theorem d_La_law_503 : decode code 503 = .ok (.iload 5, 2) := by decide +kernel
theorem d_La_law_505 : decode code 505 = .ok (.if_icmp .eq 5, 3) := by decide +kernel
theorem d_La_law_508 : decode code 508 = .ok (.iconst 0, 1) := by decide +kernel
theorem d_La_law_509 : decode code 509 = .ok (.ireturn, 1) := by decide +kernel
theorem d_La_law_510 : decode code 510 = .ok (.iload 5, 2) := by decide +kernel
theorem d_La_law_512 : decode code 512 = .ok (.ifCond .ne 22, 3) := by decide +kernel
theorem d_La_law_515 : decode code 515 = .ok (.aload_n 3, 1) := by decide +kernel
theorem d_La_law_516 : decode code 516 = .ok (.iconst 0, 1) := by decide +kernel
theorem d_La_law_517 : decode code 517 = .ok (.laload, 1) := by decide +kernel
theorem d_La_law_518 : decode code 518 = .ok (.iload 6, 2) := by decide +kernel
theorem d_La_law_520 : decode code 520 = .ok (.ifCond .eq 7, 3) := by decide +kernel
theorem d_La_law_523 : decode code 523 = .ok (.lconst 1, 1) := by decide +kernel
theorem d_La_law_524 : decode code 524 = .ok (.goto 4, 3) := by decide +kernel
theorem d_La_law_527 : decode code 527 = .ok (.lconst 0, 1) := by decide +kernel
theorem d_La_law_528 : decode code 528 = .ok (.lcmp, 1) := by decide +kernel
theorem d_La_law_529 : decode code 529 = .ok (.ifCond .eq 5, 3) := by decide +kernel
theorem d_La_law_532 : decode code 532 = .ok (.iconst 0, 1) := by decide +kernel
theorem d_La_law_533 : decode code 533 = .ok (.ireturn, 1) := by decide +kernel
theorem d_La_law_534 : decode code 534 = .ok (.goto 711, 3) := by decide +kernel
theorem d_La_law_537 : decode code 537 = .ok (.aload_n 1, 1) := by decide +kernel
theorem d_La_law_538 : decode code 538 = .ok (.aload_n 3, 1) := by decide +kernel
theorem d_La_law_539 : decode code 539 = .ok (.invokestatic 122, 3) := by decide +kernel
theorem d_La_law_542 : decode code 542 = .ok (.istore 5, 2) := by decide +kernel
theorem d_La_law_544 : decode code 544 = .ok (.aload_n 2, 1) := by decide +kernel
theorem d_La_law_545 : decode code 545 = .ok (.invokevirtual 125, 3) := by decide +kernel
theorem d_La_law_548 : decode code 548 = .ok (.lstore 6, 2) := by decide +kernel
theorem d_La_law_550 : decode code 550 = .ok (.aload_n 2, 1) := by decide +kernel
theorem d_La_law_551 : decode code 551 = .ok (.invokevirtual 95, 3) := by decide +kernel
theorem d_La_law_554 : decode code 554 = .ok (.iload 5, 2) := by decide +kernel
theorem d_La_law_556 : decode code 556 = .ok (.if_icmp .eq 5, 3) := by decide +kernel
theorem d_La_law_559 : decode code 559 = .ok (.iconst 0, 1) := by decide +kernel
theorem d_La_law_560 : decode code 560 = .ok (.ireturn, 1) := by decide +kernel
theorem d_La_law_561 : decode code 561 = .ok (.iload 5, 2) := by decide +kernel
theorem d_La_law_563 : decode code 563 = .ok (.ifCond .ne 14, 3) := by decide +kernel
theorem d_La_law_566 : decode code 566 = .ok (.aload_n 3, 1) := by decide +kernel
theorem d_La_law_567 : decode code 567 = .ok (.iconst 0, 1) := by decide +kernel
theorem d_La_law_568 : decode code 568 = .ok (.laload, 1) := by decide +kernel
theorem d_La_law_569 : decode code 569 = .ok (.lload 6, 2) := by decide +kernel
theorem d_La_law_571 : decode code 571 = .ok (.lcmp, 1) := by decide +kernel
theorem d_La_law_572 : decode code 572 = .ok (.ifCond .eq 5, 3) := by decide +kernel
theorem d_La_law_575 : decode code 575 = .ok (.iconst 0, 1) := by decide +kernel
theorem d_La_law_576 : decode code 576 = .ok (.ireturn, 1) := by decide +kernel
theorem d_La_law_577 : decode code 577 = .ok (.goto 668, 3) := by decide +kernel
theorem d_La_law_580 : decode code 580 = .ok (.aload_n 1, 1) := by decide +kernel
theorem d_La_law_581 : decode code 581 = .ok (.aload_n 3, 1) := by decide +kernel
theorem d_La_law_582 : decode code 582 = .ok (.invokestatic 126, 3) := by decide +kernel
theorem d_La_law_585 : decode code 585 = .ok (.istore 5, 2) := by decide +kernel
theorem d_La_law_587 : decode code 587 = .ok (.aload_n 2, 1) := by decide +kernel
theorem d_La_law_588 : decode code 588 = .ok (.invokevirtual 128, 3) := by decide +kernel
theorem d_La_law_591 : decode code 591 = .ok (.lstore 6, 2) := by decide +kernel
theorem d_La_law_593 : decode code 593 = .ok (.aload_n 2, 1) := by decide +kernel
theorem d_La_law_594 : decode code 594 = .ok (.invokevirtual 95, 3) := by decide +kernel
theorem d_La_law_597 : decode code 597 = .ok (.iload 5, 2) := by decide +kernel
theorem d_La_law_599 : decode code 599 = .ok (.if_icmp .eq 5, 3) := by decide +kernel
theorem d_La_law_602 : decode code 602 = .ok (.iconst 0, 1) := by decide +kernel
theorem d_La_law_603 : decode code 603 = .ok (.ireturn, 1) := by decide +kernel
theorem d_La_law_604 : decode code 604 = .ok (.iload 5, 2) := by decide +kernel
theorem d_La_law_606 : decode code 606 = .ok (.ifCond .ne 14, 3) := by decide +kernel
theorem d_La_law_609 : decode code 609 = .ok (.aload_n 3, 1) := by decide +kernel
theorem d_La_law_610 : decode code 610 = .ok (.iconst 0, 1) := by decide +kernel
theorem d_La_law_611 : decode code 611 = .ok (.laload, 1) := by decide +kernel
theorem d_La_law_612 : decode code 612 = .ok (.lload 6, 2) := by decide +kernel
theorem d_La_law_614 : decode code 614 = .ok (.lcmp, 1) := by decide +kernel
theorem d_La_law_615 : decode code 615 = .ok (.ifCond .eq 5, 3) := by decide +kernel
theorem d_La_law_618 : decode code 618 = .ok (.iconst 0, 1) := by decide +kernel
theorem d_La_law_619 : decode code 619 = .ok (.ireturn, 1) := by decide +kernel
theorem d_La_law_620 : decode code 620 = .ok (.goto 625, 3) := by decide +kernel
theorem d_La_law_623 : decode code 623 = .ok (.aload_n 1, 1) := by decide +kernel
theorem d_La_law_624 : decode code 624 = .ok (.aload_n 0, 1) := by decide +kernel
theorem d_La_law_625 : decode code 625 = .ok (.iload 4, 2) := by decide +kernel
theorem d_La_law_627 : decode code 627 = .ok (.iconst 1, 1) := by decide +kernel
theorem d_La_law_628 : decode code 628 = .ok (.iadd, 1) := by decide +kernel
theorem d_La_law_629 : decode code 629 = .ok (.iaload, 1) := by decide +kernel
theorem d_La_law_630 : decode code 630 = .ok (.aload_n 3, 1) := by decide +kernel
theorem d_La_law_631 : decode code 631 = .ok (.invokestatic 129, 3) := by decide +kernel
theorem d_La_law_634 : decode code 634 = .ok (.istore 5, 2) := by decide +kernel
theorem d_La_law_636 : decode code 636 = .ok (.aload_n 2, 1) := by decide +kernel
theorem d_La_law_637 : decode code 637 = .ok (.aload_n 0, 1) := by decide +kernel
theorem d_La_law_638 : decode code 638 = .ok (.iload 4, 2) := by decide +kernel
theorem d_La_law_640 : decode code 640 = .ok (.iconst 1, 1) := by decide +kernel
theorem d_La_law_641 : decode code 641 = .ok (.iadd, 1) := by decide +kernel
theorem d_La_law_642 : decode code 642 = .ok (.iaload, 1) := by decide +kernel
theorem d_La_law_643 : decode code 643 = .ok (.invokevirtual 131, 3) := by decide +kernel
theorem d_La_law_646 : decode code 646 = .ok (.istore 6, 2) := by decide +kernel
theorem d_La_law_648 : decode code 648 = .ok (.aload_n 2, 1) := by decide +kernel
theorem d_La_law_649 : decode code 649 = .ok (.invokevirtual 95, 3) := by decide +kernel
theorem d_La_law_652 : decode code 652 = .ok (.iload 5, 2) := by decide +kernel
theorem d_La_law_654 : decode code 654 = .ok (.if_icmp .eq 5, 3) := by decide +kernel
theorem d_La_law_657 : decode code 657 = .ok (.iconst 0, 1) := by decide +kernel
theorem d_La_law_658 : decode code 658 = .ok (.ireturn, 1) := by decide +kernel
theorem d_La_law_659 : decode code 659 = .ok (.iload 5, 2) := by decide +kernel
theorem d_La_law_661 : decode code 661 = .ok (.ifCond .ne 22, 3) := by decide +kernel
theorem d_La_law_664 : decode code 664 = .ok (.aload_n 3, 1) := by decide +kernel
theorem d_La_law_665 : decode code 665 = .ok (.iconst 0, 1) := by decide +kernel
theorem d_La_law_666 : decode code 666 = .ok (.laload, 1) := by decide +kernel
theorem d_La_law_667 : decode code 667 = .ok (.iload 6, 2) := by decide +kernel
theorem d_La_law_669 : decode code 669 = .ok (.ifCond .eq 7, 3) := by decide +kernel
theorem d_La_law_672 : decode code 672 = .ok (.lconst 1, 1) := by decide +kernel
theorem d_La_law_673 : decode code 673 = .ok (.goto 4, 3) := by decide +kernel
theorem d_La_law_676 : decode code 676 = .ok (.lconst 0, 1) := by decide +kernel
theorem d_La_law_677 : decode code 677 = .ok (.lcmp, 1) := by decide +kernel
theorem d_La_law_678 : decode code 678 = .ok (.ifCond .eq 5, 3) := by decide +kernel
theorem d_La_law_681 : decode code 681 = .ok (.iconst 0, 1) := by decide +kernel
