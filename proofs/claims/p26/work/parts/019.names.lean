theorem dL_acts_520 : decode cL_acts 520 = .ok (.iload 18, 2) := by decide +kernel
theorem dL_acts_522 : decode cL_acts 522 = .ok (.ishl, 1) := by decide +kernel
theorem dL_acts_523 : decode cL_acts 523 = .ok (.ior, 1) := by decide +kernel
theorem dL_acts_524 : decode cL_acts 524 = .ok (.istore 16, 2) := by decide +kernel
theorem dL_acts_526 : decode cL_acts 526 = .ok (.aload 14, 2) := by decide +kernel
theorem dL_acts_528 : decode cL_acts 528 = .ok (.bipush 6, 2) := by decide +kernel
theorem dL_acts_530 : decode cL_acts 530 = .ok (.iload 7, 2) := by decide +kernel
theorem dL_acts_532 : decode cL_acts 532 = .ok (.imul, 1) := by decide +kernel
theorem dL_acts_533 : decode cL_acts 533 = .ok (.iload 17, 2) := by decide +kernel
theorem dL_acts_535 : decode cL_acts 535 = .ok (.iadd, 1) := by decide +kernel
theorem dL_acts_536 : decode cL_acts 536 = .ok (.aload_n 3, 1) := by decide +kernel
theorem dL_acts_537 : decode cL_acts 537 = .ok (.bipush 6, 2) := by decide +kernel
theorem dL_acts_539 : decode cL_acts 539 = .ok (.iload 7, 2) := by decide +kernel
theorem dL_acts_541 : decode cL_acts 541 = .ok (.imul, 1) := by decide +kernel
theorem dL_acts_542 : decode cL_acts 542 = .ok (.iload 18, 2) := by decide +kernel
theorem dL_acts_544 : decode cL_acts 544 = .ok (.iadd, 1) := by decide +kernel
theorem dL_acts_545 : decode cL_acts 545 = .ok (.iaload, 1) := by decide +kernel
theorem dL_acts_546 : decode cL_acts 546 = .ok (.iastore, 1) := by decide +kernel
theorem dL_acts_547 : decode cL_acts 547 = .ok (.iload 15, 2) := by decide +kernel
theorem dL_acts_549 : decode cL_acts 549 = .ok (.iload 18, 2) := by decide +kernel
theorem dL_acts_551 : decode cL_acts 551 = .ok (.iload 17, 2) := by decide +kernel
theorem dL_acts_553 : decode cL_acts 553 = .ok (.if_icmp .ne 7, 3) := by decide +kernel
theorem dL_acts_556 : decode cL_acts 556 = .ok (.iconst 0, 1) := by decide +kernel
theorem dL_acts_557 : decode cL_acts 557 = .ok (.goto 4, 3) := by decide +kernel
theorem dL_acts_560 : decode cL_acts 560 = .ok (.iconst 1, 1) := by decide +kernel
theorem dL_acts_561 : decode cL_acts 561 = .ok (.iadd, 1) := by decide +kernel
theorem dL_acts_562 : decode cL_acts 562 = .ok (.istore 15, 2) := by decide +kernel
theorem dL_acts_564 : decode cL_acts 564 = .ok (.iinc 17 1, 3) := by decide +kernel
theorem dL_acts_567 : decode cL_acts 567 = .ok (.goto (-184), 3) := by decide +kernel
theorem dL_acts_570 : decode cL_acts 570 = .ok (.aload 14, 2) := by decide +kernel
theorem dL_acts_572 : decode cL_acts 572 = .ok (.aload_n 3, 1) := by decide +kernel
theorem dL_acts_573 : decode cL_acts 573 = .ok (.invokestatic 27, 3) := by decide +kernel
theorem dL_acts_576 : decode cL_acts 576 = .ok (.aload_n 0, 1) := by decide +kernel
theorem dL_acts_577 : decode cL_acts 577 = .ok (.iload 7, 2) := by decide +kernel
theorem dL_acts_579 : decode cL_acts 579 = .ok (.invokevirtual 105, 3) := by decide +kernel
theorem dL_acts_582 : decode cL_acts 582 = .ok (.iload 15, 2) := by decide +kernel
theorem dL_acts_584 : decode cL_acts 584 = .ok (.if_icmp .ne 7, 3) := by decide +kernel
theorem dL_acts_587 : decode cL_acts 587 = .ok (.iconst 1, 1) := by decide +kernel
theorem dL_acts_588 : decode cL_acts 588 = .ok (.goto 4, 3) := by decide +kernel
theorem dL_acts_591 : decode cL_acts 591 = .ok (.iconst 0, 1) := by decide +kernel
theorem dL_acts_592 : decode cL_acts 592 = .ok (.ireturn, 1) := by decide +kernel
theorem dL_acts_593 : decode cL_acts 593 = .ok (.aload_n 3, 1) := by decide +kernel
theorem dL_acts_594 : decode cL_acts 594 = .ok (.aload 4, 2) := by decide +kernel
theorem dL_acts_596 : decode cL_acts 596 = .ok (.iload 7, 2) := by decide +kernel
theorem dL_acts_598 : decode cL_acts 598 = .ok (.aload_n 1, 1) := by decide +kernel
theorem dL_acts_599 : decode cL_acts 599 = .ok (.aload_n 2, 1) := by decide +kernel
theorem dL_acts_600 : decode cL_acts 600 = .ok (.aload_n 3, 1) := by decide +kernel
theorem dL_acts_601 : decode cL_acts 601 = .ok (.aload 4, 2) := by decide +kernel
theorem dL_acts_603 : decode cL_acts 603 = .ok (.iload 7, 2) := by decide +kernel
theorem dL_acts_605 : decode cL_acts 605 = .ok (.invokestatic 70, 3) := by decide +kernel
theorem dL_acts_608 : decode cL_acts 608 = .ok (.invokestatic 31, 3) := by decide +kernel
theorem dL_acts_611 : decode cL_acts 611 = .ok (.aload_n 0, 1) := by decide +kernel
theorem dL_acts_612 : decode cL_acts 612 = .ok (.iload 7, 2) := by decide +kernel
theorem dL_acts_614 : decode cL_acts 614 = .ok (.invokevirtual 108, 3) := by decide +kernel
theorem dL_acts_617 : decode cL_acts 617 = .ok (.aload_n 1, 1) := by decide +kernel
theorem dL_acts_618 : decode cL_acts 618 = .ok (.aload_n 2, 1) := by decide +kernel
theorem dL_acts_619 : decode cL_acts 619 = .ok (.aload_n 3, 1) := by decide +kernel
theorem dL_acts_620 : decode cL_acts 620 = .ok (.aload 4, 2) := by decide +kernel
theorem dL_acts_622 : decode cL_acts 622 = .ok (.iload 7, 2) := by decide +kernel
theorem dL_acts_624 : decode cL_acts 624 = .ok (.invokestatic 35, 3) := by decide +kernel
theorem dL_acts_627 : decode cL_acts 627 = .ok (.if_icmp .ne 7, 3) := by decide +kernel
theorem dL_acts_630 : decode cL_acts 630 = .ok (.iconst 1, 1) := by decide +kernel
theorem dL_acts_631 : decode cL_acts 631 = .ok (.goto 4, 3) := by decide +kernel
theorem dL_acts_634 : decode cL_acts 634 = .ok (.iconst 0, 1) := by decide +kernel
theorem dL_acts_635 : decode cL_acts 635 = .ok (.ireturn, 1) := by decide +kernel
abbrev vwCl : List vw_C := [(RX1, TX1, 2), (RX2, TX2, 3), (RX3, TX3, 13), (RX4, TX4, 3), (RX5, TX5, 10), (RX6, TX6, 6), (RX7, TX7, 8)]
