theorem mD_La_law_537 : decode mB_La_law 537 = .ok (.aload_n 1, 1) := by decide +kernel
theorem mD_La_law_538 : decode mB_La_law 538 = .ok (.aload_n 0, 1) := by decide +kernel
theorem mD_La_law_539 : decode mB_La_law 539 = .ok (.iload 4, 2) := by decide +kernel
theorem mD_La_law_541 : decode mB_La_law 541 = .ok (.iconst 1, 1) := by decide +kernel
theorem mD_La_law_542 : decode mB_La_law 542 = .ok (.iadd, 1) := by decide +kernel
theorem mD_La_law_543 : decode mB_La_law 543 = .ok (.iaload, 1) := by decide +kernel
theorem mD_La_law_544 : decode mB_La_law 544 = .ok (.aload_n 0, 1) := by decide +kernel
theorem mD_La_law_545 : decode mB_La_law 545 = .ok (.iload 4, 2) := by decide +kernel
theorem mD_La_law_547 : decode mB_La_law 547 = .ok (.iconst 2, 1) := by decide +kernel
theorem mD_La_law_548 : decode mB_La_law 548 = .ok (.iadd, 1) := by decide +kernel
theorem mD_La_law_549 : decode mB_La_law 549 = .ok (.iaload, 1) := by decide +kernel
theorem mD_La_law_550 : decode mB_La_law 550 = .ok (.aload_n 0, 1) := by decide +kernel
theorem mD_La_law_551 : decode mB_La_law 551 = .ok (.iload 4, 2) := by decide +kernel
theorem mD_La_law_553 : decode mB_La_law 553 = .ok (.iconst 3, 1) := by decide +kernel
theorem mD_La_law_554 : decode mB_La_law 554 = .ok (.iadd, 1) := by decide +kernel
theorem mD_La_law_555 : decode mB_La_law 555 = .ok (.iaload, 1) := by decide +kernel
theorem mD_La_law_556 : decode mB_La_law 556 = .ok (.aload_n 3, 1) := by decide +kernel
theorem mD_La_law_557 : decode mB_La_law 557 = .ok (.invokestatic 95, 3) := by decide +kernel
theorem mD_La_law_560 : decode mB_La_law 560 = .ok (.istore 5, 2) := by decide +kernel
theorem mD_La_law_562 : decode mB_La_law 562 = .ok (.aload_n 2, 1) := by decide +kernel
theorem mD_La_law_563 : decode mB_La_law 563 = .ok (.aload_n 0, 1) := by decide +kernel
theorem mD_La_law_564 : decode mB_La_law 564 = .ok (.iload 4, 2) := by decide +kernel
theorem mD_La_law_566 : decode mB_La_law 566 = .ok (.iconst 1, 1) := by decide +kernel
theorem mD_La_law_567 : decode mB_La_law 567 = .ok (.iadd, 1) := by decide +kernel
theorem mD_La_law_568 : decode mB_La_law 568 = .ok (.iaload, 1) := by decide +kernel
theorem mD_La_law_569 : decode mB_La_law 569 = .ok (.aload_n 0, 1) := by decide +kernel
theorem mD_La_law_570 : decode mB_La_law 570 = .ok (.iload 4, 2) := by decide +kernel
theorem mD_La_law_572 : decode mB_La_law 572 = .ok (.iconst 2, 1) := by decide +kernel
theorem mD_La_law_573 : decode mB_La_law 573 = .ok (.iadd, 1) := by decide +kernel
theorem mD_La_law_574 : decode mB_La_law 574 = .ok (.iaload, 1) := by decide +kernel
theorem mD_La_law_575 : decode mB_La_law 575 = .ok (.aload_n 0, 1) := by decide +kernel
theorem mD_La_law_576 : decode mB_La_law 576 = .ok (.iload 4, 2) := by decide +kernel
theorem mD_La_law_578 : decode mB_La_law 578 = .ok (.iconst 3, 1) := by decide +kernel
theorem mD_La_law_579 : decode mB_La_law 579 = .ok (.iadd, 1) := by decide +kernel
theorem mD_La_law_580 : decode mB_La_law 580 = .ok (.iaload, 1) := by decide +kernel
theorem mD_La_law_581 : decode mB_La_law 581 = .ok (.invokevirtual 97, 3) := by decide +kernel
theorem mD_La_law_584 : decode mB_La_law 584 = .ok (.istore 6, 2) := by decide +kernel
theorem mD_La_law_586 : decode mB_La_law 586 = .ok (.aload_n 2, 1) := by decide +kernel
theorem mD_La_law_587 : decode mB_La_law 587 = .ok (.invokevirtual 73, 3) := by decide +kernel
theorem mD_La_law_590 : decode mB_La_law 590 = .ok (.iload 5, 2) := by decide +kernel
theorem mD_La_law_592 : decode mB_La_law 592 = .ok (.if_icmp .eq 5, 3) := by decide +kernel
theorem mD_La_law_595 : decode mB_La_law 595 = .ok (.iconst 0, 1) := by decide +kernel
theorem mD_La_law_596 : decode mB_La_law 596 = .ok (.ireturn, 1) := by decide +kernel
theorem mD_La_law_597 : decode mB_La_law 597 = .ok (.iload 5, 2) := by decide +kernel
theorem mD_La_law_599 : decode mB_La_law 599 = .ok (.ifCond .ne 15, 3) := by decide +kernel
theorem mD_La_law_602 : decode mB_La_law 602 = .ok (.aload_n 3, 1) := by decide +kernel
theorem mD_La_law_603 : decode mB_La_law 603 = .ok (.iconst 0, 1) := by decide +kernel
theorem mD_La_law_604 : decode mB_La_law 604 = .ok (.laload, 1) := by decide +kernel
theorem mD_La_law_605 : decode mB_La_law 605 = .ok (.iload 6, 2) := by decide +kernel
theorem mD_La_law_607 : decode mB_La_law 607 = .ok (.i2l, 1) := by decide +kernel
theorem mD_La_law_608 : decode mB_La_law 608 = .ok (.lcmp, 1) := by decide +kernel
theorem mD_La_law_609 : decode mB_La_law 609 = .ok (.ifCond .eq 5, 3) := by decide +kernel
theorem mD_La_law_612 : decode mB_La_law 612 = .ok (.iconst 0, 1) := by decide +kernel
theorem mD_La_law_613 : decode mB_La_law 613 = .ok (.ireturn, 1) := by decide +kernel
theorem mD_La_law_614 : decode mB_La_law 614 = .ok (.goto 395, 3) := by decide +kernel
theorem mD_La_law_617 : decode mB_La_law 617 = .ok (.aload_n 1, 1) := by decide +kernel
theorem mD_La_law_618 : decode mB_La_law 618 = .ok (.aload_n 0, 1) := by decide +kernel
theorem mD_La_law_619 : decode mB_La_law 619 = .ok (.iload 4, 2) := by decide +kernel
theorem mD_La_law_621 : decode mB_La_law 621 = .ok (.iconst 1, 1) := by decide +kernel
theorem mD_La_law_622 : decode mB_La_law 622 = .ok (.iadd, 1) := by decide +kernel
theorem mD_La_law_623 : decode mB_La_law 623 = .ok (.iaload, 1) := by decide +kernel
theorem mD_La_law_624 : decode mB_La_law 624 = .ok (.aload_n 3, 1) := by decide +kernel
theorem mD_La_law_625 : decode mB_La_law 625 = .ok (.invokestatic 98, 3) := by decide +kernel
theorem mD_La_law_628 : decode mB_La_law 628 = .ok (.istore 5, 2) := by decide +kernel
theorem mD_La_law_630 : decode mB_La_law 630 = .ok (.aload_n 2, 1) := by decide +kernel
theorem mD_La_law_631 : decode mB_La_law 631 = .ok (.aload_n 0, 1) := by decide +kernel
theorem mD_La_law_632 : decode mB_La_law 632 = .ok (.iload 4, 2) := by decide +kernel
theorem mD_La_law_634 : decode mB_La_law 634 = .ok (.iconst 1, 1) := by decide +kernel
theorem mD_La_law_635 : decode mB_La_law 635 = .ok (.iadd, 1) := by decide +kernel
theorem mD_La_law_636 : decode mB_La_law 636 = .ok (.iaload, 1) := by decide +kernel
theorem mD_La_law_637 : decode mB_La_law 637 = .ok (.invokevirtual 100, 3) := by decide +kernel
theorem mD_La_law_640 : decode mB_La_law 640 = .ok (.istore 6, 2) := by decide +kernel
theorem mD_La_law_642 : decode mB_La_law 642 = .ok (.aload_n 2, 1) := by decide +kernel
theorem mD_La_law_643 : decode mB_La_law 643 = .ok (.invokevirtual 73, 3) := by decide +kernel
theorem mD_La_law_646 : decode mB_La_law 646 = .ok (.iload 5, 2) := by decide +kernel
theorem mD_La_law_648 : decode mB_La_law 648 = .ok (.if_icmp .eq 5, 3) := by decide +kernel
theorem mD_La_law_651 : decode mB_La_law 651 = .ok (.iconst 0, 1) := by decide +kernel
theorem mD_La_law_652 : decode mB_La_law 652 = .ok (.ireturn, 1) := by decide +kernel
theorem mD_La_law_653 : decode mB_La_law 653 = .ok (.iload 5, 2) := by decide +kernel
theorem mD_La_law_655 : decode mB_La_law 655 = .ok (.ifCond .ne 15, 3) := by decide +kernel
theorem mD_La_law_658 : decode mB_La_law 658 = .ok (.aload_n 3, 1) := by decide +kernel
theorem mD_La_law_659 : decode mB_La_law 659 = .ok (.iconst 0, 1) := by decide +kernel
theorem mD_La_law_660 : decode mB_La_law 660 = .ok (.laload, 1) := by decide +kernel
theorem mD_La_law_661 : decode mB_La_law 661 = .ok (.iload 6, 2) := by decide +kernel
theorem mD_La_law_663 : decode mB_La_law 663 = .ok (.i2l, 1) := by decide +kernel
theorem mD_La_law_664 : decode mB_La_law 664 = .ok (.lcmp, 1) := by decide +kernel
theorem mD_La_law_665 : decode mB_La_law 665 = .ok (.ifCond .eq 5, 3) := by decide +kernel
theorem mD_La_law_668 : decode mB_La_law 668 = .ok (.iconst 0, 1) := by decide +kernel
theorem mD_La_law_669 : decode mB_La_law 669 = .ok (.ireturn, 1) := by decide +kernel
theorem mD_La_law_670 : decode mB_La_law 670 = .ok (.goto 339, 3) := by decide +kernel
theorem mD_La_law_673 : decode mB_La_law 673 = .ok (.aload_n 1, 1) := by decide +kernel
theorem mD_La_law_674 : decode mB_La_law 674 = .ok (.aload_n 0, 1) := by decide +kernel
theorem mD_La_law_675 : decode mB_La_law 675 = .ok (.iload 4, 2) := by decide +kernel
theorem mD_La_law_677 : decode mB_La_law 677 = .ok (.iconst 1, 1) := by decide +kernel
theorem mD_La_law_678 : decode mB_La_law 678 = .ok (.iadd, 1) := by decide +kernel
theorem mD_La_law_679 : decode mB_La_law 679 = .ok (.iaload, 1) := by decide +kernel
theorem mD_La_law_680 : decode mB_La_law 680 = .ok (.aload_n 3, 1) := by decide +kernel
theorem mD_La_law_681 : decode mB_La_law 681 = .ok (.invokestatic 101, 3) := by decide +kernel
theorem mD_La_law_684 : decode mB_La_law 684 = .ok (.istore 5, 2) := by decide +kernel
theorem mD_La_law_686 : decode mB_La_law 686 = .ok (.aload_n 2, 1) := by decide +kernel
