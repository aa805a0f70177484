theorem d_La_law_493 : decode b_La_law 493 = .ok (.aload_n 3, 1) := by decide +kernel
theorem d_La_law_494 : decode b_La_law 494 = .ok (.invokestatic 102, 3) := by decide +kernel
theorem d_La_law_497 : decode b_La_law 497 = .ok (.istore 5, 2) := by decide +kernel
theorem d_La_law_499 : decode b_La_law 499 = .ok (.aload_n 2, 1) := by decide +kernel
theorem d_La_law_500 : decode b_La_law 500 = .ok (.aload_n 0, 1) := by decide +kernel
theorem d_La_law_501 : decode b_La_law 501 = .ok (.iload 4, 2) := by decide +kernel
theorem d_La_law_503 : decode b_La_law 503 = .ok (.iconst 1, 1) := by decide +kernel
theorem d_La_law_504 : decode b_La_law 504 = .ok (.iadd, 1) := by decide +kernel
theorem d_La_law_505 : decode b_La_law 505 = .ok (.iaload, 1) := by decide +kernel
theorem d_La_law_506 : decode b_La_law 506 = .ok (.aload_n 0, 1) := by decide +kernel
theorem d_La_law_507 : decode b_La_law 507 = .ok (.iload 4, 2) := by decide +kernel
theorem d_La_law_509 : decode b_La_law 509 = .ok (.iconst 2, 1) := by decide +kernel
theorem d_La_law_510 : decode b_La_law 510 = .ok (.iadd, 1) := by decide +kernel
theorem d_La_law_511 : decode b_La_law 511 = .ok (.iaload, 1) := by decide +kernel
theorem d_La_law_512 : decode b_La_law 512 = .ok (.invokevirtual 105, 3) := by decide +kernel
theorem d_La_law_515 : decode b_La_law 515 = .ok (.istore 6, 2) := by decide +kernel
theorem d_La_law_517 : decode b_La_law 517 = .ok (.aload_n 2, 1) := by decide +kernel
theorem d_La_law_518 : decode b_La_law 518 = .ok (.invokevirtual 91, 3) := by decide +kernel
theorem d_La_law_521 : decode b_La_law 521 = .ok (.iload 5, 2) := by decide +kernel
theorem d_La_law_523 : decode b_La_law 523 = .ok (.if_icmp .eq 5, 3) := by decide +kernel
theorem d_La_law_526 : decode b_La_law 526 = .ok (.iconst 0, 1) := by decide +kernel
theorem d_La_law_527 : decode b_La_law 527 = .ok (.ireturn, 1) := by decide +kernel
theorem d_La_law_528 : decode b_La_law 528 = .ok (.iload 5, 2) := by decide +kernel
theorem d_La_law_530 : decode b_La_law 530 = .ok (.ifCond .ne 15, 3) := by decide +kernel
theorem d_La_law_533 : decode b_La_law 533 = .ok (.aload_n 3, 1) := by decide +kernel
theorem d_La_law_534 : decode b_La_law 534 = .ok (.iconst 0, 1) := by decide +kernel
theorem d_La_law_535 : decode b_La_law 535 = .ok (.laload, 1) := by decide +kernel
theorem d_La_law_536 : decode b_La_law 536 = .ok (.iload 6, 2) := by decide +kernel
theorem d_La_law_538 : decode b_La_law 538 = .ok (.i2l, 1) := by decide +kernel
theorem d_La_law_539 : decode b_La_law 539 = .ok (.lcmp, 1) := by decide +kernel
theorem d_La_law_540 : decode b_La_law 540 = .ok (.ifCond .eq 5, 3) := by decide +kernel
theorem d_La_law_543 : decode b_La_law 543 = .ok (.iconst 0, 1) := by decide +kernel
theorem d_La_law_544 : decode b_La_law 544 = .ok (.ireturn, 1) := by decide +kernel
theorem d_La_law_545 : decode b_La_law 545 = .ok (.goto 742, 3) := by decide +kernel
theorem d_La_law_548 : decode b_La_law 548 = .ok (.aload_n 1, 1) := by decide +kernel
theorem d_La_law_549 : decode b_La_law 549 = .ok (.aload_n 0, 1) := by decide +kernel
theorem d_La_law_550 : decode b_La_law 550 = .ok (.iload 4, 2) := by decide +kernel
theorem d_La_law_552 : decode b_La_law 552 = .ok (.iconst 1, 1) := by decide +kernel
theorem d_La_law_553 : decode b_La_law 553 = .ok (.iadd, 1) := by decide +kernel
theorem d_La_law_554 : decode b_La_law 554 = .ok (.iaload, 1) := by decide +kernel
theorem d_La_law_555 : decode b_La_law 555 = .ok (.aload_n 0, 1) := by decide +kernel
theorem d_La_law_556 : decode b_La_law 556 = .ok (.iload 4, 2) := by decide +kernel
theorem d_La_law_558 : decode b_La_law 558 = .ok (.iconst 2, 1) := by decide +kernel
theorem d_La_law_559 : decode b_La_law 559 = .ok (.iadd, 1) := by decide +kernel
theorem d_La_law_560 : decode b_La_law 560 = .ok (.iaload, 1) := by decide +kernel
theorem d_La_law_561 : decode b_La_law 561 = .ok (.aload_n 3, 1) := by decide +kernel
theorem d_La_law_562 : decode b_La_law 562 = .ok (.invokestatic 106, 3) := by decide +kernel
theorem d_La_law_565 : decode b_La_law 565 = .ok (.istore 5, 2) := by decide +kernel
theorem d_La_law_567 : decode b_La_law 567 = .ok (.aload_n 2, 1) := by decide +kernel
theorem d_La_law_568 : decode b_La_law 568 = .ok (.aload_n 0, 1) := by decide +kernel
theorem d_La_law_569 : decode b_La_law 569 = .ok (.iload 4, 2) := by decide +kernel
theorem d_La_law_571 : decode b_La_law 571 = .ok (.iconst 1, 1) := by decide +kernel
theorem d_La_law_572 : decode b_La_law 572 = .ok (.iadd, 1) := by decide +kernel
theorem d_La_law_573 : decode b_La_law 573 = .ok (.iaload, 1) := by decide +kernel
theorem d_La_law_574 : decode b_La_law 574 = .ok (.aload_n 0, 1) := by decide +kernel
theorem d_La_law_575 : decode b_La_law 575 = .ok (.iload 4, 2) := by decide +kernel
theorem d_La_law_577 : decode b_La_law 577 = .ok (.iconst 2, 1) := by decide +kernel
theorem d_La_law_578 : decode b_La_law 578 = .ok (.iadd, 1) := by decide +kernel
theorem d_La_law_579 : decode b_La_law 579 = .ok (.iaload, 1) := by decide +kernel
theorem d_La_law_580 : decode b_La_law 580 = .ok (.invokevirtual 108, 3) := by decide +kernel
theorem d_La_law_583 : decode b_La_law 583 = .ok (.istore 6, 2) := by decide +kernel
theorem d_La_law_585 : decode b_La_law 585 = .ok (.aload_n 2, 1) := by decide +kernel
theorem d_La_law_586 : decode b_La_law 586 = .ok (.invokevirtual 91, 3) := by decide +kernel
theorem d_La_law_589 : decode b_La_law 589 = .ok (.iload 5, 2) := by decide +kernel
theorem d_La_law_591 : decode b_La_law 591 = .ok (.if_icmp .eq 5, 3) := by decide +kernel
theorem d_La_law_594 : decode b_La_law 594 = .ok (.iconst 0, 1) := by decide +kernel
theorem d_La_law_595 : decode b_La_law 595 = .ok (.ireturn, 1) := by decide +kernel
theorem d_La_law_596 : decode b_La_law 596 = .ok (.iload 5, 2) := by decide +kernel
theorem d_La_law_598 : decode b_La_law 598 = .ok (.ifCond .ne 15, 3) := by decide +kernel
theorem d_La_law_601 : decode b_La_law 601 = .ok (.aload_n 3, 1) := by decide +kernel
theorem d_La_law_602 : decode b_La_law 602 = .ok (.iconst 0, 1) := by decide +kernel
theorem d_La_law_603 : decode b_La_law 603 = .ok (.laload, 1) := by decide +kernel
theorem d_La_law_604 : decode b_La_law 604 = .ok (.iload 6, 2) := by decide +kernel
theorem d_La_law_606 : decode b_La_law 606 = .ok (.i2l, 1) := by decide +kernel
theorem d_La_law_607 : decode b_La_law 607 = .ok (.lcmp, 1) := by decide +kernel
theorem d_La_law_608 : decode b_La_law 608 = .ok (.ifCond .eq 5, 3) := by decide +kernel
theorem d_La_law_611 : decode b_La_law 611 = .ok (.iconst 0, 1) := by decide +kernel
theorem d_La_law_612 : decode b_La_law 612 = .ok (.ireturn, 1) := by decide +kernel
theorem d_La_law_613 : decode b_La_law 613 = .ok (.goto 674, 3) := by decide +kernel
theorem d_La_law_616 : decode b_La_law 616 = .ok (.aload_n 1, 1) := by decide +kernel
theorem d_La_law_617 : decode b_La_law 617 = .ok (.aload_n 0, 1) := by decide +kernel
theorem d_La_law_618 : decode b_La_law 618 = .ok (.iload 4, 2) := by decide +kernel
theorem d_La_law_620 : decode b_La_law 620 = .ok (.iconst 1, 1) := by decide +kernel
theorem d_La_law_621 : decode b_La_law 621 = .ok (.iadd, 1) := by decide +kernel
theorem d_La_law_622 : decode b_La_law 622 = .ok (.iaload, 1) := by decide +kernel
theorem d_La_law_623 : decode b_La_law 623 = .ok (.aload_n 3, 1) := by decide +kernel
theorem d_La_law_624 : decode b_La_law 624 = .ok (.invokestatic 109, 3) := by decide +kernel
theorem d_La_law_627 : decode b_La_law 627 = .ok (.istore 5, 2) := by decide +kernel
theorem d_La_law_629 : decode b_La_law 629 = .ok (.aload_n 2, 1) := by decide +kernel
theorem d_La_law_630 : decode b_La_law 630 = .ok (.aload_n 0, 1) := by decide +kernel
theorem d_La_law_631 : decode b_La_law 631 = .ok (.iload 4, 2) := by decide +kernel
theorem d_La_law_633 : decode b_La_law 633 = .ok (.iconst 1, 1) := by decide +kernel
theorem d_La_law_634 : decode b_La_law 634 = .ok (.iadd, 1) := by decide +kernel
theorem d_La_law_635 : decode b_La_law 635 = .ok (.iaload, 1) := by decide +kernel
theorem d_La_law_636 : decode b_La_law 636 = .ok (.invokevirtual 111, 3) := by decide +kernel
theorem d_La_law_639 : decode b_La_law 639 = .ok (.istore 6, 2) := by decide +kernel
theorem d_La_law_641 : decode b_La_law 641 = .ok (.aload_n 2, 1) := by decide +kernel
theorem d_La_law_642 : decode b_La_law 642 = .ok (.invokevirtual 91, 3) := by decide +kernel
theorem d_La_law_645 : decode b_La_law 645 = .ok (.iload 5, 2) := by decide +kernel
theorem d_La_law_647 : decode b_La_law 647 = .ok (.if_icmp .eq 5, 3) := by decide +kernel
theorem d_La_law_650 : decode b_La_law 650 = .ok (.iconst 0, 1) := by decide +kernel
theorem d_La_law_651 : decode b_La_law 651 = .ok (.ireturn, 1) := by decide +kernel
theorem d_La_law_652 : decode b_La_law 652 = .ok (.iload 5, 2) := by decide +kernel
theorem d_La_law_654 : decode b_La_law 654 = .ok (.ifCond .ne 15, 3) := by decide +kernel
theorem d_La_law_657 : decode b_La_law 657 = .ok (.aload_n 3, 1) := by decide +kernel
theorem d_La_law_658 : decode b_La_law 658 = .ok (.iconst 0, 1) := by decide +kernel
theorem d_La_law_659 : decode b_La_law 659 = .ok (.laload, 1) := by decide +kernel
theorem d_La_law_660 : decode b_La_law 660 = .ok (.iload 6, 2) := by decide +kernel
theorem d_La_law_662 : decode b_La_law 662 = .ok (.i2l, 1) := by decide +kernel
theorem d_La_law_663 : decode b_La_law 663 = .ok (.lcmp, 1) := by decide +kernel
theorem d_La_law_664 : decode b_La_law 664 = .ok (.ifCond .eq 5, 3) := by decide +kernel
theorem d_La_law_667 : decode b_La_law 667 = .ok (.iconst 0, 1) := by decide +kernel
theorem d_La_law_668 : decode b_La_law 668 = .ok (.ireturn, 1) := by decide +kernel
theorem d_La_law_669 : decode b_La_law 669 = .ok (.goto 618, 3) := by decide +kernel
theorem d_La_law_672 : decode b_La_law 672 = .ok (.aload_n 1, 1) := by decide +kernel
theorem d_La_law_673 : decode b_La_law 673 = .ok (.aload_n 0, 1) := by decide +kernel
theorem d_La_law_674 : decode b_La_law 674 = .ok (.iload 4, 2) := by decide +kernel
theorem d_La_law_676 : decode b_La_law 676 = .ok (.iconst 1, 1) := by decide +kernel
theorem d_La_law_677 : decode b_La_law 677 = .ok (.iadd, 1) := by decide +kernel
theorem d_La_law_678 : decode b_La_law 678 = .ok (.iaload, 1) := by decide +kernel
theorem d_La_law_679 : decode b_La_law 679 = .ok (.aload_n 0, 1) := by decide +kernel
theorem d_La_law_680 : decode b_La_law 680 = .ok (.iload 4, 2) := by decide +kernel
theorem d_La_law_682 : decode b_La_law 682 = .ok (.iconst 2, 1) := by decide +kernel
theorem d_La_law_683 : decode b_La_law 683 = .ok (.iadd, 1) := by decide +kernel
theorem d_La_law_684 : decode b_La_law 684 = .ok (.iaload, 1) := by decide +kernel
theorem d_La_law_685 : decode b_La_law 685 = .ok (.aload_n 3, 1) := by decide +kernel
theorem d_La_law_686 : decode b_La_law 686 = .ok (.invokestatic 112, 3) := by decide +kernel
theorem d_La_law_689 : decode b_La_law 689 = .ok (.istore 5, 2) := by decide +kernel
theorem d_La_law_691 : decode b_La_law 691 = .ok (.aload_n 2, 1) := by decide +kernel
theorem d_La_law_692 : decode b_La_law 692 = .ok (.aload_n 0, 1) := by decide +kernel
theorem d_La_law_693 : decode b_La_law 693 = .ok (.iload 4, 2) := by decide +kernel
theorem d_La_law_695 : decode b_La_law 695 = .ok (.iconst 1, 1) := by decide +kernel
theorem d_La_law_696 : decode b_La_law 696 = .ok (.iadd, 1) := by decide +kernel
theorem d_La_law_697 : decode b_La_law 697 = .ok (.iaload, 1) := by decide +kernel
theorem d_La_law_698 : decode b_La_law 698 = .ok (.aload_n 0, 1) := by decide +kernel
theorem d_La_law_699 : decode b_La_law 699 = .ok (.iload 4, 2) := by decide +kernel
theorem d_La_law_701 : decode b_La_law 701 = .ok (.iconst 2, 1) := by decide +kernel
theorem d_La_law_702 : decode b_La_law 702 = .ok (.iadd, 1) := by decide +kernel
theorem d_La_law_703 : decode b_La_law 703 = .ok (.iaload, 1) := by decide +kernel
theorem d_La_law_704 : decode b_La_law 704 = .ok (.invokevirtual 114, 3) := by decide +kernel
theorem d_La_law_707 : decode b_La_law 707 = .ok (.istore 6, 2) := by decide +kernel
theorem d_La_law_709 : decode b_La_law 709 = .ok (.aload_n 2, 1) := by decide +kernel
theorem d_La_law_710 : decode b_La_law 710 = .ok (.invokevirtual 91, 3) := by decide +kernel
theorem d_La_law_713 : decode b_La_law 713 = .ok (.iload 5, 2) := by decide +kernel
theorem d_La_law_715 : decode b_La_law 715 = .ok (.if_icmp .eq 5, 3) := by decide +kernel
theorem d_La_law_718 : decode b_La_law 718 = .ok (.iconst 0, 1) := by decide +kernel
theorem d_La_law_719 : decode b_La_law 719 = .ok (.ireturn, 1) := by decide +kernel
theorem d_La_law_720 : decode b_La_law 720 = .ok (.iload 5, 2) := by decide +kernel
theorem d_La_law_722 : decode b_La_law 722 = .ok (.ifCond .ne 15, 3) := by decide +kernel
theorem d_La_law_725 : decode b_La_law 725 = .ok (.aload_n 3, 1) := by decide +kernel
theorem d_La_law_726 : decode b_La_law 726 = .ok (.iconst 0, 1) := by decide +kernel
theorem d_La_law_727 : decode b_La_law 727 = .ok (.laload, 1) := by decide +kernel
theorem d_La_law_728 : decode b_La_law 728 = .ok (.iload 6, 2) := by decide +kernel
theorem d_La_law_730 : decode b_La_law 730 = .ok (.i2l, 1) := by decide +kernel
theorem d_La_law_731 : decode b_La_law 731 = .ok (.lcmp, 1) := by decide +kernel
theorem d_La_law_732 : decode b_La_law 732 = .ok (.ifCond .eq 5, 3) := by decide +kernel
theorem d_La_law_735 : decode b_La_law 735 = .ok (.iconst 0, 1) := by decide +kernel
theorem d_La_law_736 : decode b_La_law 736 = .ok (.ireturn, 1) := by decide +kernel
theorem d_La_law_737 : decode b_La_law 737 = .ok (.goto 550, 3) := by decide +kernel
theorem d_La_law_740 : decode b_La_law 740 = .ok (.aload_n 1, 1) := by decide +kernel
theorem d_La_law_741 : decode b_La_law 741 = .ok (.aload_n 0, 1) := by decide +kernel
theorem d_La_law_742 : decode b_La_law 742 = .ok (.iload 4, 2) := by decide +kernel
theorem d_La_law_744 : decode b_La_law 744 = .ok (.iconst 1, 1) := by decide +kernel
theorem d_La_law_745 : decode b_La_law 745 = .ok (.iadd, 1) := by decide +kernel
theorem d_La_law_746 : decode b_La_law 746 = .ok (.iaload, 1) := by decide +kernel
theorem d_La_law_747 : decode b_La_law 747 = .ok (.aload_n 3, 1) := by decide +kernel
theorem d_La_law_748 : decode b_La_law 748 = .ok (.invokestatic 115, 3) := by decide +kernel
theorem d_La_law_751 : decode b_La_law 751 = .ok (.istore 5, 2) := by decide +kernel
theorem d_La_law_753 : decode b_La_law 753 = .ok (.aload_n 2, 1) := by decide +kernel
theorem d_La_law_754 : decode b_La_law 754 = .ok (.aload_n 0, 1) := by decide +kernel
theorem d_La_law_755 : decode b_La_law 755 = .ok (.iload 4, 2) := by decide +kernel
theorem d_La_law_757 : decode b_La_law 757 = .ok (.iconst 1, 1) := by decide +kernel
theorem d_La_law_758 : decode b_La_law 758 = .ok (.iadd, 1) := by decide +kernel
theorem d_La_law_759 : decode b_La_law 759 = .ok (.iaload, 1) := by decide +kernel
theorem d_La_law_760 : decode b_La_law 760 = .ok (.invokevirtual 117, 3) := by decide +kernel
theorem d_La_law_763 : decode b_La_law 763 = .ok (.istore 6, 2) := by decide +kernel
theorem d_La_law_765 : decode b_La_law 765 = .ok (.aload_n 2, 1) := by decide +kernel
theorem d_La_law_766 : decode b_La_law 766 = .ok (.invokevirtual 91, 3) := by decide +kernel
theorem d_La_law_769 : decode b_La_law 769 = .ok (.iload 5, 2) := by decide +kernel
theorem d_La_law_771 : decode b_La_law 771 = .ok (.if_icmp .eq 5, 3) := by decide +kernel
theorem d_La_law_774 : decode b_La_law 774 = .ok (.iconst 0, 1) := by decide +kernel
theorem d_La_law_775 : decode b_La_law 775 = .ok (.ireturn, 1) := by decide +kernel
theorem d_La_law_776 : decode b_La_law 776 = .ok (.iload 5, 2) := by decide +kernel
theorem d_La_law_778 : decode b_La_law 778 = .ok (.ifCond .ne 15, 3) := by decide +kernel
theorem d_La_law_781 : decode b_La_law 781 = .ok (.aload_n 3, 1) := by decide +kernel
theorem d_La_law_782 : decode b_La_law 782 = .ok (.iconst 0, 1) := by decide +kernel
theorem d_La_law_783 : decode b_La_law 783 = .ok (.laload, 1) := by decide +kernel
theorem d_La_law_784 : decode b_La_law 784 = .ok (.iload 6, 2) := by decide +kernel
theorem d_La_law_786 : decode b_La_law 786 = .ok (.i2l, 1) := by decide +kernel
theorem d_La_law_787 : decode b_La_law 787 = .ok (.lcmp, 1) := by decide +kernel
theorem d_La_law_788 : decode b_La_law 788 = .ok (.ifCond .eq 5, 3) := by decide +kernel
theorem d_La_law_791 : decode b_La_law 791 = .ok (.iconst 0, 1) := by decide +kernel
theorem d_La_law_792 : decode b_La_law 792 = .ok (.ireturn, 1) := by decide +kernel
theorem d_La_law_793 : decode b_La_law 793 = .ok (.goto 494, 3) := by decide +kernel
theorem d_La_law_796 : decode b_La_law 796 = .ok (.aload_n 1, 1) := by decide +kernel
theorem d_La_law_797 : decode b_La_law 797 = .ok (.aload_n 0, 1) := by decide +kernel
theorem d_La_law_798 : decode b_La_law 798 = .ok (.iload 4, 2) := by decide +kernel
theorem d_La_law_800 : decode b_La_law 800 = .ok (.iconst 1, 1) := by decide +kernel
theorem d_La_law_801 : decode b_La_law 801 = .ok (.iadd, 1) := by decide +kernel
theorem d_La_law_802 : decode b_La_law 802 = .ok (.iaload, 1) := by decide +kernel
theorem d_La_law_803 : decode b_La_law 803 = .ok (.aload_n 0, 1) := by decide +kernel
theorem d_La_law_804 : decode b_La_law 804 = .ok (.iload 4, 2) := by decide +kernel
theorem d_La_law_806 : decode b_La_law 806 = .ok (.iconst 2, 1) := by decide +kernel
theorem d_La_law_807 : decode b_La_law 807 = .ok (.iadd, 1) := by decide +kernel
theorem d_La_law_808 : decode b_La_law 808 = .ok (.iaload, 1) := by decide +kernel
theorem d_La_law_809 : decode b_La_law 809 = .ok (.aload_n 3, 1) := by decide +kernel
theorem d_La_law_810 : decode b_La_law 810 = .ok (.invokestatic 118, 3) := by decide +kernel
theorem d_La_law_813 : decode b_La_law 813 = .ok (.istore 5, 2) := by decide +kernel
theorem d_La_law_815 : decode b_La_law 815 = .ok (.aload_n 2, 1) := by decide +kernel
theorem d_La_law_816 : decode b_La_law 816 = .ok (.aload_n 0, 1) := by decide +kernel
theorem d_La_law_817 : decode b_La_law 817 = .ok (.iload 4, 2) := by decide +kernel
theorem d_La_law_819 : decode b_La_law 819 = .ok (.iconst 1, 1) := by decide +kernel
theorem d_La_law_820 : decode b_La_law 820 = .ok (.iadd, 1) := by decide +kernel
theorem d_La_law_821 : decode b_La_law 821 = .ok (.iaload, 1) := by decide +kernel
theorem d_La_law_822 : decode b_La_law 822 = .ok (.aload_n 0, 1) := by decide +kernel
theorem d_La_law_823 : decode b_La_law 823 = .ok (.iload 4, 2) := by decide +kernel
theorem d_La_law_825 : decode b_La_law 825 = .ok (.iconst 2, 1) := by decide +kernel
theorem d_La_law_826 : decode b_La_law 826 = .ok (.iadd, 1) := by decide +kernel
theorem d_La_law_827 : decode b_La_law 827 = .ok (.iaload, 1) := by decide +kernel
theorem d_La_law_828 : decode b_La_law 828 = .ok (.invokevirtual 120, 3) := by decide +kernel
theorem d_La_law_831 : decode b_La_law 831 = .ok (.istore 6, 2) := by decide +kernel
theorem d_La_law_833 : decode b_La_law 833 = .ok (.aload_n 2, 1) := by decide +kernel
theorem d_La_law_834 : decode b_La_law 834 = .ok (.invokevirtual 91, 3) := by decide +kernel
theorem d_La_law_837 : decode b_La_law 837 = .ok (.iload 5, 2) := by decide +kernel
theorem d_La_law_839 : decode b_La_law 839 = .ok (.if_icmp .eq 5, 3) := by decide +kernel
theorem d_La_law_842 : decode b_La_law 842 = .ok (.iconst 0, 1) := by decide +kernel
theorem d_La_law_843 : decode b_La_law 843 = .ok (.ireturn, 1) := by decide +kernel
theorem d_La_law_844 : decode b_La_law 844 = .ok (.iload 5, 2) := by decide +kernel
theorem d_La_law_846 : decode b_La_law 846 = .ok (.ifCond .ne 15, 3) := by decide +kernel
theorem d_La_law_849 : decode b_La_law 849 = .ok (.aload_n 3, 1) := by decide +kernel
theorem d_La_law_850 : decode b_La_law 850 = .ok (.iconst 0, 1) := by decide +kernel
theorem d_La_law_851 : decode b_La_law 851 = .ok (.laload, 1) := by decide +kernel
theorem d_La_law_852 : decode b_La_law 852 = .ok (.iload 6, 2) := by decide +kernel
theorem d_La_law_854 : decode b_La_law 854 = .ok (.i2l, 1) := by decide +kernel
theorem d_La_law_855 : decode b_La_law 855 = .ok (.lcmp, 1) := by decide +kernel
theorem d_La_law_856 : decode b_La_law 856 = .ok (.ifCond .eq 5, 3) := by decide +kernel
theorem d_La_law_859 : decode b_La_law 859 = .ok (.iconst 0, 1) := by decide +kernel
theorem d_La_law_860 : decode b_La_law 860 = .ok (.ireturn, 1) := by decide +kernel
theorem d_La_law_861 : decode b_La_law 861 = .ok (.goto 426, 3) := by decide +kernel
theorem d_La_law_864 : decode b_La_law 864 = .ok (.aload_n 1, 1) := by decide +kernel
theorem d_La_law_865 : decode b_La_law 865 = .ok (.aload_n 0, 1) := by decide +kernel
theorem d_La_law_866 : decode b_La_law 866 = .ok (.iload 4, 2) := by decide +kernel
theorem d_La_law_868 : decode b_La_law 868 = .ok (.iconst 1, 1) := by decide +kernel
theorem d_La_law_869 : decode b_La_law 869 = .ok (.iadd, 1) := by decide +kernel
theorem d_La_law_870 : decode b_La_law 870 = .ok (.iaload, 1) := by decide +kernel
theorem d_La_law_871 : decode b_La_law 871 = .ok (.aload_n 0, 1) := by decide +kernel
theorem d_La_law_872 : decode b_La_law 872 = .ok (.iload 4, 2) := by decide +kernel
theorem d_La_law_874 : decode b_La_law 874 = .ok (.iconst 2, 1) := by decide +kernel
theorem d_La_law_875 : decode b_La_law 875 = .ok (.iadd, 1) := by decide +kernel
theorem d_La_law_876 : decode b_La_law 876 = .ok (.iaload, 1) := by decide +kernel
theorem d_La_law_877 : decode b_La_law 877 = .ok (.aload_n 0, 1) := by decide +kernel
theorem d_La_law_878 : decode b_La_law 878 = .ok (.iload 4, 2) := by decide +kernel
theorem d_La_law_880 : decode b_La_law 880 = .ok (.iconst 3, 1) := by decide +kernel
theorem d_La_law_881 : decode b_La_law 881 = .ok (.iadd, 1) := by decide +kernel
theorem d_La_law_882 : decode b_La_law 882 = .ok (.iaload, 1) := by decide +kernel
theorem d_La_law_883 : decode b_La_law 883 = .ok (.aload_n 0, 1) := by decide +kernel
theorem d_La_law_884 : decode b_La_law 884 = .ok (.iload 4, 2) := by decide +kernel
theorem d_La_law_886 : decode b_La_law 886 = .ok (.iconst 4, 1) := by decide +kernel
theorem d_La_law_887 : decode b_La_law 887 = .ok (.iadd, 1) := by decide +kernel
theorem d_La_law_888 : decode b_La_law 888 = .ok (.iaload, 1) := by decide +kernel
theorem d_La_law_889 : decode b_La_law 889 = .ok (.aload_n 0, 1) := by decide +kernel
theorem d_La_law_890 : decode b_La_law 890 = .ok (.iload 4, 2) := by decide +kernel
theorem d_La_law_892 : decode b_La_law 892 = .ok (.iconst 5, 1) := by decide +kernel
theorem d_La_law_893 : decode b_La_law 893 = .ok (.iadd, 1) := by decide +kernel
