theorem dL_acts_498 : decode cL_acts 498 = .ok (.ireturn, 1) := by decide +kernel
theorem dL_acts_499 : decode cL_acts 499 = .ok (.bipush 12, 2) := by decide +kernel
theorem dL_acts_501 : decode cL_acts 501 = .ok (.iconst 4, 1) := by decide +kernel
theorem dL_acts_502 : decode cL_acts 502 = .ok (.aload_n 1, 1) := by decide +kernel
theorem dL_acts_503 : decode cL_acts 503 = .ok (.iconst 4, 1) := by decide +kernel
theorem dL_acts_504 : decode cL_acts 504 = .ok (.iaload, 1) := by decide +kernel
theorem dL_acts_505 : decode cL_acts 505 = .ok (.imul, 1) := by decide +kernel
theorem dL_acts_506 : decode cL_acts 506 = .ok (.iadd, 1) := by decide +kernel
theorem dL_acts_507 : decode cL_acts 507 = .ok (.istore 10, 2) := by decide +kernel
theorem dL_acts_509 : decode cL_acts 509 = .ok (.aload_n 3, 1) := by decide +kernel
theorem dL_acts_510 : decode cL_acts 510 = .ok (.iload 10, 2) := by decide +kernel
theorem dL_acts_512 : decode cL_acts 512 = .ok (.iload 5, 2) := by decide +kernel
theorem dL_acts_514 : decode cL_acts 514 = .ok (.iconst 2, 1) := by decide +kernel
theorem dL_acts_515 : decode cL_acts 515 = .ok (.irem, 1) := by decide +kernel
theorem dL_acts_516 : decode cL_acts 516 = .ok (.iastore, 1) := by decide +kernel
theorem dL_acts_517 : decode cL_acts 517 = .ok (.aload_n 3, 1) := by decide +kernel
theorem dL_acts_518 : decode cL_acts 518 = .ok (.iload 10, 2) := by decide +kernel
theorem dL_acts_520 : decode cL_acts 520 = .ok (.iconst 1, 1) := by decide +kernel
theorem dL_acts_521 : decode cL_acts 521 = .ok (.iadd, 1) := by decide +kernel
theorem dL_acts_522 : decode cL_acts 522 = .ok (.iload 5, 2) := by decide +kernel
theorem dL_acts_524 : decode cL_acts 524 = .ok (.iconst 2, 1) := by decide +kernel
theorem dL_acts_525 : decode cL_acts 525 = .ok (.idiv, 1) := by decide +kernel
theorem dL_acts_526 : decode cL_acts 526 = .ok (.sipush 1200, 3) := by decide +kernel
theorem dL_acts_529 : decode cL_acts 529 = .ok (.irem, 1) := by decide +kernel
theorem dL_acts_530 : decode cL_acts 530 = .ok (.bipush 100, 2) := by decide +kernel
theorem dL_acts_532 : decode cL_acts 532 = .ok (.isub, 1) := by decide +kernel
theorem dL_acts_533 : decode cL_acts 533 = .ok (.iastore, 1) := by decide +kernel
theorem dL_acts_534 : decode cL_acts 534 = .ok (.aload_n 3, 1) := by decide +kernel
theorem dL_acts_535 : decode cL_acts 535 = .ok (.iload 10, 2) := by decide +kernel
theorem dL_acts_537 : decode cL_acts 537 = .ok (.iconst 2, 1) := by decide +kernel
theorem dL_acts_538 : decode cL_acts 538 = .ok (.iadd, 1) := by decide +kernel
theorem dL_acts_539 : decode cL_acts 539 = .ok (.iload 5, 2) := by decide +kernel
theorem dL_acts_541 : decode cL_acts 541 = .ok (.iconst 3, 1) := by decide +kernel
theorem dL_acts_542 : decode cL_acts 542 = .ok (.idiv, 1) := by decide +kernel
theorem dL_acts_543 : decode cL_acts 543 = .ok (.sipush 1000, 3) := by decide +kernel
theorem dL_acts_546 : decode cL_acts 546 = .ok (.irem, 1) := by decide +kernel
theorem dL_acts_547 : decode cL_acts 547 = .ok (.bipush 100, 2) := by decide +kernel
theorem dL_acts_549 : decode cL_acts 549 = .ok (.isub, 1) := by decide +kernel
theorem dL_acts_550 : decode cL_acts 550 = .ok (.iastore, 1) := by decide +kernel
theorem dL_acts_551 : decode cL_acts 551 = .ok (.aload_n 3, 1) := by decide +kernel
theorem dL_acts_552 : decode cL_acts 552 = .ok (.iload 10, 2) := by decide +kernel
theorem dL_acts_554 : decode cL_acts 554 = .ok (.iconst 3, 1) := by decide +kernel
theorem dL_acts_555 : decode cL_acts 555 = .ok (.iadd, 1) := by decide +kernel
theorem dL_acts_556 : decode cL_acts 556 = .ok (.aload_n 3, 1) := by decide +kernel
theorem dL_acts_557 : decode cL_acts 557 = .ok (.iload 10, 2) := by decide +kernel
theorem dL_acts_559 : decode cL_acts 559 = .ok (.iconst 2, 1) := by decide +kernel
theorem dL_acts_560 : decode cL_acts 560 = .ok (.iadd, 1) := by decide +kernel
theorem dL_acts_561 : decode cL_acts 561 = .ok (.iaload, 1) := by decide +kernel
theorem dL_acts_562 : decode cL_acts 562 = .ok (.iconst 1, 1) := by decide +kernel
theorem dL_acts_563 : decode cL_acts 563 = .ok (.iadd, 1) := by decide +kernel
theorem dL_acts_564 : decode cL_acts 564 = .ok (.iload 5, 2) := by decide +kernel
theorem dL_acts_566 : decode cL_acts 566 = .ok (.bipush 7, 2) := by decide +kernel
theorem dL_acts_568 : decode cL_acts 568 = .ok (.idiv, 1) := by decide +kernel
theorem dL_acts_569 : decode cL_acts 569 = .ok (.sipush 900, 3) := by decide +kernel
theorem dL_acts_572 : decode cL_acts 572 = .ok (.irem, 1) := by decide +kernel
theorem dL_acts_573 : decode cL_acts 573 = .ok (.iadd, 1) := by decide +kernel
theorem dL_acts_574 : decode cL_acts 574 = .ok (.iastore, 1) := by decide +kernel
theorem dL_acts_575 : decode cL_acts 575 = .ok (.aload_n 1, 1) := by decide +kernel
theorem dL_acts_576 : decode cL_acts 576 = .ok (.iconst 4, 1) := by decide +kernel
theorem dL_acts_577 : decode cL_acts 577 = .ok (.dup2, 1) := by decide +kernel
theorem dL_acts_578 : decode cL_acts 578 = .ok (.iaload, 1) := by decide +kernel
theorem dL_acts_579 : decode cL_acts 579 = .ok (.iconst 1, 1) := by decide +kernel
theorem dL_acts_580 : decode cL_acts 580 = .ok (.iadd, 1) := by decide +kernel
theorem dL_acts_581 : decode cL_acts 581 = .ok (.iastore, 1) := by decide +kernel
theorem dL_acts_582 : decode cL_acts 582 = .ok (.aload_n 0, 1) := by decide +kernel
theorem dL_acts_583 : decode cL_acts 583 = .ok (.aload_n 3, 1) := by decide +kernel
theorem dL_acts_584 : decode cL_acts 584 = .ok (.iload 10, 2) := by decide +kernel
theorem dL_acts_586 : decode cL_acts 586 = .ok (.iaload, 1) := by decide +kernel
theorem dL_acts_587 : decode cL_acts 587 = .ok (.aload_n 3, 1) := by decide +kernel
theorem dL_acts_588 : decode cL_acts 588 = .ok (.iload 10, 2) := by decide +kernel
theorem dL_acts_590 : decode cL_acts 590 = .ok (.iconst 1, 1) := by decide +kernel
theorem dL_acts_591 : decode cL_acts 591 = .ok (.iadd, 1) := by decide +kernel
theorem dL_acts_592 : decode cL_acts 592 = .ok (.iaload, 1) := by decide +kernel
theorem dL_acts_593 : decode cL_acts 593 = .ok (.aload_n 3, 1) := by decide +kernel
theorem dL_acts_594 : decode cL_acts 594 = .ok (.iload 10, 2) := by decide +kernel
theorem dL_acts_596 : decode cL_acts 596 = .ok (.iconst 2, 1) := by decide +kernel
theorem dL_acts_597 : decode cL_acts 597 = .ok (.iadd, 1) := by decide +kernel
theorem dL_acts_598 : decode cL_acts 598 = .ok (.iaload, 1) := by decide +kernel
theorem dL_acts_599 : decode cL_acts 599 = .ok (.aload_n 3, 1) := by decide +kernel
theorem dL_acts_600 : decode cL_acts 600 = .ok (.iload 10, 2) := by decide +kernel
theorem dL_acts_602 : decode cL_acts 602 = .ok (.iconst 3, 1) := by decide +kernel
theorem dL_acts_603 : decode cL_acts 603 = .ok (.iadd, 1) := by decide +kernel
theorem dL_acts_604 : decode cL_acts 604 = .ok (.iaload, 1) := by decide +kernel
theorem dL_acts_605 : decode cL_acts 605 = .ok (.invokestatic 56, 3) := by decide +kernel
theorem dL_acts_608 : decode cL_acts 608 = .ok (.aload_n 1, 1) := by decide +kernel
theorem dL_acts_609 : decode cL_acts 609 = .ok (.iconst 4, 1) := by decide +kernel
theorem dL_acts_610 : decode cL_acts 610 = .ok (.iaload, 1) := by decide +kernel
theorem dL_acts_611 : decode cL_acts 611 = .ok (.iconst 1, 1) := by decide +kernel
theorem dL_acts_612 : decode cL_acts 612 = .ok (.isub, 1) := by decide +kernel
theorem dL_acts_613 : decode cL_acts 613 = .ok (.if_icmp .ne 7, 3) := by decide +kernel
theorem dL_acts_616 : decode cL_acts 616 = .ok (.iconst 1, 1) := by decide +kernel
theorem dL_acts_617 : decode cL_acts 617 = .ok (.goto 4, 3) := by decide +kernel
theorem dL_acts_620 : decode cL_acts 620 = .ok (.iconst 0, 1) := by decide +kernel
theorem dL_acts_621 : decode cL_acts 621 = .ok (.ireturn, 1) := by decide +kernel
theorem dL_acts_622 : decode cL_acts 622 = .ok (.iload 5, 2) := by decide +kernel
theorem dL_acts_624 : decode cL_acts 624 = .ok (.iconst 3, 1) := by decide +kernel
theorem dL_acts_625 : decode cL_acts 625 = .ok (.irem, 1) := by decide +kernel
theorem dL_acts_626 : decode cL_acts 626 = .ok (.istore 11, 2) := by decide +kernel
theorem dL_acts_628 : decode cL_acts 628 = .ok (.aload_n 1, 1) := by decide +kernel
theorem dL_acts_629 : decode cL_acts 629 = .ok (.iconst 2, 1) := by decide +kernel
theorem dL_acts_630 : decode cL_acts 630 = .ok (.iload 11, 2) := by decide +kernel
theorem dL_acts_632 : decode cL_acts 632 = .ok (.iadd, 1) := by decide +kernel
theorem dL_acts_633 : decode cL_acts 633 = .ok (.iaload, 1) := by decide +kernel
theorem dL_acts_634 : decode cL_acts 634 = .ok (.istore 12, 2) := by decide +kernel
theorem dL_acts_636 : decode cL_acts 636 = .ok (.iload 12, 2) := by decide +kernel
theorem dL_acts_638 : decode cL_acts 638 = .ok (.ifCond .eq 10, 3) := by decide +kernel
theorem dL_acts_641 : decode cL_acts 641 = .ok (.iload 5, 2) := by decide +kernel
theorem dL_acts_643 : decode cL_acts 643 = .ok (.iconst 4, 1) := by decide +kernel
theorem dL_acts_644 : decode cL_acts 644 = .ok (.irem, 1) := by decide +kernel
theorem dL_acts_645 : decode cL_acts 645 = .ok (.ifCond .le 22, 3) := by decide +kernel
theorem dL_acts_648 : decode cL_acts 648 = .ok (.aload_n 0, 1) := by decide +kernel
theorem dL_acts_649 : decode cL_acts 649 = .ok (.iload 11, 2) := by decide +kernel
theorem dL_acts_651 : decode cL_acts 651 = .ok (.iload 12, 2) := by decide +kernel
theorem dL_acts_653 : decode cL_acts 653 = .ok (.invokestatic 60, 3) := by decide +kernel
theorem dL_acts_656 : decode cL_acts 656 = .ok (.ldc 63, 2) := by decide +kernel
theorem dL_acts_658 : decode cL_acts 658 = .ok (.if_icmp .ne 7, 3) := by decide +kernel
theorem dL_acts_661 : decode cL_acts 661 = .ok (.iconst 1, 1) := by decide +kernel
theorem dL_acts_662 : decode cL_acts 662 = .ok (.goto 4, 3) := by decide +kernel
theorem dL_acts_665 : decode cL_acts 665 = .ok (.iconst 0, 1) := by decide +kernel
theorem dL_acts_666 : decode cL_acts 666 = .ok (.ireturn, 1) := by decide +kernel
theorem dL_acts_667 : decode cL_acts 667 = .ok (.iload 5, 2) := by decide +kernel
theorem dL_acts_669 : decode cL_acts 669 = .ok (.bipush 12, 2) := by decide +kernel
theorem dL_acts_671 : decode cL_acts 671 = .ok (.idiv, 1) := by decide +kernel
theorem dL_acts_672 : decode cL_acts 672 = .ok (.iload 12, 2) := by decide +kernel
theorem dL_acts_674 : decode cL_acts 674 = .ok (.irem, 1) := by decide +kernel
theorem dL_acts_675 : decode cL_acts 675 = .ok (.istore 13, 2) := by decide +kernel
theorem dL_acts_677 : decode cL_acts 677 = .ok (.aload_n 1, 1) := by decide +kernel
theorem dL_acts_678 : decode cL_acts 678 = .ok (.iconst 2, 1) := by decide +kernel
theorem dL_acts_679 : decode cL_acts 679 = .ok (.iload 11, 2) := by decide +kernel
theorem dL_acts_681 : decode cL_acts 681 = .ok (.iadd, 1) := by decide +kernel
theorem dL_acts_682 : decode cL_acts 682 = .ok (.dup2, 1) := by decide +kernel
theorem dL_acts_683 : decode cL_acts 683 = .ok (.iaload, 1) := by decide +kernel
theorem dL_acts_684 : decode cL_acts 684 = .ok (.iconst 1, 1) := by decide +kernel
theorem dL_acts_685 : decode cL_acts 685 = .ok (.isub, 1) := by decide +kernel
theorem dL_acts_686 : decode cL_acts 686 = .ok (.iastore, 1) := by decide +kernel
theorem dL_acts_687 : decode cL_acts 687 = .ok (.iload 11, 2) := by decide +kernel
theorem dL_acts_689 : decode cL_acts 689 = .ok (.ifCond .ne 22, 3) := by decide +kernel
theorem dL_acts_692 : decode cL_acts 692 = .ok (.aload_n 2, 1) := by decide +kernel
theorem dL_acts_693 : decode cL_acts 693 = .ok (.bipush 10, 2) := by decide +kernel
theorem dL_acts_695 : decode cL_acts 695 = .ok (.iload 13, 2) := by decide +kernel
theorem dL_acts_697 : decode cL_acts 697 = .ok (.imul, 1) := by decide +kernel
theorem dL_acts_698 : decode cL_acts 698 = .ok (.bipush 10, 2) := by decide +kernel
theorem dL_acts_700 : decode cL_acts 700 = .ok (.bipush 10, 2) := by decide +kernel
theorem dL_acts_702 : decode cL_acts 702 = .ok (.iload 12, 2) := by decide +kernel
theorem dL_acts_704 : decode cL_acts 704 = .ok (.imul, 1) := by decide +kernel
theorem dL_acts_705 : decode cL_acts 705 = .ok (.invokestatic 64, 3) := by decide +kernel
theorem dL_acts_708 : decode cL_acts 708 = .ok (.goto 58, 3) := by decide +kernel
theorem dL_acts_711 : decode cL_acts 711 = .ok (.aload_n 3, 1) := by decide +kernel
theorem dL_acts_712 : decode cL_acts 712 = .ok (.iload 11, 2) := by decide +kernel
theorem dL_acts_714 : decode cL_acts 714 = .ok (.iconst 1, 1) := by decide +kernel
theorem dL_acts_715 : decode cL_acts 715 = .ok (.if_icmp .ne 10, 3) := by decide +kernel
theorem dL_acts_718 : decode cL_acts 718 = .ok (.iconst 3, 1) := by decide +kernel
theorem dL_acts_719 : decode cL_acts 719 = .ok (.iload 13, 2) := by decide +kernel
theorem dL_acts_721 : decode cL_acts 721 = .ok (.imul, 1) := by decide +kernel
theorem dL_acts_722 : decode cL_acts 722 = .ok (.goto 10, 3) := by decide +kernel
theorem dL_acts_725 : decode cL_acts 725 = .ok (.bipush 12, 2) := by decide +kernel
theorem dL_acts_727 : decode cL_acts 727 = .ok (.iconst 4, 1) := by decide +kernel
theorem dL_acts_728 : decode cL_acts 728 = .ok (.iload 13, 2) := by decide +kernel
theorem dL_acts_730 : decode cL_acts 730 = .ok (.imul, 1) := by decide +kernel
theorem dL_acts_731 : decode cL_acts 731 = .ok (.iadd, 1) := by decide +kernel
theorem dL_acts_732 : decode cL_acts 732 = .ok (.iload 11, 2) := by decide +kernel
theorem dL_acts_734 : decode cL_acts 734 = .ok (.iconst 1, 1) := by decide +kernel
theorem dL_acts_735 : decode cL_acts 735 = .ok (.if_icmp .ne 7, 3) := by decide +kernel
theorem dL_acts_738 : decode cL_acts 738 = .ok (.iconst 3, 1) := by decide +kernel
theorem dL_acts_739 : decode cL_acts 739 = .ok (.goto 4, 3) := by decide +kernel
theorem dL_acts_742 : decode cL_acts 742 = .ok (.iconst 4, 1) := by decide +kernel
theorem dL_acts_743 : decode cL_acts 743 = .ok (.iload 11, 2) := by decide +kernel
theorem dL_acts_745 : decode cL_acts 745 = .ok (.iconst 1, 1) := by decide +kernel
theorem dL_acts_746 : decode cL_acts 746 = .ok (.if_icmp .ne 10, 3) := by decide +kernel
theorem dL_acts_749 : decode cL_acts 749 = .ok (.iconst 3, 1) := by decide +kernel
theorem dL_acts_750 : decode cL_acts 750 = .ok (.iload 12, 2) := by decide +kernel
theorem dL_acts_752 : decode cL_acts 752 = .ok (.imul, 1) := by decide +kernel
theorem dL_acts_753 : decode cL_acts 753 = .ok (.goto 10, 3) := by decide +kernel
theorem dL_acts_756 : decode cL_acts 756 = .ok (.bipush 12, 2) := by decide +kernel
theorem dL_acts_758 : decode cL_acts 758 = .ok (.iconst 4, 1) := by decide +kernel
theorem dL_acts_759 : decode cL_acts 759 = .ok (.iload 12, 2) := by decide +kernel
theorem dL_acts_761 : decode cL_acts 761 = .ok (.imul, 1) := by decide +kernel
theorem dL_acts_762 : decode cL_acts 762 = .ok (.iadd, 1) := by decide +kernel
theorem dL_acts_763 : decode cL_acts 763 = .ok (.invokestatic 64, 3) := by decide +kernel
theorem dL_acts_766 : decode cL_acts 766 = .ok (.aload_n 0, 1) := by decide +kernel
theorem dL_acts_767 : decode cL_acts 767 = .ok (.iload 11, 2) := by decide +kernel
theorem dL_acts_769 : decode cL_acts 769 = .ok (.iload 13, 2) := by decide +kernel
theorem dL_acts_771 : decode cL_acts 771 = .ok (.invokestatic 60, 3) := by decide +kernel
theorem dL_acts_774 : decode cL_acts 774 = .ok (.iload 12, 2) := by decide +kernel
theorem dL_acts_776 : decode cL_acts 776 = .ok (.iconst 1, 1) := by decide +kernel
theorem dL_acts_777 : decode cL_acts 777 = .ok (.isub, 1) := by decide +kernel
theorem dL_acts_778 : decode cL_acts 778 = .ok (.if_icmp .ne 7, 3) := by decide +kernel
theorem dL_acts_781 : decode cL_acts 781 = .ok (.iconst 1, 1) := by decide +kernel
theorem dL_acts_782 : decode cL_acts 782 = .ok (.goto 4, 3) := by decide +kernel
theorem dL_acts_785 : decode cL_acts 785 = .ok (.iconst 0, 1) := by decide +kernel
theorem dL_acts_786 : decode cL_acts 786 = .ok (.ireturn, 1) := by decide +kernel
theorem dL_acts_787 : decode cL_acts 787 = .ok (.iload 5, 2) := by decide +kernel
theorem dL_acts_789 : decode cL_acts 789 = .ok (.bipush 7, 2) := by decide +kernel
theorem dL_acts_791 : decode cL_acts 791 = .ok (.irem, 1) := by decide +kernel
theorem dL_acts_792 : decode cL_acts 792 = .ok (.istore 14, 2) := by decide +kernel
theorem dL_acts_794 : decode cL_acts 794 = .ok (.iload 14, 2) := by decide +kernel
theorem dL_acts_796 : decode cL_acts 796 = .ok (.invokestatic 68, 3) := by decide +kernel
theorem dL_acts_799 : decode cL_acts 799 = .ok (.iload 5, 2) := by decide +kernel
theorem dL_acts_801 : decode cL_acts 801 = .ok (.bipush 7, 2) := by decide +kernel
theorem dL_acts_803 : decode cL_acts 803 = .ok (.idiv, 1) := by decide +kernel
theorem dL_acts_804 : decode cL_acts 804 = .ok (.iload 14, 2) := by decide +kernel
theorem dL_acts_806 : decode cL_acts 806 = .ok (.invokestatic 71, 3) := by decide +kernel
theorem dL_acts_809 : decode cL_acts 809 = .ok (.iload 14, 2) := by decide +kernel
theorem dL_acts_811 : decode cL_acts 811 = .ok (.invokestatic 68, 3) := by decide +kernel
theorem dL_acts_814 : decode cL_acts 814 = .ok (.isub, 1) := by decide +kernel
theorem dL_acts_815 : decode cL_acts 815 = .ok (.iconst 1, 1) := by decide +kernel
theorem dL_acts_816 : decode cL_acts 816 = .ok (.iadd, 1) := by decide +kernel
theorem dL_acts_817 : decode cL_acts 817 = .ok (.irem, 1) := by decide +kernel
theorem dL_acts_818 : decode cL_acts 818 = .ok (.iadd, 1) := by decide +kernel
theorem dL_acts_819 : decode cL_acts 819 = .ok (.istore 15, 2) := by decide +kernel
theorem dL_acts_821 : decode cL_acts 821 = .ok (.iload 14, 2) := by decide +kernel
theorem dL_acts_823 : decode cL_acts 823 = .ok (.iconst 2, 1) := by decide +kernel
theorem dL_acts_824 : decode cL_acts 824 = .ok (.if_icmp .ne 18, 3) := by decide +kernel
theorem dL_acts_827 : decode cL_acts 827 = .ok (.iload 5, 2) := by decide +kernel
theorem dL_acts_829 : decode cL_acts 829 = .ok (.iconst 3, 1) := by decide +kernel
theorem dL_acts_830 : decode cL_acts 830 = .ok (.irem, 1) := by decide +kernel
theorem dL_acts_831 : decode cL_acts 831 = .ok (.ifCond .le 11, 3) := by decide +kernel
theorem dL_acts_834 : decode cL_acts 834 = .ok (.iload 15, 2) := by decide +kernel
theorem dL_acts_836 : decode cL_acts 836 = .ok (.bipush 30, 2) := by decide +kernel
theorem dL_acts_838 : decode cL_acts 838 = .ok (.irem, 1) := by decide +kernel
theorem dL_acts_839 : decode cL_acts 839 = .ok (.goto 20, 3) := by decide +kernel
theorem dL_acts_842 : decode cL_acts 842 = .ok (.iload 14, 2) := by decide +kernel
theorem dL_acts_844 : decode cL_acts 844 = .ok (.iconst 4, 1) := by decide +kernel
theorem dL_acts_845 : decode cL_acts 845 = .ok (.if_icmp .ne 12, 3) := by decide +kernel
theorem dL_acts_848 : decode cL_acts 848 = .ok (.iload 15, 2) := by decide +kernel
theorem dL_acts_850 : decode cL_acts 850 = .ok (.sipush 150, 3) := by decide +kernel
theorem dL_acts_853 : decode cL_acts 853 = .ok (.irem, 1) := by decide +kernel
theorem dL_acts_854 : decode cL_acts 854 = .ok (.goto 5, 3) := by decide +kernel
theorem dL_acts_857 : decode cL_acts 857 = .ok (.iload 15, 2) := by decide +kernel
theorem dL_acts_859 : decode cL_acts 859 = .ok (.istore 15, 2) := by decide +kernel
theorem dL_acts_861 : decode cL_acts 861 = .ok (.aload_n 1, 1) := by decide +kernel
theorem dL_acts_862 : decode cL_acts 862 = .ok (.bipush 7, 2) := by decide +kernel
theorem dL_acts_864 : decode cL_acts 864 = .ok (.iload 14, 2) := by decide +kernel
theorem dL_acts_866 : decode cL_acts 866 = .ok (.iadd, 1) := by decide +kernel
theorem dL_acts_867 : decode cL_acts 867 = .ok (.iaload, 1) := by decide +kernel
theorem dL_acts_868 : decode cL_acts 868 = .ok (.istore 16, 2) := by decide +kernel
theorem dL_acts_870 : decode cL_acts 870 = .ok (.aload_n 1, 1) := by decide +kernel
theorem dL_acts_871 : decode cL_acts 871 = .ok (.bipush 7, 2) := by decide +kernel
theorem dL_acts_873 : decode cL_acts 873 = .ok (.iload 14, 2) := by decide +kernel
theorem dL_acts_875 : decode cL_acts 875 = .ok (.iadd, 1) := by decide +kernel
theorem dL_acts_876 : decode cL_acts 876 = .ok (.iload 15, 2) := by decide +kernel
theorem dL_acts_878 : decode cL_acts 878 = .ok (.iastore, 1) := by decide +kernel
theorem dL_acts_879 : decode cL_acts 879 = .ok (.aload_n 0, 1) := by decide +kernel
theorem dL_acts_880 : decode cL_acts 880 = .ok (.iload 14, 2) := by decide +kernel
theorem dL_acts_882 : decode cL_acts 882 = .ok (.iload 15, 2) := by decide +kernel
theorem dL_acts_884 : decode cL_acts 884 = .ok (.invokestatic 74, 3) := by decide +kernel
theorem dL_acts_887 : decode cL_acts 887 = .ok (.iload 16, 2) := by decide +kernel
theorem dL_acts_889 : decode cL_acts 889 = .ok (.if_icmp .ne 7, 3) := by decide +kernel
theorem dL_acts_892 : decode cL_acts 892 = .ok (.iconst 1, 1) := by decide +kernel
theorem dL_acts_893 : decode cL_acts 893 = .ok (.goto 4, 3) := by decide +kernel
theorem dL_acts_896 : decode cL_acts 896 = .ok (.iconst 0, 1) := by decide +kernel
theorem dL_acts_897 : decode cL_acts 897 = .ok (.ireturn, 1) := by decide +kernel
theorem dL_acts_898 : decode cL_acts 898 = .ok (.aload_n 1, 1) := by decide +kernel
theorem dL_acts_899 : decode cL_acts 899 = .ok (.bipush 6, 2) := by decide +kernel
theorem dL_acts_901 : decode cL_acts 901 = .ok (.iaload, 1) := by decide +kernel
theorem dL_acts_902 : decode cL_acts 902 = .ok (.istore 17, 2) := by decide +kernel
theorem dL_acts_904 : decode cL_acts 904 = .ok (.aload_n 1, 1) := by decide +kernel
theorem dL_acts_905 : decode cL_acts 905 = .ok (.bipush 6, 2) := by decide +kernel
theorem dL_acts_907 : decode cL_acts 907 = .ok (.iload 5, 2) := by decide +kernel
theorem dL_acts_909 : decode cL_acts 909 = .ok (.sipush 211, 3) := by decide +kernel
theorem dL_acts_912 : decode cL_acts 912 = .ok (.imul, 1) := by decide +kernel
theorem dL_acts_913 : decode cL_acts 913 = .ok (.iastore, 1) := by decide +kernel
theorem dL_acts_914 : decode cL_acts 914 = .ok (.aload_n 0, 1) := by decide +kernel
theorem dL_acts_915 : decode cL_acts 915 = .ok (.aload_n 1, 1) := by decide +kernel
theorem dL_acts_916 : decode cL_acts 916 = .ok (.bipush 6, 2) := by decide +kernel
theorem dL_acts_918 : decode cL_acts 918 = .ok (.iaload, 1) := by decide +kernel
theorem dL_acts_919 : decode cL_acts 919 = .ok (.invokestatic 77, 3) := by decide +kernel
theorem dL_acts_922 : decode cL_acts 922 = .ok (.iload 17, 2) := by decide +kernel
theorem dL_acts_924 : decode cL_acts 924 = .ok (.if_icmp .ne 7, 3) := by decide +kernel
theorem dL_acts_927 : decode cL_acts 927 = .ok (.iconst 1, 1) := by decide +kernel
theorem dL_acts_928 : decode cL_acts 928 = .ok (.goto 4, 3) := by decide +kernel
theorem dL_acts_931 : decode cL_acts 931 = .ok (.iconst 0, 1) := by decide +kernel
theorem dL_acts_932 : decode cL_acts 932 = .ok (.ireturn, 1) := by decide +kernel
theorem dL_acts_933 : decode cL_acts 933 = .ok (.aload_n 1, 1) := by decide +kernel
theorem dL_acts_934 : decode cL_acts 934 = .ok (.iconst 2, 1) := by decide +kernel
theorem dL_acts_935 : decode cL_acts 935 = .ok (.iaload, 1) := by decide +kernel
theorem dL_acts_936 : decode cL_acts 936 = .ok (.ifCond .ne 22, 3) := by decide +kernel
theorem dL_acts_939 : decode cL_acts 939 = .ok (.aload_n 0, 1) := by decide +kernel
theorem dL_acts_940 : decode cL_acts 940 = .ok (.iconst 0, 1) := by decide +kernel
theorem dL_acts_941 : decode cL_acts 941 = .ok (.sipush 999, 3) := by decide +kernel
theorem dL_acts_944 : decode cL_acts 944 = .ok (.invokestatic 81, 3) := by decide +kernel
theorem dL_acts_947 : decode cL_acts 947 = .ok (.ldc 63, 2) := by decide +kernel
theorem dL_acts_949 : decode cL_acts 949 = .ok (.if_icmp .ne 7, 3) := by decide +kernel
theorem dL_acts_952 : decode cL_acts 952 = .ok (.iconst 1, 1) := by decide +kernel
theorem dL_acts_953 : decode cL_acts 953 = .ok (.goto 4, 3) := by decide +kernel
theorem dL_acts_956 : decode cL_acts 956 = .ok (.iconst 0, 1) := by decide +kernel
theorem dL_acts_957 : decode cL_acts 957 = .ok (.ireturn, 1) := by decide +kernel
theorem dL_acts_958 : decode cL_acts 958 = .ok (.iload 5, 2) := by decide +kernel
theorem dL_acts_960 : decode cL_acts 960 = .ok (.aload_n 1, 1) := by decide +kernel
theorem dL_acts_961 : decode cL_acts 961 = .ok (.iconst 2, 1) := by decide +kernel
theorem dL_acts_962 : decode cL_acts 962 = .ok (.iaload, 1) := by decide +kernel
theorem dL_acts_963 : decode cL_acts 963 = .ok (.irem, 1) := by decide +kernel
theorem dL_acts_964 : decode cL_acts 964 = .ok (.istore 18, 2) := by decide +kernel
theorem dL_acts_966 : decode cL_acts 966 = .ok (.aload_n 2, 1) := by decide +kernel
theorem dL_acts_967 : decode cL_acts 967 = .ok (.bipush 10, 2) := by decide +kernel
theorem dL_acts_969 : decode cL_acts 969 = .ok (.iload 18, 2) := by decide +kernel
theorem dL_acts_971 : decode cL_acts 971 = .ok (.imul, 1) := by decide +kernel
theorem dL_acts_972 : decode cL_acts 972 = .ok (.iconst 2, 1) := by decide +kernel
theorem dL_acts_973 : decode cL_acts 973 = .ok (.iadd, 1) := by decide +kernel
theorem dL_acts_974 : decode cL_acts 974 = .ok (.iaload, 1) := by decide +kernel
theorem dL_acts_975 : decode cL_acts 975 = .ok (.istore 19, 2) := by decide +kernel
theorem dL_acts_977 : decode cL_acts 977 = .ok (.aload_n 2, 1) := by decide +kernel
theorem dL_acts_978 : decode cL_acts 978 = .ok (.bipush 10, 2) := by decide +kernel
theorem dL_acts_980 : decode cL_acts 980 = .ok (.iload 18, 2) := by decide +kernel
theorem dL_acts_982 : decode cL_acts 982 = .ok (.imul, 1) := by decide +kernel
theorem dL_acts_983 : decode cL_acts 983 = .ok (.iconst 2, 1) := by decide +kernel
theorem dL_acts_984 : decode cL_acts 984 = .ok (.iadd, 1) := by decide +kernel
theorem dL_acts_985 : decode cL_acts 985 = .ok (.iload 5, 2) := by decide +kernel
theorem dL_acts_987 : decode cL_acts 987 = .ok (.iconst 4, 1) := by decide +kernel
theorem dL_acts_988 : decode cL_acts 988 = .ok (.idiv, 1) := by decide +kernel
theorem dL_acts_989 : decode cL_acts 989 = .ok (.sipush 1001, 3) := by decide +kernel
theorem dL_acts_992 : decode cL_acts 992 = .ok (.irem, 1) := by decide +kernel
theorem dL_acts_993 : decode cL_acts 993 = .ok (.sipush 500, 3) := by decide +kernel
theorem dL_acts_996 : decode cL_acts 996 = .ok (.isub, 1) := by decide +kernel
theorem dL_acts_997 : decode cL_acts 997 = .ok (.iastore, 1) := by decide +kernel
theorem dL_acts_998 : decode cL_acts 998 = .ok (.aload_n 0, 1) := by decide +kernel
theorem dL_acts_999 : decode cL_acts 999 = .ok (.iload 18, 2) := by decide +kernel
theorem dL_acts_1001 : decode cL_acts 1001 = .ok (.aload_n 2, 1) := by decide +kernel
theorem dL_acts_1002 : decode cL_acts 1002 = .ok (.bipush 10, 2) := by decide +kernel
theorem dL_acts_1004 : decode cL_acts 1004 = .ok (.iload 18, 2) := by decide +kernel
theorem dL_acts_1006 : decode cL_acts 1006 = .ok (.imul, 1) := by decide +kernel
theorem dL_acts_1007 : decode cL_acts 1007 = .ok (.iconst 2, 1) := by decide +kernel
theorem dL_acts_1008 : decode cL_acts 1008 = .ok (.iadd, 1) := by decide +kernel
theorem dL_acts_1009 : decode cL_acts 1009 = .ok (.iaload, 1) := by decide +kernel
theorem dL_acts_1010 : decode cL_acts 1010 = .ok (.invokestatic 81, 3) := by decide +kernel
theorem dL_acts_1013 : decode cL_acts 1013 = .ok (.iload 19, 2) := by decide +kernel
theorem dL_acts_1015 : decode cL_acts 1015 = .ok (.if_icmp .ne 7, 3) := by decide +kernel
theorem dL_acts_1018 : decode cL_acts 1018 = .ok (.iconst 1, 1) := by decide +kernel
theorem dL_acts_1019 : decode cL_acts 1019 = .ok (.goto 4, 3) := by decide +kernel
theorem dL_acts_1022 : decode cL_acts 1022 = .ok (.iconst 0, 1) := by decide +kernel
theorem dL_acts_1023 : decode cL_acts 1023 = .ok (.ireturn, 1) := by decide +kernel
theorem dL_acts_1024 : decode cL_acts 1024 = .ok (.aload_n 0, 1) := by decide +kernel
theorem dL_acts_1025 : decode cL_acts 1025 = .ok (.aload_n 1, 1) := by decide +kernel
theorem dL_acts_1026 : decode cL_acts 1026 = .ok (.aload_n 2, 1) := by decide +kernel
theorem dL_acts_1027 : decode cL_acts 1027 = .ok (.aload_n 3, 1) := by decide +kernel
theorem dL_acts_1028 : decode cL_acts 1028 = .ok (.iload 5, 2) := by decide +kernel
theorem dL_acts_1030 : decode cL_acts 1030 = .ok (.iload 4, 2) := by decide +kernel
theorem dL_acts_1032 : decode cL_acts 1032 = .ok (.bipush 20, 2) := by decide +kernel
theorem dL_acts_1034 : decode cL_acts 1034 = .ok (.invokestatic 40, 3) := by decide +kernel
theorem dL_acts_1037 : decode cL_acts 1037 = .ok (.bipush 13, 2) := by decide +kernel
theorem dL_acts_1039 : decode cL_acts 1039 = .ok (.if_icmp .ne 7, 3) := by decide +kernel
theorem dL_acts_1042 : decode cL_acts 1042 = .ok (.iconst 1, 1) := by decide +kernel
theorem dL_acts_1043 : decode cL_acts 1043 = .ok (.goto 4, 3) := by decide +kernel
theorem dL_acts_1046 : decode cL_acts 1046 = .ok (.iconst 0, 1) := by decide +kernel
theorem dL_acts_1047 : decode cL_acts 1047 = .ok (.invokestatic 84, 3) := by decide +kernel
theorem dL_acts_1050 : decode cL_acts 1050 = .ok (.ireturn, 1) := by decide +kernel
theorem dL_sounds_0 : decode cL_sounds 0 = .ok (.iload 4, 2) := by decide +kernel
theorem dL_sounds_2 : decode cL_sounds 2 = .ok (.sipush 1300, 3) := by decide +kernel
theorem dL_sounds_5 : decode cL_sounds 5 = .ok (.irem, 1) := by decide +kernel
theorem dL_sounds_6 : decode cL_sounds 6 = .ok (.bipush 100, 2) := by decide +kernel
theorem dL_sounds_8 : decode cL_sounds 8 = .ok (.isub, 1) := by decide +kernel
theorem dL_sounds_9 : decode cL_sounds 9 = .ok (.istore 6, 2) := by decide +kernel
theorem dL_sounds_11 : decode cL_sounds 11 = .ok (.iload 4, 2) := by decide +kernel
theorem dL_sounds_13 : decode cL_sounds 13 = .ok (.sipush 1300, 3) := by decide +kernel
theorem dL_sounds_16 : decode cL_sounds 16 = .ok (.idiv, 1) := by decide +kernel
theorem dL_sounds_17 : decode cL_sounds 17 = .ok (.sipush 1300, 3) := by decide +kernel
theorem dL_sounds_20 : decode cL_sounds 20 = .ok (.irem, 1) := by decide +kernel
theorem dL_sounds_21 : decode cL_sounds 21 = .ok (.bipush 100, 2) := by decide +kernel
theorem dL_sounds_23 : decode cL_sounds 23 = .ok (.isub, 1) := by decide +kernel
theorem dL_sounds_24 : decode cL_sounds 24 = .ok (.istore 7, 2) := by decide +kernel
theorem dL_sounds_26 : decode cL_sounds 26 = .ok (.iload 4, 2) := by decide +kernel
theorem dL_sounds_28 : decode cL_sounds 28 = .ok (.ldc 88, 2) := by decide +kernel
theorem dL_sounds_30 : decode cL_sounds 30 = .ok (.irem, 1) := by decide +kernel
theorem dL_sounds_31 : decode cL_sounds 31 = .ok (.istore 8, 2) := by decide +kernel
theorem dL_sounds_33 : decode cL_sounds 33 = .ok (.aload_n 1, 1) := by decide +kernel
theorem dL_sounds_34 : decode cL_sounds 34 = .ok (.iconst 2, 1) := by decide +kernel
theorem dL_sounds_35 : decode cL_sounds 35 = .ok (.iaload, 1) := by decide +kernel
theorem dL_sounds_36 : decode cL_sounds 36 = .ok (.ifCond .ne 42, 3) := by decide +kernel
theorem dL_sounds_39 : decode cL_sounds 39 = .ok (.iload 5, 2) := by decide +kernel
theorem dL_sounds_41 : decode cL_sounds 41 = .ok (.ifCond .eq 16, 3) := by decide +kernel
theorem dL_sounds_44 : decode cL_sounds 44 = .ok (.aload_n 0, 1) := by decide +kernel
theorem dL_sounds_45 : decode cL_sounds 45 = .ok (.iload 6, 2) := by decide +kernel
theorem dL_sounds_47 : decode cL_sounds 47 = .ok (.iload 7, 2) := by decide +kernel
theorem dL_sounds_49 : decode cL_sounds 49 = .ok (.iload 8, 2) := by decide +kernel
theorem dL_sounds_51 : decode cL_sounds 51 = .ok (.invokestatic 89, 3) := by decide +kernel
theorem dL_sounds_54 : decode cL_sounds 54 = .ok (.goto 13, 3) := by decide +kernel
theorem dL_sounds_57 : decode cL_sounds 57 = .ok (.aload_n 0, 1) := by decide +kernel
theorem dL_sounds_58 : decode cL_sounds 58 = .ok (.iload 6, 2) := by decide +kernel
theorem dL_sounds_60 : decode cL_sounds 60 = .ok (.iload 7, 2) := by decide +kernel
theorem dL_sounds_62 : decode cL_sounds 62 = .ok (.iload 8, 2) := by decide +kernel
theorem dL_sounds_64 : decode cL_sounds 64 = .ok (.invokestatic 92, 3) := by decide +kernel
theorem dL_sounds_67 : decode cL_sounds 67 = .ok (.ldc 95, 2) := by decide +kernel
theorem dL_sounds_69 : decode cL_sounds 69 = .ok (.if_icmp .ne 7, 3) := by decide +kernel
theorem dL_sounds_72 : decode cL_sounds 72 = .ok (.iconst 1, 1) := by decide +kernel
theorem dL_sounds_73 : decode cL_sounds 73 = .ok (.goto 4, 3) := by decide +kernel
theorem dL_sounds_76 : decode cL_sounds 76 = .ok (.iconst 0, 1) := by decide +kernel
theorem dL_sounds_77 : decode cL_sounds 77 = .ok (.ireturn, 1) := by decide +kernel
theorem dL_sounds_78 : decode cL_sounds 78 = .ok (.aload_n 1, 1) := by decide +kernel
theorem dL_sounds_79 : decode cL_sounds 79 = .ok (.aload_n 2, 1) := by decide +kernel
theorem dL_sounds_80 : decode cL_sounds 80 = .ok (.aload_n 3, 1) := by decide +kernel
theorem dL_sounds_81 : decode cL_sounds 81 = .ok (.iload 6, 2) := by decide +kernel
theorem dL_sounds_83 : decode cL_sounds 83 = .ok (.iload 7, 2) := by decide +kernel
theorem dL_sounds_85 : decode cL_sounds 85 = .ok (.iload 8, 2) := by decide +kernel
theorem dL_sounds_87 : decode cL_sounds 87 = .ok (.invokestatic 96, 3) := by decide +kernel
theorem dL_sounds_90 : decode cL_sounds 90 = .ok (.istore 9, 2) := by decide +kernel
theorem dL_sounds_92 : decode cL_sounds 92 = .ok (.iconst 0, 1) := by decide +kernel
theorem dL_sounds_93 : decode cL_sounds 93 = .ok (.istore 10, 2) := by decide +kernel
theorem dL_sounds_95 : decode cL_sounds 95 = .ok (.iconst 0, 1) := by decide +kernel
theorem dL_sounds_96 : decode cL_sounds 96 = .ok (.istore 11, 2) := by decide +kernel
theorem dL_sounds_98 : decode cL_sounds 98 = .ok (.iload 11, 2) := by decide +kernel
theorem dL_sounds_100 : decode cL_sounds 100 = .ok (.aload_n 1, 1) := by decide +kernel
theorem dL_sounds_101 : decode cL_sounds 101 = .ok (.iconst 2, 1) := by decide +kernel
theorem dL_sounds_102 : decode cL_sounds 102 = .ok (.iaload, 1) := by decide +kernel
theorem dL_sounds_103 : decode cL_sounds 103 = .ok (.if_icmp .ge 134, 3) := by decide +kernel
theorem dL_sounds_106 : decode cL_sounds 106 = .ok (.bipush 10, 2) := by decide +kernel
theorem dL_sounds_108 : decode cL_sounds 108 = .ok (.iload 11, 2) := by decide +kernel
theorem dL_sounds_110 : decode cL_sounds 110 = .ok (.imul, 1) := by decide +kernel
theorem dL_sounds_111 : decode cL_sounds 111 = .ok (.istore 12, 2) := by decide +kernel
theorem dL_sounds_113 : decode cL_sounds 113 = .ok (.iload 5, 2) := by decide +kernel
theorem dL_sounds_115 : decode cL_sounds 115 = .ok (.ifCond .eq 101, 3) := by decide +kernel
theorem dL_sounds_118 : decode cL_sounds 118 = .ok (.iload 6, 2) := by decide +kernel
theorem dL_sounds_120 : decode cL_sounds 120 = .ok (.aload_n 2, 1) := by decide +kernel
theorem dL_sounds_121 : decode cL_sounds 121 = .ok (.iload 12, 2) := by decide +kernel
theorem dL_sounds_123 : decode cL_sounds 123 = .ok (.iaload, 1) := by decide +kernel
theorem dL_sounds_124 : decode cL_sounds 124 = .ok (.isub, 1) := by decide +kernel
theorem dL_sounds_125 : decode cL_sounds 125 = .ok (.istore 13, 2) := by decide +kernel
theorem dL_sounds_127 : decode cL_sounds 127 = .ok (.iload 7, 2) := by decide +kernel
theorem dL_sounds_129 : decode cL_sounds 129 = .ok (.aload_n 2, 1) := by decide +kernel
theorem dL_sounds_130 : decode cL_sounds 130 = .ok (.iload 12, 2) := by decide +kernel
theorem dL_sounds_132 : decode cL_sounds 132 = .ok (.iconst 1, 1) := by decide +kernel
theorem dL_sounds_133 : decode cL_sounds 133 = .ok (.iadd, 1) := by decide +kernel
theorem dL_sounds_134 : decode cL_sounds 134 = .ok (.iaload, 1) := by decide +kernel
theorem dL_sounds_135 : decode cL_sounds 135 = .ok (.isub, 1) := by decide +kernel
theorem dL_sounds_136 : decode cL_sounds 136 = .ok (.istore 14, 2) := by decide +kernel
theorem dL_sounds_138 : decode cL_sounds 138 = .ok (.aload_n 2, 1) := by decide +kernel
theorem dL_sounds_139 : decode cL_sounds 139 = .ok (.iload 12, 2) := by decide +kernel
theorem dL_sounds_141 : decode cL_sounds 141 = .ok (.iconst 4, 1) := by decide +kernel
theorem dL_sounds_142 : decode cL_sounds 142 = .ok (.iadd, 1) := by decide +kernel
theorem dL_sounds_143 : decode cL_sounds 143 = .ok (.iaload, 1) := by decide +kernel
theorem dL_sounds_144 : decode cL_sounds 144 = .ok (.iconst 1, 1) := by decide +kernel
theorem dL_sounds_145 : decode cL_sounds 145 = .ok (.if_icmp .ne 39, 3) := by decide +kernel
theorem dL_sounds_148 : decode cL_sounds 148 = .ok (.aload_n 2, 1) := by decide +kernel
theorem dL_sounds_149 : decode cL_sounds 149 = .ok (.iload 12, 2) := by decide +kernel
theorem dL_sounds_151 : decode cL_sounds 151 = .ok (.iconst 5, 1) := by decide +kernel
theorem dL_sounds_152 : decode cL_sounds 152 = .ok (.iadd, 1) := by decide +kernel
theorem dL_sounds_153 : decode cL_sounds 153 = .ok (.iaload, 1) := by decide +kernel
theorem dL_sounds_154 : decode cL_sounds 154 = .ok (.iload 8, 2) := by decide +kernel
theorem dL_sounds_156 : decode cL_sounds 156 = .ok (.isub, 1) := by decide +kernel
theorem dL_sounds_157 : decode cL_sounds 157 = .ok (.iload 13, 2) := by decide +kernel
theorem dL_sounds_159 : decode cL_sounds 159 = .ok (.iload 13, 2) := by decide +kernel
theorem dL_sounds_161 : decode cL_sounds 161 = .ok (.imul, 1) := by decide +kernel
theorem dL_sounds_162 : decode cL_sounds 162 = .ok (.iload 14, 2) := by decide +kernel
theorem dL_sounds_164 : decode cL_sounds 164 = .ok (.iload 14, 2) := by decide +kernel
theorem dL_sounds_166 : decode cL_sounds 166 = .ok (.imul, 1) := by decide +kernel
theorem dL_sounds_167 : decode cL_sounds 167 = .ok (.iadd, 1) := by decide +kernel
theorem dL_sounds_168 : decode cL_sounds 168 = .ok (.invokestatic 18, 3) := by decide +kernel
theorem dL_sounds_171 : decode cL_sounds 171 = .ok (.sipush 1000, 3) := by decide +kernel
theorem dL_sounds_174 : decode cL_sounds 174 = .ok (.imul, 1) := by decide +kernel
theorem dL_sounds_175 : decode cL_sounds 175 = .ok (.aload_n 1, 1) := by decide +kernel
theorem dL_sounds_176 : decode cL_sounds 176 = .ok (.bipush 7, 2) := by decide +kernel
theorem dL_sounds_178 : decode cL_sounds 178 = .ok (.iaload, 1) := by decide +kernel
theorem dL_sounds_179 : decode cL_sounds 179 = .ok (.idiv, 1) := by decide +kernel
theorem dL_sounds_180 : decode cL_sounds 180 = .ok (.isub, 1) := by decide +kernel
theorem dL_sounds_181 : decode cL_sounds 181 = .ok (.goto 4, 3) := by decide +kernel
theorem dL_sounds_184 : decode cL_sounds 184 = .ok (.iconst 0, 1) := by decide +kernel
theorem dL_sounds_185 : decode cL_sounds 185 = .ok (.istore 15, 2) := by decide +kernel
theorem dL_sounds_187 : decode cL_sounds 187 = .ok (.iload 10, 2) := by decide +kernel
theorem dL_sounds_189 : decode cL_sounds 189 = .ok (.iload 15, 2) := by decide +kernel
theorem dL_sounds_191 : decode cL_sounds 191 = .ok (.aload_n 2, 1) := by decide +kernel
theorem dL_sounds_192 : decode cL_sounds 192 = .ok (.iload 12, 2) := by decide +kernel
theorem dL_sounds_194 : decode cL_sounds 194 = .ok (.iconst 3, 1) := by decide +kernel
theorem dL_sounds_195 : decode cL_sounds 195 = .ok (.iadd, 1) := by decide +kernel
theorem dL_sounds_196 : decode cL_sounds 196 = .ok (.iaload, 1) := by decide +kernel
theorem dL_sounds_197 : decode cL_sounds 197 = .ok (.if_icmp .ne 7, 3) := by decide +kernel
theorem dL_sounds_200 : decode cL_sounds 200 = .ok (.iconst 0, 1) := by decide +kernel
theorem dL_sounds_201 : decode cL_sounds 201 = .ok (.goto 4, 3) := by decide +kernel
theorem dL_sounds_204 : decode cL_sounds 204 = .ok (.iconst 1, 1) := by decide +kernel
theorem dL_sounds_205 : decode cL_sounds 205 = .ok (.iadd, 1) := by decide +kernel
theorem dL_sounds_206 : decode cL_sounds 206 = .ok (.istore 10, 2) := by decide +kernel
theorem dL_sounds_208 : decode cL_sounds 208 = .ok (.aload_n 2, 1) := by decide +kernel
theorem dL_sounds_209 : decode cL_sounds 209 = .ok (.iload 12, 2) := by decide +kernel
theorem dL_sounds_211 : decode cL_sounds 211 = .ok (.iconst 3, 1) := by decide +kernel
theorem dL_sounds_212 : decode cL_sounds 212 = .ok (.iadd, 1) := by decide +kernel
theorem dL_sounds_213 : decode cL_sounds 213 = .ok (.iload 15, 2) := by decide +kernel
theorem dL_sounds_215 : decode cL_sounds 215 = .ok (.iastore, 1) := by decide +kernel
theorem dL_sounds_216 : decode cL_sounds 216 = .ok (.aload_n 2, 1) := by decide +kernel
theorem dL_sounds_217 : decode cL_sounds 217 = .ok (.iload 12, 2) := by decide +kernel
theorem dL_sounds_219 : decode cL_sounds 219 = .ok (.iconst 5, 1) := by decide +kernel
theorem dL_sounds_220 : decode cL_sounds 220 = .ok (.iadd, 1) := by decide +kernel
theorem dL_sounds_221 : decode cL_sounds 221 = .ok (.dup2, 1) := by decide +kernel
theorem dL_sounds_222 : decode cL_sounds 222 = .ok (.iaload, 1) := by decide +kernel
theorem dL_sounds_223 : decode cL_sounds 223 = .ok (.aload_n 2, 1) := by decide +kernel
theorem dL_sounds_224 : decode cL_sounds 224 = .ok (.iload 12, 2) := by decide +kernel
theorem dL_sounds_226 : decode cL_sounds 226 = .ok (.iconst 3, 1) := by decide +kernel
theorem dL_sounds_227 : decode cL_sounds 227 = .ok (.iadd, 1) := by decide +kernel
theorem dL_sounds_228 : decode cL_sounds 228 = .ok (.iaload, 1) := by decide +kernel
theorem dL_sounds_229 : decode cL_sounds 229 = .ok (.isub, 1) := by decide +kernel
theorem dL_sounds_230 : decode cL_sounds 230 = .ok (.iastore, 1) := by decide +kernel
theorem dL_sounds_231 : decode cL_sounds 231 = .ok (.iinc 11 1, 3) := by decide +kernel
theorem dL_sounds_234 : decode cL_sounds 234 = .ok (.goto (-136), 3) := by decide +kernel
theorem dL_sounds_237 : decode cL_sounds 237 = .ok (.iload 5, 2) := by decide +kernel
theorem dL_sounds_239 : decode cL_sounds 239 = .ok (.ifCond .eq 26, 3) := by decide +kernel
theorem dL_sounds_242 : decode cL_sounds 242 = .ok (.aload_n 0, 1) := by decide +kernel
theorem dL_sounds_243 : decode cL_sounds 243 = .ok (.iload 6, 2) := by decide +kernel
theorem dL_sounds_245 : decode cL_sounds 245 = .ok (.iload 7, 2) := by decide +kernel
theorem dL_sounds_247 : decode cL_sounds 247 = .ok (.iload 8, 2) := by decide +kernel
theorem dL_sounds_249 : decode cL_sounds 249 = .ok (.invokestatic 89, 3) := by decide +kernel
theorem dL_sounds_252 : decode cL_sounds 252 = .ok (.iload 10, 2) := by decide +kernel
theorem dL_sounds_254 : decode cL_sounds 254 = .ok (.if_icmp .ne 7, 3) := by decide +kernel
theorem dL_sounds_257 : decode cL_sounds 257 = .ok (.iconst 1, 1) := by decide +kernel
theorem dL_sounds_258 : decode cL_sounds 258 = .ok (.goto 27, 3) := by decide +kernel
theorem dL_sounds_261 : decode cL_sounds 261 = .ok (.iconst 0, 1) := by decide +kernel
theorem dL_sounds_262 : decode cL_sounds 262 = .ok (.goto 23, 3) := by decide +kernel
theorem dL_sounds_265 : decode cL_sounds 265 = .ok (.aload_n 0, 1) := by decide +kernel
theorem dL_sounds_266 : decode cL_sounds 266 = .ok (.iload 6, 2) := by decide +kernel
theorem dL_sounds_268 : decode cL_sounds 268 = .ok (.iload 7, 2) := by decide +kernel
theorem dL_sounds_270 : decode cL_sounds 270 = .ok (.iload 8, 2) := by decide +kernel
theorem dL_sounds_272 : decode cL_sounds 272 = .ok (.invokestatic 92, 3) := by decide +kernel
theorem dL_sounds_275 : decode cL_sounds 275 = .ok (.iload 9, 2) := by decide +kernel
theorem dL_sounds_277 : decode cL_sounds 277 = .ok (.if_icmp .ne 7, 3) := by decide +kernel
theorem dL_sounds_280 : decode cL_sounds 280 = .ok (.iconst 1, 1) := by decide +kernel
theorem dL_sounds_281 : decode cL_sounds 281 = .ok (.goto 4, 3) := by decide +kernel
theorem dL_sounds_284 : decode cL_sounds 284 = .ok (.iconst 0, 1) := by decide +kernel
theorem dL_sounds_285 : decode cL_sounds 285 = .ok (.ireturn, 1) := by decide +kernel
theorem dL_begins_0 : decode cL_begins 0 = .ok (.aload_n 0, 1) := by decide +kernel
theorem dL_begins_1 : decode cL_begins 1 = .ok (.iload_n 1, 1) := by decide +kernel
theorem dL_begins_2 : decode cL_begins 2 = .ok (.iload_n 2, 1) := by decide +kernel
theorem dL_begins_3 : decode cL_begins 3 = .ok (.invokevirtual 100, 3) := by decide +kernel
theorem dL_begins_6 : decode cL_begins 6 = .ok (.ireturn, 1) := by decide +kernel
theorem dL_begins_7 : decode cL_begins 7 = .ok (.astore_n 3, 1) := by decide +kernel
theorem dL_begins_8 : decode cL_begins 8 = .ok (.ldc 48, 2) := by decide +kernel
theorem dL_begins_10 : decode cL_begins 10 = .ok (.ireturn, 1) := by decide +kernel
theorem dL_mics_0 : decode cL_mics 0 = .ok (.aload_n 0, 1) := by decide +kernel
theorem dL_mics_1 : decode cL_mics 1 = .ok (.iload_n 1, 1) := by decide +kernel
theorem dL_mics_2 : decode cL_mics 2 = .ok (.iload_n 2, 1) := by decide +kernel
theorem dL_mics_3 : decode cL_mics 3 = .ok (.invokevirtual 107, 3) := by decide +kernel
theorem dL_mics_6 : decode cL_mics 6 = .ok (.ireturn, 1) := by decide +kernel
theorem dL_mics_7 : decode cL_mics 7 = .ok (.astore_n 3, 1) := by decide +kernel
theorem dL_mics_8 : decode cL_mics 8 = .ok (.ldc 48, 2) := by decide +kernel
theorem dL_mics_10 : decode cL_mics 10 = .ok (.ireturn, 1) := by decide +kernel
theorem dL_mics_11 : decode cL_mics 11 = .ok (.astore_n 3, 1) := by decide +kernel
theorem dL_mics_12 : decode cL_mics 12 = .ok (.ldc 95, 2) := by decide +kernel
theorem dL_mics_14 : decode cL_mics 14 = .ok (.ireturn, 1) := by decide +kernel
theorem dL_clocks_0 : decode cL_clocks 0 = .ok (.aload_n 0, 1) := by decide +kernel
theorem dL_clocks_1 : decode cL_clocks 1 = .ok (.iload_n 1, 1) := by decide +kernel
theorem dL_clocks_2 : decode cL_clocks 2 = .ok (.iload_n 2, 1) := by decide +kernel
theorem dL_clocks_3 : decode cL_clocks 3 = .ok (.invokevirtual 112, 3) := by decide +kernel
theorem dL_clocks_6 : decode cL_clocks 6 = .ok (.ireturn, 1) := by decide +kernel
theorem dL_clocks_7 : decode cL_clocks 7 = .ok (.astore_n 3, 1) := by decide +kernel
theorem dL_clocks_8 : decode cL_clocks 8 = .ok (.ldc 63, 2) := by decide +kernel
theorem dL_clocks_10 : decode cL_clocks 10 = .ok (.ireturn, 1) := by decide +kernel
theorem dL_clocks_11 : decode cL_clocks 11 = .ok (.astore_n 3, 1) := by decide +kernel
theorem dL_clocks_12 : decode cL_clocks 12 = .ok (.ldc 48, 2) := by decide +kernel
theorem dL_clocks_14 : decode cL_clocks 14 = .ok (.ireturn, 1) := by decide +kernel
theorem dL_walls_0 : decode cL_walls 0 = .ok (.aload_n 0, 1) := by decide +kernel
theorem dL_walls_1 : decode cL_walls 1 = .ok (.iload_n 1, 1) := by decide +kernel
theorem dL_walls_2 : decode cL_walls 2 = .ok (.iload_n 2, 1) := by decide +kernel
theorem dL_walls_3 : decode cL_walls 3 = .ok (.iload_n 3, 1) := by decide +kernel
theorem dL_walls_4 : decode cL_walls 4 = .ok (.invokevirtual 117, 3) := by decide +kernel
theorem dL_walls_7 : decode cL_walls 7 = .ok (.ireturn, 1) := by decide +kernel
theorem dL_walls_8 : decode cL_walls 8 = .ok (.astore 4, 2) := by decide +kernel
theorem dL_walls_10 : decode cL_walls 10 = .ok (.ldc 48, 2) := by decide +kernel
theorem dL_walls_12 : decode cL_walls 12 = .ok (.ireturn, 1) := by decide +kernel
theorem dL_walls_13 : decode cL_walls 13 = .ok (.astore 4, 2) := by decide +kernel
theorem dL_walls_15 : decode cL_walls 15 = .ok (.ldc 95, 2) := by decide +kernel
theorem dL_walls_17 : decode cL_walls 17 = .ok (.ireturn, 1) := by decide +kernel
theorem dL_screens_0 : decode cL_screens 0 = .ok (.aload_n 0, 1) := by decide +kernel
theorem dL_screens_1 : decode cL_screens 1 = .ok (.iload_n 1, 1) := by decide +kernel
theorem dL_screens_2 : decode cL_screens 2 = .ok (.iload_n 2, 1) := by decide +kernel
theorem dL_screens_3 : decode cL_screens 3 = .ok (.iload_n 3, 1) := by decide +kernel
theorem dL_screens_4 : decode cL_screens 4 = .ok (.iload 4, 2) := by decide +kernel
theorem dL_screens_6 : decode cL_screens 6 = .ok (.invokevirtual 121, 3) := by decide +kernel
theorem dL_screens_9 : decode cL_screens 9 = .ok (.ireturn, 1) := by decide +kernel
theorem dL_screens_10 : decode cL_screens 10 = .ok (.astore 5, 2) := by decide +kernel
theorem dL_screens_12 : decode cL_screens 12 = .ok (.ldc 48, 2) := by decide +kernel
theorem dL_screens_14 : decode cL_screens 14 = .ok (.ireturn, 1) := by decide +kernel
theorem dL_screens_15 : decode cL_screens 15 = .ok (.astore 5, 2) := by decide +kernel
theorem dL_screens_17 : decode cL_screens 17 = .ok (.ldc 95, 2) := by decide +kernel
theorem dL_screens_19 : decode cL_screens 19 = .ok (.ireturn, 1) := by decide +kernel
theorem dL_drops_0 : decode cL_drops 0 = .ok (.aload_n 0, 1) := by decide +kernel
theorem dL_drops_1 : decode cL_drops 1 = .ok (.iload_n 1, 1) := by decide +kernel
theorem dL_drops_2 : decode cL_drops 2 = .ok (.iload_n 2, 1) := by decide +kernel
theorem dL_drops_3 : decode cL_drops 3 = .ok (.invokevirtual 125, 3) := by decide +kernel
theorem dL_drops_6 : decode cL_drops 6 = .ok (.ireturn, 1) := by decide +kernel
theorem dL_drops_7 : decode cL_drops 7 = .ok (.astore_n 3, 1) := by decide +kernel
theorem dL_drops_8 : decode cL_drops 8 = .ok (.ldc 48, 2) := by decide +kernel
theorem dL_drops_10 : decode cL_drops 10 = .ok (.ireturn, 1) := by decide +kernel
theorem dL_drops_11 : decode cL_drops 11 = .ok (.astore_n 3, 1) := by decide +kernel
theorem dL_drops_12 : decode cL_drops 12 = .ok (.ldc 63, 2) := by decide +kernel
theorem dL_drops_14 : decode cL_drops 14 = .ok (.ireturn, 1) := by decide +kernel
theorem dL_sets_0 : decode cL_sets 0 = .ok (.aload_n 0, 1) := by decide +kernel
theorem dL_sets_1 : decode cL_sets 1 = .ok (.iload_n 1, 1) := by decide +kernel
theorem dL_sets_2 : decode cL_sets 2 = .ok (.iload_n 2, 1) := by decide +kernel
theorem dL_sets_3 : decode cL_sets 3 = .ok (.invokevirtual 128, 3) := by decide +kernel
theorem dL_sets_6 : decode cL_sets 6 = .ok (.ireturn, 1) := by decide +kernel
theorem dL_sets_7 : decode cL_sets 7 = .ok (.astore_n 3, 1) := by decide +kernel
theorem dL_sets_8 : decode cL_sets 8 = .ok (.ldc 48, 2) := by decide +kernel
theorem dL_sets_10 : decode cL_sets 10 = .ok (.ireturn, 1) := by decide +kernel
theorem dL_seeds_0 : decode cL_seeds 0 = .ok (.aload_n 0, 1) := by decide +kernel
theorem dL_seeds_1 : decode cL_seeds 1 = .ok (.iload_n 1, 1) := by decide +kernel
theorem dL_seeds_2 : decode cL_seeds 2 = .ok (.invokevirtual 131, 3) := by decide +kernel
theorem dL_seeds_5 : decode cL_seeds 5 = .ok (.ireturn, 1) := by decide +kernel
theorem dL_seeds_6 : decode cL_seeds 6 = .ok (.astore_n 2, 1) := by decide +kernel
theorem dL_seeds_7 : decode cL_seeds 7 = .ok (.ldc 48, 2) := by decide +kernel
theorem dL_seeds_9 : decode cL_seeds 9 = .ok (.ireturn, 1) := by decide +kernel
theorem dL_clicks_0 : decode cL_clicks 0 = .ok (.aload_n 0, 1) := by decide +kernel
theorem dL_clicks_1 : decode cL_clicks 1 = .ok (.iload_n 1, 1) := by decide +kernel
theorem dL_clicks_2 : decode cL_clicks 2 = .ok (.iload_n 2, 1) := by decide +kernel
theorem dL_clicks_3 : decode cL_clicks 3 = .ok (.iload_n 3, 1) := by decide +kernel
theorem dL_clicks_4 : decode cL_clicks 4 = .ok (.invokevirtual 134, 3) := by decide +kernel
theorem dL_clicks_7 : decode cL_clicks 7 = .ok (.ireturn, 1) := by decide +kernel
theorem dL_clicks_8 : decode cL_clicks 8 = .ok (.astore 4, 2) := by decide +kernel
theorem dL_clicks_10 : decode cL_clicks 10 = .ok (.ldc 48, 2) := by decide +kernel
theorem dL_clicks_12 : decode cL_clicks 12 = .ok (.ireturn, 1) := by decide +kernel
theorem dL_clicks_13 : decode cL_clicks 13 = .ok (.astore 4, 2) := by decide +kernel
theorem dL_clicks_15 : decode cL_clicks 15 = .ok (.ldc 95, 2) := by decide +kernel
theorem dL_clicks_17 : decode cL_clicks 17 = .ok (.ireturn, 1) := by decide +kernel
theorem dL_knows_0 : decode cL_knows 0 = .ok (.aload_n 0, 1) := by decide +kernel
theorem dL_knows_1 : decode cL_knows 1 = .ok (.iload_n 1, 1) := by decide +kernel
theorem dL_knows_2 : decode cL_knows 2 = .ok (.iload_n 2, 1) := by decide +kernel
theorem dL_knows_3 : decode cL_knows 3 = .ok (.iload_n 3, 1) := by decide +kernel
theorem dL_knows_4 : decode cL_knows 4 = .ok (.invokevirtual 137, 3) := by decide +kernel
theorem dL_knows_7 : decode cL_knows 7 = .ok (.ireturn, 1) := by decide +kernel
theorem dL_knows_8 : decode cL_knows 8 = .ok (.astore 4, 2) := by decide +kernel
theorem dL_knows_10 : decode cL_knows 10 = .ok (.ldc 48, 2) := by decide +kernel
theorem dL_knows_12 : decode cL_knows 12 = .ok (.ireturn, 1) := by decide +kernel
theorem dL_knows_13 : decode cL_knows 13 = .ok (.astore 4, 2) := by decide +kernel
theorem dL_knows_15 : decode cL_knows 15 = .ok (.ldc 95, 2) := by decide +kernel
theorem dL_knows_17 : decode cL_knows 17 = .ok (.ireturn, 1) := by decide +kernel
theorem dL_noteOf_0 : decode cL_noteOf 0 = .ok (.aload_n 0, 1) := by decide +kernel
theorem dL_noteOf_1 : decode cL_noteOf 1 = .ok (.iload_n 1, 1) := by decide +kernel
theorem dL_noteOf_2 : decode cL_noteOf 2 = .ok (.invokevirtual 140, 3) := by decide +kernel
theorem dL_noteOf_5 : decode cL_noteOf 5 = .ok (.ireturn, 1) := by decide +kernel
theorem dL_noteOf_6 : decode cL_noteOf 6 = .ok (.astore_n 2, 1) := by decide +kernel
theorem dL_noteOf_7 : decode cL_noteOf 7 = .ok (.ldc 63, 2) := by decide +kernel
theorem dL_noteOf_9 : decode cL_noteOf 9 = .ok (.ireturn, 1) := by decide +kernel
theorem dL_heardOf_0 : decode cL_heardOf 0 = .ok (.aload_n 0, 1) := by decide +kernel
theorem dL_heardOf_1 : decode cL_heardOf 1 = .ok (.iload_n 1, 1) := by decide +kernel
theorem dL_heardOf_2 : decode cL_heardOf 2 = .ok (.iload_n 2, 1) := by decide +kernel
theorem dL_heardOf_3 : decode cL_heardOf 3 = .ok (.invokevirtual 143, 3) := by decide +kernel
theorem dL_heardOf_6 : decode cL_heardOf 6 = .ok (.ireturn, 1) := by decide +kernel
theorem dL_heardOf_7 : decode cL_heardOf 7 = .ok (.astore_n 3, 1) := by decide +kernel
theorem dL_heardOf_8 : decode cL_heardOf 8 = .ok (.ldc 63, 2) := by decide +kernel
theorem dL_heardOf_10 : decode cL_heardOf 10 = .ok (.ireturn, 1) := by decide +kernel
theorem dL_heardOf_11 : decode cL_heardOf 11 = .ok (.astore_n 3, 1) := by decide +kernel
theorem dL_heardOf_12 : decode cL_heardOf 12 = .ok (.ldc 48, 2) := by decide +kernel
theorem dL_heardOf_14 : decode cL_heardOf 14 = .ok (.ireturn, 1) := by decide +kernel
theorem dL_manyAt_0 : decode cL_manyAt 0 = .ok (.aload_n 0, 1) := by decide +kernel
theorem dL_manyAt_1 : decode cL_manyAt 1 = .ok (.iload_n 1, 1) := by decide +kernel
theorem dL_manyAt_2 : decode cL_manyAt 2 = .ok (.iload_n 2, 1) := by decide +kernel
theorem dL_manyAt_3 : decode cL_manyAt 3 = .ok (.iload_n 3, 1) := by decide +kernel
theorem dL_manyAt_4 : decode cL_manyAt 4 = .ok (.invokevirtual 146, 3) := by decide +kernel
theorem dL_manyAt_7 : decode cL_manyAt 7 = .ok (.ireturn, 1) := by decide +kernel
theorem dL_manyAt_8 : decode cL_manyAt 8 = .ok (.astore 4, 2) := by decide +kernel
theorem dL_manyAt_10 : decode cL_manyAt 10 = .ok (.ldc 63, 2) := by decide +kernel
theorem dL_manyAt_12 : decode cL_manyAt 12 = .ok (.ireturn, 1) := by decide +kernel
theorem dL_manyAt_13 : decode cL_manyAt 13 = .ok (.astore 4, 2) := by decide +kernel
theorem dL_manyAt_15 : decode cL_manyAt 15 = .ok (.ldc 48, 2) := by decide +kernel
theorem dL_manyAt_17 : decode cL_manyAt 17 = .ok (.ireturn, 1) := by decide +kernel
theorem dL_atOf_0 : decode cL_atOf 0 = .ok (.aload_n 0, 1) := by decide +kernel
theorem dL_atOf_1 : decode cL_atOf 1 = .ok (.iload_n 1, 1) := by decide +kernel
theorem dL_atOf_2 : decode cL_atOf 2 = .ok (.iload_n 2, 1) := by decide +kernel
theorem dL_atOf_3 : decode cL_atOf 3 = .ok (.iload_n 3, 1) := by decide +kernel
theorem dL_atOf_4 : decode cL_atOf 4 = .ok (.iload 4, 2) := by decide +kernel
theorem dL_atOf_6 : decode cL_atOf 6 = .ok (.iload 5, 2) := by decide +kernel
theorem dL_atOf_8 : decode cL_atOf 8 = .ok (.invokevirtual 149, 3) := by decide +kernel
theorem dL_atOf_11 : decode cL_atOf 11 = .ok (.ireturn, 1) := by decide +kernel
theorem dL_atOf_12 : decode cL_atOf 12 = .ok (.astore 6, 2) := by decide +kernel
theorem dL_atOf_14 : decode cL_atOf 14 = .ok (.ldc 63, 2) := by decide +kernel
theorem dL_atOf_16 : decode cL_atOf 16 = .ok (.ireturn, 1) := by decide +kernel
theorem dL_atOf_17 : decode cL_atOf 17 = .ok (.astore 6, 2) := by decide +kernel
theorem dL_atOf_19 : decode cL_atOf 19 = .ok (.ldc 48, 2) := by decide +kernel
theorem dL_atOf_21 : decode cL_atOf 21 = .ok (.ireturn, 1) := by decide +kernel
theorem dL_delayOf_0 : decode cL_delayOf 0 = .ok (.aload_n 0, 1) := by decide +kernel
theorem dL_delayOf_1 : decode cL_delayOf 1 = .ok (.iload_n 1, 1) := by decide +kernel
theorem dL_delayOf_2 : decode cL_delayOf 2 = .ok (.iload_n 2, 1) := by decide +kernel
theorem dL_delayOf_3 : decode cL_delayOf 3 = .ok (.invokevirtual 153, 3) := by decide +kernel
theorem dL_delayOf_6 : decode cL_delayOf 6 = .ok (.ireturn, 1) := by decide +kernel
theorem dL_delayOf_7 : decode cL_delayOf 7 = .ok (.astore_n 3, 1) := by decide +kernel
theorem dL_delayOf_8 : decode cL_delayOf 8 = .ok (.ldc 63, 2) := by decide +kernel
theorem dL_delayOf_10 : decode cL_delayOf 10 = .ok (.ireturn, 1) := by decide +kernel
theorem dL_delayOf_11 : decode cL_delayOf 11 = .ok (.astore_n 3, 1) := by decide +kernel
theorem dL_delayOf_12 : decode cL_delayOf 12 = .ok (.ldc 48, 2) := by decide +kernel
theorem dL_delayOf_14 : decode cL_delayOf 14 = .ok (.ireturn, 1) := by decide +kernel
theorem dL_wholeOf_0 : decode cL_wholeOf 0 = .ok (.aload_n 0, 1) := by decide +kernel
theorem dL_wholeOf_1 : decode cL_wholeOf 1 = .ok (.iload_n 1, 1) := by decide +kernel
theorem dL_wholeOf_2 : decode cL_wholeOf 2 = .ok (.invokevirtual 156, 3) := by decide +kernel
theorem dL_wholeOf_5 : decode cL_wholeOf 5 = .ok (.ireturn, 1) := by decide +kernel
theorem dL_wholeOf_6 : decode cL_wholeOf 6 = .ok (.astore_n 2, 1) := by decide +kernel
theorem dL_wholeOf_7 : decode cL_wholeOf 7 = .ok (.ldc 48, 2) := by decide +kernel
theorem dL_wholeOf_9 : decode cL_wholeOf 9 = .ok (.ireturn, 1) := by decide +kernel
theorem dL_partOf_0 : decode cL_partOf 0 = .ok (.aload_n 0, 1) := by decide +kernel
theorem dL_partOf_1 : decode cL_partOf 1 = .ok (.iload_n 1, 1) := by decide +kernel
theorem dL_partOf_2 : decode cL_partOf 2 = .ok (.iload_n 2, 1) := by decide +kernel
theorem dL_partOf_3 : decode cL_partOf 3 = .ok (.iload_n 3, 1) := by decide +kernel
theorem dL_partOf_4 : decode cL_partOf 4 = .ok (.invokevirtual 159, 3) := by decide +kernel
theorem dL_partOf_7 : decode cL_partOf 7 = .ok (.ireturn, 1) := by decide +kernel
theorem dL_partOf_8 : decode cL_partOf 8 = .ok (.astore 4, 2) := by decide +kernel
theorem dL_partOf_10 : decode cL_partOf 10 = .ok (.ldc 48, 2) := by decide +kernel
theorem dL_partOf_12 : decode cL_partOf 12 = .ok (.ireturn, 1) := by decide +kernel
theorem dL_partOf_13 : decode cL_partOf 13 = .ok (.astore 4, 2) := by decide +kernel
theorem dL_partOf_15 : decode cL_partOf 15 = .ok (.ldc 63, 2) := by decide +kernel
theorem dL_partOf_17 : decode cL_partOf 17 = .ok (.ireturn, 1) := by decide +kernel
theorem dL_isSo_0 : decode cL_isSo 0 = .ok (.iconst 0, 1) := by decide +kernel
theorem dL_isSo_1 : decode cL_isSo 1 = .ok (.istore 4, 2) := by decide +kernel
theorem dL_isSo_3 : decode cL_isSo 3 = .ok (.iconst 1, 1) := by decide +kernel
theorem dL_isSo_4 : decode cL_isSo 4 = .ok (.istore 5, 2) := by decide +kernel
theorem dL_isSo_6 : decode cL_isSo 6 = .ok (.iconst 0, 1) := by decide +kernel
theorem dL_isSo_7 : decode cL_isSo 7 = .ok (.istore 6, 2) := by decide +kernel
theorem dL_isSo_9 : decode cL_isSo 9 = .ok (.iload 6, 2) := by decide +kernel
theorem dL_isSo_11 : decode cL_isSo 11 = .ok (.bipush 6, 2) := by decide +kernel
theorem dL_isSo_13 : decode cL_isSo 13 = .ok (.if_icmp .ge 52, 3) := by decide +kernel
theorem dL_isSo_16 : decode cL_isSo 16 = .ok (.iload 5, 2) := by decide +kernel
theorem dL_isSo_18 : decode cL_isSo 18 = .ok (.ifCond .eq 38, 3) := by decide +kernel
theorem dL_isSo_21 : decode cL_isSo 21 = .ok (.aload_n 0, 1) := by decide +kernel
theorem dL_isSo_22 : decode cL_isSo 22 = .ok (.iload 6, 2) := by decide +kernel
theorem dL_isSo_24 : decode cL_isSo 24 = .ok (.invokestatic 162, 3) := by decide +kernel
theorem dL_isSo_27 : decode cL_isSo 27 = .ok (.aload_n 1, 1) := by decide +kernel
theorem dL_isSo_28 : decode cL_isSo 28 = .ok (.iload 6, 2) := by decide +kernel
theorem dL_isSo_30 : decode cL_isSo 30 = .ok (.iaload, 1) := by decide +kernel
theorem dL_isSo_31 : decode cL_isSo 31 = .ok (.if_icmp .ne 25, 3) := by decide +kernel
theorem dL_isSo_34 : decode cL_isSo 34 = .ok (.aload_n 0, 1) := by decide +kernel
theorem dL_isSo_35 : decode cL_isSo 35 = .ok (.iconst 3, 1) := by decide +kernel
theorem dL_isSo_36 : decode cL_isSo 36 = .ok (.iload 6, 2) := by decide +kernel
theorem dL_isSo_38 : decode cL_isSo 38 = .ok (.iconst 0, 1) := by decide +kernel
theorem dL_isSo_39 : decode cL_isSo 39 = .ok (.invokestatic 165, 3) := by decide +kernel
theorem dL_isSo_42 : decode cL_isSo 42 = .ok (.aload_n 1, 1) := by decide +kernel
theorem dL_isSo_43 : decode cL_isSo 43 = .ok (.bipush 7, 2) := by decide +kernel
theorem dL_isSo_45 : decode cL_isSo 45 = .ok (.iload 6, 2) := by decide +kernel
theorem dL_isSo_47 : decode cL_isSo 47 = .ok (.iadd, 1) := by decide +kernel
theorem dL_isSo_48 : decode cL_isSo 48 = .ok (.iaload, 1) := by decide +kernel
theorem dL_isSo_49 : decode cL_isSo 49 = .ok (.if_icmp .ne 7, 3) := by decide +kernel
theorem dL_isSo_52 : decode cL_isSo 52 = .ok (.iconst 1, 1) := by decide +kernel
theorem dL_isSo_53 : decode cL_isSo 53 = .ok (.goto 4, 3) := by decide +kernel
theorem dL_isSo_56 : decode cL_isSo 56 = .ok (.iconst 0, 1) := by decide +kernel
theorem dL_isSo_57 : decode cL_isSo 57 = .ok (.istore 5, 2) := by decide +kernel
theorem dL_isSo_59 : decode cL_isSo 59 = .ok (.iinc 6 1, 3) := by decide +kernel
theorem dL_isSo_62 : decode cL_isSo 62 = .ok (.goto (-53), 3) := by decide +kernel
theorem dL_isSo_65 : decode cL_isSo 65 = .ok (.iconst 0, 1) := by decide +kernel
theorem dL_isSo_66 : decode cL_isSo 66 = .ok (.istore 6, 2) := by decide +kernel
theorem dL_isSo_68 : decode cL_isSo 68 = .ok (.iload 6, 2) := by decide +kernel
theorem dL_isSo_70 : decode cL_isSo 70 = .ok (.aload_n 1, 1) := by decide +kernel
theorem dL_isSo_71 : decode cL_isSo 71 = .ok (.iconst 2, 1) := by decide +kernel
theorem dL_isSo_72 : decode cL_isSo 72 = .ok (.iaload, 1) := by decide +kernel
theorem dL_isSo_73 : decode cL_isSo 73 = .ok (.if_icmp .ge 242, 3) := by decide +kernel
theorem dL_isSo_76 : decode cL_isSo 76 = .ok (.iload 5, 2) := by decide +kernel
theorem dL_isSo_78 : decode cL_isSo 78 = .ok (.ifCond .eq 237, 3) := by decide +kernel
theorem dL_isSo_81 : decode cL_isSo 81 = .ok (.bipush 10, 2) := by decide +kernel
theorem dL_isSo_83 : decode cL_isSo 83 = .ok (.iload 6, 2) := by decide +kernel
theorem dL_isSo_85 : decode cL_isSo 85 = .ok (.imul, 1) := by decide +kernel
theorem dL_isSo_86 : decode cL_isSo 86 = .ok (.istore 7, 2) := by decide +kernel
theorem dL_isSo_88 : decode cL_isSo 88 = .ok (.aload_n 2, 1) := by decide +kernel
theorem dL_isSo_89 : decode cL_isSo 89 = .ok (.iload 7, 2) := by decide +kernel
theorem dL_isSo_91 : decode cL_isSo 91 = .ok (.iconst 4, 1) := by decide +kernel
theorem dL_isSo_92 : decode cL_isSo 92 = .ok (.iadd, 1) := by decide +kernel
theorem dL_isSo_93 : decode cL_isSo 93 = .ok (.iaload, 1) := by decide +kernel
theorem dL_isSo_94 : decode cL_isSo 94 = .ok (.iconst 1, 1) := by decide +kernel
theorem dL_isSo_95 : decode cL_isSo 95 = .ok (.if_icmp .ne 7, 3) := by decide +kernel
theorem dL_isSo_98 : decode cL_isSo 98 = .ok (.iconst 1, 1) := by decide +kernel
theorem dL_isSo_99 : decode cL_isSo 99 = .ok (.goto 4, 3) := by decide +kernel
theorem dL_isSo_102 : decode cL_isSo 102 = .ok (.iconst 0, 1) := by decide +kernel
theorem dL_isSo_103 : decode cL_isSo 103 = .ok (.istore 8, 2) := by decide +kernel
theorem dL_isSo_105 : decode cL_isSo 105 = .ok (.iload 4, 2) := by decide +kernel
theorem dL_isSo_107 : decode cL_isSo 107 = .ok (.aload_n 2, 1) := by decide +kernel
theorem dL_isSo_108 : decode cL_isSo 108 = .ok (.iload 7, 2) := by decide +kernel
theorem dL_isSo_110 : decode cL_isSo 110 = .ok (.iconst 4, 1) := by decide +kernel
theorem dL_isSo_111 : decode cL_isSo 111 = .ok (.iadd, 1) := by decide +kernel
theorem dL_isSo_112 : decode cL_isSo 112 = .ok (.iaload, 1) := by decide +kernel
theorem dL_isSo_113 : decode cL_isSo 113 = .ok (.iadd, 1) := by decide +kernel
theorem dL_isSo_114 : decode cL_isSo 114 = .ok (.istore 4, 2) := by decide +kernel
theorem dL_isSo_116 : decode cL_isSo 116 = .ok (.aload_n 0, 1) := by decide +kernel
theorem dL_isSo_117 : decode cL_isSo 117 = .ok (.iconst 0, 1) := by decide +kernel
theorem dL_isSo_118 : decode cL_isSo 118 = .ok (.iload 6, 2) := by decide +kernel
theorem dL_isSo_120 : decode cL_isSo 120 = .ok (.iconst 0, 1) := by decide +kernel
theorem dL_isSo_121 : decode cL_isSo 121 = .ok (.invokestatic 165, 3) := by decide +kernel
theorem dL_isSo_124 : decode cL_isSo 124 = .ok (.aload_n 2, 1) := by decide +kernel
theorem dL_isSo_125 : decode cL_isSo 125 = .ok (.iload 7, 2) := by decide +kernel
theorem dL_isSo_127 : decode cL_isSo 127 = .ok (.iaload, 1) := by decide +kernel
theorem dL_isSo_128 : decode cL_isSo 128 = .ok (.if_icmp .ne 130, 3) := by decide +kernel
theorem dL_isSo_131 : decode cL_isSo 131 = .ok (.aload_n 0, 1) := by decide +kernel
theorem dL_isSo_132 : decode cL_isSo 132 = .ok (.iconst 0, 1) := by decide +kernel
theorem dL_isSo_133 : decode cL_isSo 133 = .ok (.iload 6, 2) := by decide +kernel
theorem dL_isSo_135 : decode cL_isSo 135 = .ok (.iconst 1, 1) := by decide +kernel
theorem dL_isSo_136 : decode cL_isSo 136 = .ok (.invokestatic 165, 3) := by decide +kernel
theorem dL_isSo_139 : decode cL_isSo 139 = .ok (.aload_n 2, 1) := by decide +kernel
theorem dL_isSo_140 : decode cL_isSo 140 = .ok (.iload 7, 2) := by decide +kernel
theorem dL_isSo_142 : decode cL_isSo 142 = .ok (.iconst 1, 1) := by decide +kernel
theorem dL_isSo_143 : decode cL_isSo 143 = .ok (.iadd, 1) := by decide +kernel
theorem dL_isSo_144 : decode cL_isSo 144 = .ok (.iaload, 1) := by decide +kernel
theorem dL_isSo_145 : decode cL_isSo 145 = .ok (.if_icmp .ne 113, 3) := by decide +kernel
theorem dL_isSo_148 : decode cL_isSo 148 = .ok (.aload_n 0, 1) := by decide +kernel
theorem dL_isSo_149 : decode cL_isSo 149 = .ok (.iconst 0, 1) := by decide +kernel
theorem dL_isSo_150 : decode cL_isSo 150 = .ok (.iload 6, 2) := by decide +kernel
theorem dL_isSo_152 : decode cL_isSo 152 = .ok (.iconst 2, 1) := by decide +kernel
theorem dL_isSo_153 : decode cL_isSo 153 = .ok (.invokestatic 165, 3) := by decide +kernel
theorem dL_isSo_156 : decode cL_isSo 156 = .ok (.aload_n 2, 1) := by decide +kernel
theorem dL_isSo_157 : decode cL_isSo 157 = .ok (.iload 7, 2) := by decide +kernel
theorem dL_isSo_159 : decode cL_isSo 159 = .ok (.iconst 2, 1) := by decide +kernel
theorem dL_isSo_160 : decode cL_isSo 160 = .ok (.iadd, 1) := by decide +kernel
theorem dL_isSo_161 : decode cL_isSo 161 = .ok (.iaload, 1) := by decide +kernel
theorem dL_isSo_162 : decode cL_isSo 162 = .ok (.if_icmp .ne 96, 3) := by decide +kernel
theorem dL_isSo_165 : decode cL_isSo 165 = .ok (.aload_n 0, 1) := by decide +kernel
theorem dL_isSo_166 : decode cL_isSo 166 = .ok (.iconst 0, 1) := by decide +kernel
theorem dL_isSo_167 : decode cL_isSo 167 = .ok (.iload 6, 2) := by decide +kernel
theorem dL_isSo_169 : decode cL_isSo 169 = .ok (.iconst 3, 1) := by decide +kernel
theorem dL_isSo_170 : decode cL_isSo 170 = .ok (.invokestatic 165, 3) := by decide +kernel
theorem dL_isSo_173 : decode cL_isSo 173 = .ok (.aload_n 2, 1) := by decide +kernel
theorem dL_isSo_174 : decode cL_isSo 174 = .ok (.iload 7, 2) := by decide +kernel
theorem dL_isSo_176 : decode cL_isSo 176 = .ok (.iconst 3, 1) := by decide +kernel
theorem dL_isSo_177 : decode cL_isSo 177 = .ok (.iadd, 1) := by decide +kernel
theorem dL_isSo_178 : decode cL_isSo 178 = .ok (.iaload, 1) := by decide +kernel
theorem dL_isSo_179 : decode cL_isSo 179 = .ok (.if_icmp .ne 79, 3) := by decide +kernel
theorem dL_isSo_182 : decode cL_isSo 182 = .ok (.aload_n 0, 1) := by decide +kernel
theorem dL_isSo_183 : decode cL_isSo 183 = .ok (.iload 6, 2) := by decide +kernel
theorem dL_isSo_185 : decode cL_isSo 185 = .ok (.invokestatic 168, 3) := by decide +kernel
theorem dL_isSo_188 : decode cL_isSo 188 = .ok (.iload 8, 2) := by decide +kernel
theorem dL_isSo_190 : decode cL_isSo 190 = .ok (.ifCond .eq 12, 3) := by decide +kernel
theorem dL_isSo_193 : decode cL_isSo 193 = .ok (.aload_n 2, 1) := by decide +kernel
theorem dL_isSo_194 : decode cL_isSo 194 = .ok (.iload 7, 2) := by decide +kernel
theorem dL_isSo_196 : decode cL_isSo 196 = .ok (.iconst 5, 1) := by decide +kernel
theorem dL_isSo_197 : decode cL_isSo 197 = .ok (.iadd, 1) := by decide +kernel
theorem dL_isSo_198 : decode cL_isSo 198 = .ok (.iaload, 1) := by decide +kernel
theorem dL_isSo_199 : decode cL_isSo 199 = .ok (.goto 5, 3) := by decide +kernel
theorem dL_isSo_202 : decode cL_isSo 202 = .ok (.ldc 23, 2) := by decide +kernel
theorem dL_isSo_204 : decode cL_isSo 204 = .ok (.if_icmp .ne 54, 3) := by decide +kernel
theorem dL_isSo_207 : decode cL_isSo 207 = .ok (.aload_n 0, 1) := by decide +kernel
theorem dL_isSo_208 : decode cL_isSo 208 = .ok (.iconst 0, 1) := by decide +kernel
theorem dL_isSo_209 : decode cL_isSo 209 = .ok (.iload 6, 2) := by decide +kernel
theorem dL_isSo_211 : decode cL_isSo 211 = .ok (.invokestatic 171, 3) := by decide +kernel
theorem dL_isSo_214 : decode cL_isSo 214 = .ok (.iload 6, 2) := by decide +kernel
theorem dL_isSo_216 : decode cL_isSo 216 = .ok (.ifCond .ne 8, 3) := by decide +kernel
theorem dL_isSo_219 : decode cL_isSo 219 = .ok (.ldc 48, 2) := by decide +kernel
theorem dL_isSo_221 : decode cL_isSo 221 = .ok (.goto 30, 3) := by decide +kernel
theorem dL_isSo_224 : decode cL_isSo 224 = .ok (.iload 8, 2) := by decide +kernel
theorem dL_isSo_226 : decode cL_isSo 226 = .ok (.ifCond .eq 23, 3) := by decide +kernel
theorem dL_isSo_229 : decode cL_isSo 229 = .ok (.aload_n 2, 1) := by decide +kernel
theorem dL_isSo_230 : decode cL_isSo 230 = .ok (.iconst 4, 1) := by decide +kernel
theorem dL_isSo_231 : decode cL_isSo 231 = .ok (.iaload, 1) := by decide +kernel
theorem dL_isSo_232 : decode cL_isSo 232 = .ok (.iconst 1, 1) := by decide +kernel
theorem dL_isSo_233 : decode cL_isSo 233 = .ok (.if_icmp .ne 16, 3) := by decide +kernel
theorem dL_isSo_236 : decode cL_isSo 236 = .ok (.aload_n 2, 1) := by decide +kernel
theorem dL_isSo_237 : decode cL_isSo 237 = .ok (.iconst 5, 1) := by decide +kernel
theorem dL_isSo_238 : decode cL_isSo 238 = .ok (.iaload, 1) := by decide +kernel
theorem dL_isSo_239 : decode cL_isSo 239 = .ok (.aload_n 2, 1) := by decide +kernel
theorem dL_isSo_240 : decode cL_isSo 240 = .ok (.iload 7, 2) := by decide +kernel
theorem dL_isSo_242 : decode cL_isSo 242 = .ok (.iconst 5, 1) := by decide +kernel
theorem dL_isSo_243 : decode cL_isSo 243 = .ok (.iadd, 1) := by decide +kernel
theorem dL_isSo_244 : decode cL_isSo 244 = .ok (.iaload, 1) := by decide +kernel
theorem dL_isSo_245 : decode cL_isSo 245 = .ok (.isub, 1) := by decide +kernel
theorem dL_isSo_246 : decode cL_isSo 246 = .ok (.goto 5, 3) := by decide +kernel
theorem dL_isSo_249 : decode cL_isSo 249 = .ok (.ldc 23, 2) := by decide +kernel
theorem dL_isSo_251 : decode cL_isSo 251 = .ok (.if_icmp .ne 7, 3) := by decide +kernel
theorem dL_isSo_254 : decode cL_isSo 254 = .ok (.iconst 1, 1) := by decide +kernel
theorem dL_isSo_255 : decode cL_isSo 255 = .ok (.goto 4, 3) := by decide +kernel
theorem dL_isSo_258 : decode cL_isSo 258 = .ok (.iconst 0, 1) := by decide +kernel
theorem dL_isSo_259 : decode cL_isSo 259 = .ok (.istore 5, 2) := by decide +kernel
theorem dL_isSo_261 : decode cL_isSo 261 = .ok (.iconst 0, 1) := by decide +kernel
theorem dL_isSo_262 : decode cL_isSo 262 = .ok (.istore 9, 2) := by decide +kernel
theorem dL_isSo_264 : decode cL_isSo 264 = .ok (.iload 9, 2) := by decide +kernel
theorem dL_isSo_266 : decode cL_isSo 266 = .ok (.iconst 4, 1) := by decide +kernel
theorem dL_isSo_267 : decode cL_isSo 267 = .ok (.if_icmp .ge 42, 3) := by decide +kernel
theorem dL_isSo_270 : decode cL_isSo 270 = .ok (.iload 5, 2) := by decide +kernel
theorem dL_isSo_272 : decode cL_isSo 272 = .ok (.ifCond .eq 28, 3) := by decide +kernel
theorem dL_isSo_275 : decode cL_isSo 275 = .ok (.aload_n 0, 1) := by decide +kernel
theorem dL_isSo_276 : decode cL_isSo 276 = .ok (.iload 6, 2) := by decide +kernel
theorem dL_isSo_278 : decode cL_isSo 278 = .ok (.iload 9, 2) := by decide +kernel
theorem dL_isSo_280 : decode cL_isSo 280 = .ok (.invokestatic 174, 3) := by decide +kernel
theorem dL_isSo_283 : decode cL_isSo 283 = .ok (.aload_n 2, 1) := by decide +kernel
theorem dL_isSo_284 : decode cL_isSo 284 = .ok (.iload 7, 2) := by decide +kernel
theorem dL_isSo_286 : decode cL_isSo 286 = .ok (.bipush 6, 2) := by decide +kernel
theorem dL_isSo_288 : decode cL_isSo 288 = .ok (.iadd, 1) := by decide +kernel
theorem dL_isSo_289 : decode cL_isSo 289 = .ok (.iload 9, 2) := by decide +kernel
theorem dL_isSo_291 : decode cL_isSo 291 = .ok (.iadd, 1) := by decide +kernel
theorem dL_isSo_292 : decode cL_isSo 292 = .ok (.iaload, 1) := by decide +kernel
theorem dL_isSo_293 : decode cL_isSo 293 = .ok (.if_icmp .ne 7, 3) := by decide +kernel
theorem dL_isSo_296 : decode cL_isSo 296 = .ok (.iconst 1, 1) := by decide +kernel
theorem dL_isSo_297 : decode cL_isSo 297 = .ok (.goto 4, 3) := by decide +kernel
theorem dL_isSo_300 : decode cL_isSo 300 = .ok (.iconst 0, 1) := by decide +kernel
theorem dL_isSo_301 : decode cL_isSo 301 = .ok (.istore 5, 2) := by decide +kernel
theorem dL_isSo_303 : decode cL_isSo 303 = .ok (.iinc 9 1, 3) := by decide +kernel
theorem dL_isSo_306 : decode cL_isSo 306 = .ok (.goto (-42), 3) := by decide +kernel
theorem dL_isSo_309 : decode cL_isSo 309 = .ok (.iinc 6 1, 3) := by decide +kernel
theorem dL_isSo_312 : decode cL_isSo 312 = .ok (.goto (-244), 3) := by decide +kernel
theorem dL_isSo_315 : decode cL_isSo 315 = .ok (.iconst 0, 1) := by decide +kernel
theorem dL_isSo_316 : decode cL_isSo 316 = .ok (.istore 6, 2) := by decide +kernel
theorem dL_isSo_318 : decode cL_isSo 318 = .ok (.iload 6, 2) := by decide +kernel
theorem dL_isSo_320 : decode cL_isSo 320 = .ok (.iconst 3, 1) := by decide +kernel
theorem dL_isSo_321 : decode cL_isSo 321 = .ok (.aload_n 1, 1) := by decide +kernel
theorem dL_isSo_322 : decode cL_isSo 322 = .ok (.iconst 3, 1) := by decide +kernel
theorem dL_isSo_323 : decode cL_isSo 323 = .ok (.iaload, 1) := by decide +kernel
theorem dL_isSo_324 : decode cL_isSo 324 = .ok (.imul, 1) := by decide +kernel
theorem dL_isSo_325 : decode cL_isSo 325 = .ok (.if_icmp .ge 41, 3) := by decide +kernel
theorem dL_isSo_328 : decode cL_isSo 328 = .ok (.iload 5, 2) := by decide +kernel
theorem dL_isSo_330 : decode cL_isSo 330 = .ok (.ifCond .eq 27, 3) := by decide +kernel
theorem dL_isSo_333 : decode cL_isSo 333 = .ok (.aload_n 0, 1) := by decide +kernel
theorem dL_isSo_334 : decode cL_isSo 334 = .ok (.iconst 1, 1) := by decide +kernel
theorem dL_isSo_335 : decode cL_isSo 335 = .ok (.iload 6, 2) := by decide +kernel
theorem dL_isSo_337 : decode cL_isSo 337 = .ok (.iconst 3, 1) := by decide +kernel
theorem dL_isSo_338 : decode cL_isSo 338 = .ok (.idiv, 1) := by decide +kernel
theorem dL_isSo_339 : decode cL_isSo 339 = .ok (.iload 6, 2) := by decide +kernel
theorem dL_isSo_341 : decode cL_isSo 341 = .ok (.iconst 3, 1) := by decide +kernel
theorem dL_isSo_342 : decode cL_isSo 342 = .ok (.irem, 1) := by decide +kernel
theorem dL_isSo_343 : decode cL_isSo 343 = .ok (.invokestatic 165, 3) := by decide +kernel
theorem dL_isSo_346 : decode cL_isSo 346 = .ok (.aload_n 3, 1) := by decide +kernel
theorem dL_isSo_347 : decode cL_isSo 347 = .ok (.iload 6, 2) := by decide +kernel
theorem dL_isSo_349 : decode cL_isSo 349 = .ok (.iaload, 1) := by decide +kernel
theorem dL_isSo_350 : decode cL_isSo 350 = .ok (.if_icmp .ne 7, 3) := by decide +kernel
theorem dL_isSo_353 : decode cL_isSo 353 = .ok (.iconst 1, 1) := by decide +kernel
theorem dL_isSo_354 : decode cL_isSo 354 = .ok (.goto 4, 3) := by decide +kernel
theorem dL_isSo_357 : decode cL_isSo 357 = .ok (.iconst 0, 1) := by decide +kernel
theorem dL_isSo_358 : decode cL_isSo 358 = .ok (.istore 5, 2) := by decide +kernel
theorem dL_isSo_360 : decode cL_isSo 360 = .ok (.iinc 6 1, 3) := by decide +kernel
theorem dL_isSo_363 : decode cL_isSo 363 = .ok (.goto (-45), 3) := by decide +kernel
theorem dL_isSo_366 : decode cL_isSo 366 = .ok (.iconst 0, 1) := by decide +kernel
theorem dL_isSo_367 : decode cL_isSo 367 = .ok (.istore 6, 2) := by decide +kernel
theorem dL_isSo_369 : decode cL_isSo 369 = .ok (.iload 6, 2) := by decide +kernel
theorem dL_isSo_371 : decode cL_isSo 371 = .ok (.iconst 4, 1) := by decide +kernel
theorem dL_isSo_372 : decode cL_isSo 372 = .ok (.aload_n 1, 1) := by decide +kernel
theorem dL_isSo_373 : decode cL_isSo 373 = .ok (.iconst 4, 1) := by decide +kernel
theorem dL_isSo_374 : decode cL_isSo 374 = .ok (.iaload, 1) := by decide +kernel
theorem dL_isSo_375 : decode cL_isSo 375 = .ok (.imul, 1) := by decide +kernel
theorem dL_isSo_376 : decode cL_isSo 376 = .ok (.if_icmp .ge 44, 3) := by decide +kernel
theorem dL_isSo_379 : decode cL_isSo 379 = .ok (.iload 5, 2) := by decide +kernel
theorem dL_isSo_381 : decode cL_isSo 381 = .ok (.ifCond .eq 30, 3) := by decide +kernel
theorem dL_isSo_384 : decode cL_isSo 384 = .ok (.aload_n 0, 1) := by decide +kernel
theorem dL_isSo_385 : decode cL_isSo 385 = .ok (.iconst 2, 1) := by decide +kernel
theorem dL_isSo_386 : decode cL_isSo 386 = .ok (.iload 6, 2) := by decide +kernel
theorem dL_isSo_388 : decode cL_isSo 388 = .ok (.iconst 4, 1) := by decide +kernel
theorem dL_isSo_389 : decode cL_isSo 389 = .ok (.idiv, 1) := by decide +kernel
theorem dL_isSo_390 : decode cL_isSo 390 = .ok (.iload 6, 2) := by decide +kernel
theorem dL_isSo_392 : decode cL_isSo 392 = .ok (.iconst 4, 1) := by decide +kernel
theorem dL_isSo_393 : decode cL_isSo 393 = .ok (.irem, 1) := by decide +kernel
theorem dL_isSo_394 : decode cL_isSo 394 = .ok (.invokestatic 165, 3) := by decide +kernel
theorem dL_isSo_397 : decode cL_isSo 397 = .ok (.aload_n 3, 1) := by decide +kernel
theorem dL_isSo_398 : decode cL_isSo 398 = .ok (.bipush 12, 2) := by decide +kernel
theorem dL_isSo_400 : decode cL_isSo 400 = .ok (.iload 6, 2) := by decide +kernel
theorem dL_isSo_402 : decode cL_isSo 402 = .ok (.iadd, 1) := by decide +kernel
theorem dL_isSo_403 : decode cL_isSo 403 = .ok (.iaload, 1) := by decide +kernel
theorem dL_isSo_404 : decode cL_isSo 404 = .ok (.if_icmp .ne 7, 3) := by decide +kernel
theorem dL_isSo_407 : decode cL_isSo 407 = .ok (.iconst 1, 1) := by decide +kernel
theorem dL_isSo_408 : decode cL_isSo 408 = .ok (.goto 4, 3) := by decide +kernel
theorem dL_isSo_411 : decode cL_isSo 411 = .ok (.iconst 0, 1) := by decide +kernel
theorem dL_isSo_412 : decode cL_isSo 412 = .ok (.istore 5, 2) := by decide +kernel
theorem dL_isSo_414 : decode cL_isSo 414 = .ok (.iinc 6 1, 3) := by decide +kernel
theorem dL_isSo_417 : decode cL_isSo 417 = .ok (.goto (-48), 3) := by decide +kernel
theorem dL_isSo_420 : decode cL_isSo 420 = .ok (.iload 5, 2) := by decide +kernel
theorem dL_isSo_422 : decode cL_isSo 422 = .ok (.ifCond .eq 49, 3) := by decide +kernel
theorem dL_isSo_425 : decode cL_isSo 425 = .ok (.aload_n 0, 1) := by decide +kernel
theorem dL_isSo_426 : decode cL_isSo 426 = .ok (.bipush 6, 2) := by decide +kernel
theorem dL_isSo_428 : decode cL_isSo 428 = .ok (.invokestatic 162, 3) := by decide +kernel
theorem dL_isSo_431 : decode cL_isSo 431 = .ok (.iload 4, 2) := by decide +kernel
theorem dL_isSo_433 : decode cL_isSo 433 = .ok (.if_icmp .ne 38, 3) := by decide +kernel
theorem dL_isSo_436 : decode cL_isSo 436 = .ok (.aload_n 0, 1) := by decide +kernel
theorem dL_isSo_437 : decode cL_isSo 437 = .ok (.bipush 7, 2) := by decide +kernel
theorem dL_isSo_439 : decode cL_isSo 439 = .ok (.invokestatic 162, 3) := by decide +kernel
theorem dL_isSo_442 : decode cL_isSo 442 = .ok (.iload 4, 2) := by decide +kernel
theorem dL_isSo_444 : decode cL_isSo 444 = .ok (.iload 4, 2) := by decide +kernel
theorem dL_isSo_446 : decode cL_isSo 446 = .ok (.iconst 1, 1) := by decide +kernel
theorem dL_isSo_447 : decode cL_isSo 447 = .ok (.isub, 1) := by decide +kernel
theorem dL_isSo_448 : decode cL_isSo 448 = .ok (.imul, 1) := by decide +kernel
theorem dL_isSo_449 : decode cL_isSo 449 = .ok (.iconst 2, 1) := by decide +kernel
theorem dL_isSo_450 : decode cL_isSo 450 = .ok (.idiv, 1) := by decide +kernel
theorem dL_isSo_451 : decode cL_isSo 451 = .ok (.if_icmp .ne 20, 3) := by decide +kernel
theorem dL_isSo_454 : decode cL_isSo 454 = .ok (.aload_n 0, 1) := by decide +kernel
theorem dL_isSo_455 : decode cL_isSo 455 = .ok (.bipush 10, 2) := by decide +kernel
theorem dL_isSo_457 : decode cL_isSo 457 = .ok (.invokestatic 162, 3) := by decide +kernel
theorem dL_isSo_460 : decode cL_isSo 460 = .ok (.aload_n 1, 1) := by decide +kernel
theorem dL_isSo_461 : decode cL_isSo 461 = .ok (.bipush 6, 2) := by decide +kernel
theorem dL_isSo_463 : decode cL_isSo 463 = .ok (.iaload, 1) := by decide +kernel
theorem dL_isSo_464 : decode cL_isSo 464 = .ok (.if_icmp .ne 7, 3) := by decide +kernel
theorem dL_isSo_467 : decode cL_isSo 467 = .ok (.iconst 1, 1) := by decide +kernel
theorem dL_isSo_468 : decode cL_isSo 468 = .ok (.goto 4, 3) := by decide +kernel
theorem dL_isSo_471 : decode cL_isSo 471 = .ok (.iconst 0, 1) := by decide +kernel
theorem dL_isSo_472 : decode cL_isSo 472 = .ok (.ireturn, 1) := by decide +kernel
theorem dL_areListed_0 : decode cL_areListed 0 = .ok (.aload_n 1, 1) := by decide +kernel
theorem dL_areListed_1 : decode cL_areListed 1 = .ok (.iconst 2, 1) := by decide +kernel
theorem dL_areListed_2 : decode cL_areListed 2 = .ok (.iaload, 1) := by decide +kernel
theorem dL_areListed_3 : decode cL_areListed 3 = .ok (.ifCond .ne 21, 3) := by decide +kernel
theorem dL_areListed_6 : decode cL_areListed 6 = .ok (.aload_n 0, 1) := by decide +kernel
theorem dL_areListed_7 : decode cL_areListed 7 = .ok (.iconst 0, 1) := by decide +kernel
theorem dL_areListed_8 : decode cL_areListed 8 = .ok (.iconst 0, 1) := by decide +kernel
theorem dL_areListed_9 : decode cL_areListed 9 = .ok (.iconst 0, 1) := by decide +kernel
theorem dL_areListed_10 : decode cL_areListed 10 = .ok (.invokestatic 177, 3) := by decide +kernel
theorem dL_areListed_13 : decode cL_areListed 13 = .ok (.ldc 63, 2) := by decide +kernel
theorem dL_areListed_15 : decode cL_areListed 15 = .ok (.if_icmp .ne 7, 3) := by decide +kernel
theorem dL_areListed_18 : decode cL_areListed 18 = .ok (.iconst 1, 1) := by decide +kernel
theorem dL_areListed_19 : decode cL_areListed 19 = .ok (.goto 4, 3) := by decide +kernel
theorem dL_areListed_22 : decode cL_areListed 22 = .ok (.iconst 0, 1) := by decide +kernel
theorem dL_areListed_23 : decode cL_areListed 23 = .ok (.ireturn, 1) := by decide +kernel
theorem dL_areListed_24 : decode cL_areListed 24 = .ok (.bipush 60, 2) := by decide +kernel
theorem dL_areListed_26 : decode cL_areListed 26 = .ok (.newarray .int, 2) := by decide +kernel
theorem dL_areListed_28 : decode cL_areListed 28 = .ok (.astore 5, 2) := by decide +kernel
theorem dL_areListed_30 : decode cL_areListed 30 = .ok (.iload 4, 2) := by decide +kernel
theorem dL_areListed_32 : decode cL_areListed 32 = .ok (.sipush 2001, 3) := by decide +kernel
theorem dL_areListed_35 : decode cL_areListed 35 = .ok (.invokestatic 40, 3) := by decide +kernel
theorem dL_areListed_38 : decode cL_areListed 38 = .ok (.sipush 500, 3) := by decide +kernel
theorem dL_areListed_41 : decode cL_areListed 41 = .ok (.isub, 1) := by decide +kernel
theorem dL_areListed_42 : decode cL_areListed 42 = .ok (.istore 6, 2) := by decide +kernel
theorem dL_areListed_44 : decode cL_areListed 44 = .ok (.iload 4, 2) := by decide +kernel
theorem dL_areListed_46 : decode cL_areListed 46 = .ok (.bipush 11, 2) := by decide +kernel
theorem dL_areListed_48 : decode cL_areListed 48 = .ok (.ishr, 1) := by decide +kernel
theorem dL_areListed_49 : decode cL_areListed 49 = .ok (.sipush 2001, 3) := by decide +kernel
theorem dL_areListed_52 : decode cL_areListed 52 = .ok (.invokestatic 40, 3) := by decide +kernel
theorem dL_areListed_55 : decode cL_areListed 55 = .ok (.sipush 500, 3) := by decide +kernel
theorem dL_areListed_58 : decode cL_areListed 58 = .ok (.isub, 1) := by decide +kernel
theorem dL_areListed_59 : decode cL_areListed 59 = .ok (.istore 7, 2) := by decide +kernel
theorem dL_areListed_61 : decode cL_areListed 61 = .ok (.iload 4, 2) := by decide +kernel
theorem dL_areListed_63 : decode cL_areListed 63 = .ok (.iconst 3, 1) := by decide +kernel
theorem dL_areListed_64 : decode cL_areListed 64 = .ok (.ishr, 1) := by decide +kernel
theorem dL_areListed_65 : decode cL_areListed 65 = .ok (.aload_n 1, 1) := by decide +kernel
theorem dL_areListed_66 : decode cL_areListed 66 = .ok (.iconst 2, 1) := by decide +kernel
theorem dL_areListed_67 : decode cL_areListed 67 = .ok (.iaload, 1) := by decide +kernel
theorem dL_areListed_68 : decode cL_areListed 68 = .ok (.invokestatic 40, 3) := by decide +kernel
theorem dL_areListed_71 : decode cL_areListed 71 = .ok (.istore 8, 2) := by decide +kernel
theorem dL_areListed_73 : decode cL_areListed 73 = .ok (.aload_n 1, 1) := by decide +kernel
theorem dL_areListed_74 : decode cL_areListed 74 = .ok (.aload_n 2, 1) := by decide +kernel
theorem dL_areListed_75 : decode cL_areListed 75 = .ok (.aload_n 3, 1) := by decide +kernel
theorem dL_areListed_76 : decode cL_areListed 76 = .ok (.aload 5, 2) := by decide +kernel
theorem dL_areListed_78 : decode cL_areListed 78 = .ok (.iload 6, 2) := by decide +kernel
theorem dL_areListed_80 : decode cL_areListed 80 = .ok (.iload 7, 2) := by decide +kernel
theorem dL_areListed_82 : decode cL_areListed 82 = .ok (.iload 8, 2) := by decide +kernel
theorem dL_areListed_84 : decode cL_areListed 84 = .ok (.invokestatic 31, 3) := by decide +kernel
theorem dL_areListed_87 : decode cL_areListed 87 = .ok (.istore 9, 2) := by decide +kernel
theorem dL_areListed_89 : decode cL_areListed 89 = .ok (.aload_n 0, 1) := by decide +kernel
theorem dL_areListed_90 : decode cL_areListed 90 = .ok (.iload 6, 2) := by decide +kernel
theorem dL_areListed_92 : decode cL_areListed 92 = .ok (.iload 7, 2) := by decide +kernel
theorem dL_areListed_94 : decode cL_areListed 94 = .ok (.iload 8, 2) := by decide +kernel
theorem dL_areListed_96 : decode cL_areListed 96 = .ok (.invokestatic 177, 3) := by decide +kernel
theorem dL_areListed_99 : decode cL_areListed 99 = .ok (.iload 9, 2) := by decide +kernel
theorem dL_areListed_101 : decode cL_areListed 101 = .ok (.if_icmp .ne 41, 3) := by decide +kernel
theorem dL_areListed_104 : decode cL_areListed 104 = .ok (.aload_n 0, 1) := by decide +kernel
theorem dL_areListed_105 : decode cL_areListed 105 = .ok (.iload 6, 2) := by decide +kernel
theorem dL_areListed_107 : decode cL_areListed 107 = .ok (.iload 7, 2) := by decide +kernel
theorem dL_areListed_109 : decode cL_areListed 109 = .ok (.iload 8, 2) := by decide +kernel
theorem dL_areListed_111 : decode cL_areListed 111 = .ok (.iload 9, 2) := by decide +kernel
theorem dL_areListed_113 : decode cL_areListed 113 = .ok (.iconst 0, 1) := by decide +kernel
theorem dL_areListed_114 : decode cL_areListed 114 = .ok (.invokestatic 180, 3) := by decide +kernel
theorem dL_areListed_117 : decode cL_areListed 117 = .ok (.ldc 23, 2) := by decide +kernel
theorem dL_areListed_119 : decode cL_areListed 119 = .ok (.if_icmp .ne 23, 3) := by decide +kernel
theorem dL_areListed_122 : decode cL_areListed 122 = .ok (.aload_n 0, 1) := by decide +kernel
theorem dL_areListed_123 : decode cL_areListed 123 = .ok (.sipush 3001, 3) := by decide +kernel
theorem dL_areListed_126 : decode cL_areListed 126 = .ok (.iload 7, 2) := by decide +kernel
theorem dL_areListed_128 : decode cL_areListed 128 = .ok (.iload 8, 2) := by decide +kernel
theorem dL_areListed_130 : decode cL_areListed 130 = .ok (.invokestatic 177, 3) := by decide +kernel
theorem dL_areListed_133 : decode cL_areListed 133 = .ok (.ldc 48, 2) := by decide +kernel
theorem dL_areListed_135 : decode cL_areListed 135 = .ok (.if_icmp .ne 7, 3) := by decide +kernel
theorem dL_areListed_138 : decode cL_areListed 138 = .ok (.iconst 1, 1) := by decide +kernel
theorem dL_areListed_139 : decode cL_areListed 139 = .ok (.goto 4, 3) := by decide +kernel
theorem dL_areListed_142 : decode cL_areListed 142 = .ok (.iconst 0, 1) := by decide +kernel
theorem dL_areListed_143 : decode cL_areListed 143 = .ok (.istore 10, 2) := by decide +kernel
theorem dL_areListed_145 : decode cL_areListed 145 = .ok (.iconst 0, 1) := by decide +kernel
theorem dL_areListed_146 : decode cL_areListed 146 = .ok (.istore 11, 2) := by decide +kernel
theorem dL_areListed_148 : decode cL_areListed 148 = .ok (.iload 11, 2) := by decide +kernel
theorem dL_areListed_150 : decode cL_areListed 150 = .ok (.iload 9, 2) := by decide +kernel
theorem dL_areListed_152 : decode cL_areListed 152 = .ok (.if_icmp .ge 128, 3) := by decide +kernel
theorem dL_areListed_155 : decode cL_areListed 155 = .ok (.iload 10, 2) := by decide +kernel
theorem dL_areListed_157 : decode cL_areListed 157 = .ok (.ifCond .eq 123, 3) := by decide +kernel
theorem dL_areListed_160 : decode cL_areListed 160 = .ok (.aload_n 0, 1) := by decide +kernel
theorem dL_areListed_161 : decode cL_areListed 161 = .ok (.iload 6, 2) := by decide +kernel
theorem dL_areListed_163 : decode cL_areListed 163 = .ok (.iload 7, 2) := by decide +kernel
theorem dL_areListed_165 : decode cL_areListed 165 = .ok (.iload 8, 2) := by decide +kernel
theorem dL_areListed_167 : decode cL_areListed 167 = .ok (.iload 11, 2) := by decide +kernel
theorem dL_areListed_169 : decode cL_areListed 169 = .ok (.iconst 0, 1) := by decide +kernel
theorem dL_areListed_170 : decode cL_areListed 170 = .ok (.invokestatic 180, 3) := by decide +kernel
theorem dL_areListed_173 : decode cL_areListed 173 = .ok (.aload 5, 2) := by decide +kernel
theorem dL_areListed_175 : decode cL_areListed 175 = .ok (.iconst 5, 1) := by decide +kernel
theorem dL_areListed_176 : decode cL_areListed 176 = .ok (.iload 11, 2) := by decide +kernel
theorem dL_areListed_178 : decode cL_areListed 178 = .ok (.imul, 1) := by decide +kernel
theorem dL_areListed_179 : decode cL_areListed 179 = .ok (.iaload, 1) := by decide +kernel
theorem dL_areListed_180 : decode cL_areListed 180 = .ok (.if_icmp .ne 91, 3) := by decide +kernel
theorem dL_areListed_183 : decode cL_areListed 183 = .ok (.aload_n 0, 1) := by decide +kernel
theorem dL_areListed_184 : decode cL_areListed 184 = .ok (.iload 6, 2) := by decide +kernel
theorem dL_areListed_186 : decode cL_areListed 186 = .ok (.iload 7, 2) := by decide +kernel
theorem dL_areListed_188 : decode cL_areListed 188 = .ok (.iload 8, 2) := by decide +kernel
theorem dL_areListed_190 : decode cL_areListed 190 = .ok (.iload 11, 2) := by decide +kernel
theorem dL_areListed_192 : decode cL_areListed 192 = .ok (.iconst 1, 1) := by decide +kernel
theorem dL_areListed_193 : decode cL_areListed 193 = .ok (.invokestatic 180, 3) := by decide +kernel
theorem dL_areListed_196 : decode cL_areListed 196 = .ok (.aload 5, 2) := by decide +kernel
theorem dL_areListed_198 : decode cL_areListed 198 = .ok (.iconst 5, 1) := by decide +kernel
theorem dL_areListed_199 : decode cL_areListed 199 = .ok (.iload 11, 2) := by decide +kernel
theorem dL_areListed_201 : decode cL_areListed 201 = .ok (.imul, 1) := by decide +kernel
theorem dL_areListed_202 : decode cL_areListed 202 = .ok (.iconst 1, 1) := by decide +kernel
theorem dL_areListed_203 : decode cL_areListed 203 = .ok (.iadd, 1) := by decide +kernel
theorem dL_areListed_204 : decode cL_areListed 204 = .ok (.iaload, 1) := by decide +kernel
theorem dL_areListed_205 : decode cL_areListed 205 = .ok (.if_icmp .ne 66, 3) := by decide +kernel
theorem dL_areListed_208 : decode cL_areListed 208 = .ok (.aload_n 0, 1) := by decide +kernel
theorem dL_areListed_209 : decode cL_areListed 209 = .ok (.iload 6, 2) := by decide +kernel
theorem dL_areListed_211 : decode cL_areListed 211 = .ok (.iload 7, 2) := by decide +kernel
theorem dL_areListed_213 : decode cL_areListed 213 = .ok (.iload 8, 2) := by decide +kernel
theorem dL_areListed_215 : decode cL_areListed 215 = .ok (.iload 11, 2) := by decide +kernel
theorem dL_areListed_217 : decode cL_areListed 217 = .ok (.iconst 2, 1) := by decide +kernel
theorem dL_areListed_218 : decode cL_areListed 218 = .ok (.invokestatic 180, 3) := by decide +kernel
theorem dL_areListed_221 : decode cL_areListed 221 = .ok (.aload 5, 2) := by decide +kernel
theorem dL_areListed_223 : decode cL_areListed 223 = .ok (.iconst 5, 1) := by decide +kernel
theorem dL_areListed_224 : decode cL_areListed 224 = .ok (.iload 11, 2) := by decide +kernel
theorem dL_areListed_226 : decode cL_areListed 226 = .ok (.imul, 1) := by decide +kernel
theorem dL_areListed_227 : decode cL_areListed 227 = .ok (.iconst 1, 1) := by decide +kernel
theorem dL_areListed_228 : decode cL_areListed 228 = .ok (.iadd, 1) := by decide +kernel
theorem dL_areListed_229 : decode cL_areListed 229 = .ok (.iaload, 1) := by decide +kernel
theorem dL_areListed_230 : decode cL_areListed 230 = .ok (.sipush 1000, 3) := by decide +kernel
theorem dL_areListed_233 : decode cL_areListed 233 = .ok (.imul, 1) := by decide +kernel
theorem dL_areListed_234 : decode cL_areListed 234 = .ok (.aload_n 1, 1) := by decide +kernel
theorem dL_areListed_235 : decode cL_areListed 235 = .ok (.bipush 7, 2) := by decide +kernel
theorem dL_areListed_237 : decode cL_areListed 237 = .ok (.iaload, 1) := by decide +kernel
theorem dL_areListed_238 : decode cL_areListed 238 = .ok (.idiv, 1) := by decide +kernel
theorem dL_areListed_239 : decode cL_areListed 239 = .ok (.if_icmp .ne 32, 3) := by decide +kernel
theorem dL_areListed_242 : decode cL_areListed 242 = .ok (.aload_n 0, 1) := by decide +kernel
theorem dL_areListed_243 : decode cL_areListed 243 = .ok (.iload 6, 2) := by decide +kernel
theorem dL_areListed_245 : decode cL_areListed 245 = .ok (.iload 7, 2) := by decide +kernel
theorem dL_areListed_247 : decode cL_areListed 247 = .ok (.iload 8, 2) := by decide +kernel
theorem dL_areListed_249 : decode cL_areListed 249 = .ok (.iload 11, 2) := by decide +kernel
theorem dL_areListed_251 : decode cL_areListed 251 = .ok (.iconst 3, 1) := by decide +kernel
theorem dL_areListed_252 : decode cL_areListed 252 = .ok (.invokestatic 180, 3) := by decide +kernel
theorem dL_areListed_255 : decode cL_areListed 255 = .ok (.aload 5, 2) := by decide +kernel
theorem dL_areListed_257 : decode cL_areListed 257 = .ok (.iconst 5, 1) := by decide +kernel
theorem dL_areListed_258 : decode cL_areListed 258 = .ok (.iload 11, 2) := by decide +kernel
theorem dL_areListed_260 : decode cL_areListed 260 = .ok (.imul, 1) := by decide +kernel
theorem dL_areListed_261 : decode cL_areListed 261 = .ok (.iconst 2, 1) := by decide +kernel
theorem dL_areListed_262 : decode cL_areListed 262 = .ok (.iadd, 1) := by decide +kernel
theorem dL_areListed_263 : decode cL_areListed 263 = .ok (.iaload, 1) := by decide +kernel
theorem dL_areListed_264 : decode cL_areListed 264 = .ok (.if_icmp .ne 7, 3) := by decide +kernel
theorem dL_areListed_267 : decode cL_areListed 267 = .ok (.iconst 1, 1) := by decide +kernel
theorem dL_areListed_268 : decode cL_areListed 268 = .ok (.goto 4, 3) := by decide +kernel
theorem dL_areListed_271 : decode cL_areListed 271 = .ok (.iconst 0, 1) := by decide +kernel
theorem dL_areListed_272 : decode cL_areListed 272 = .ok (.istore 10, 2) := by decide +kernel
theorem dL_areListed_274 : decode cL_areListed 274 = .ok (.iinc 11 1, 3) := by decide +kernel
theorem dL_areListed_277 : decode cL_areListed 277 = .ok (.goto (-129), 3) := by decide +kernel
theorem dL_areListed_280 : decode cL_areListed 280 = .ok (.iload 10, 2) := by decide +kernel
theorem dL_areListed_282 : decode cL_areListed 282 = .ok (.ireturn, 1) := by decide +kernel
theorem dL_law_0 : decode cL_law 0 = .ok (.new 101, 3) := by decide +kernel
theorem dL_law_3 : decode cL_law 3 = .ok (.dup, 1) := by decide +kernel
theorem dL_law_4 : decode cL_law 4 = .ok (.invokespecial 184, 3) := by decide +kernel
theorem dL_law_7 : decode cL_law 7 = .ok (.astore_n 1, 1) := by decide +kernel
theorem dL_law_8 : decode cL_law 8 = .ok (.bipush 14, 2) := by decide +kernel
theorem dL_law_10 : decode cL_law 10 = .ok (.newarray .int, 2) := by decide +kernel
theorem dL_law_12 : decode cL_law 12 = .ok (.astore_n 2, 1) := by decide +kernel
theorem dL_law_13 : decode cL_law 13 = .ok (.bipush 40, 2) := by decide +kernel
theorem dL_law_15 : decode cL_law 15 = .ok (.newarray .int, 2) := by decide +kernel
theorem dL_law_17 : decode cL_law 17 = .ok (.astore_n 3, 1) := by decide +kernel
theorem dL_law_18 : decode cL_law 18 = .ok (.bipush 24, 2) := by decide +kernel
theorem dL_law_20 : decode cL_law 20 = .ok (.newarray .int, 2) := by decide +kernel
theorem dL_law_22 : decode cL_law 22 = .ok (.astore 4, 2) := by decide +kernel
theorem dL_law_24 : decode cL_law 24 = .ok (.aload_n 2, 1) := by decide +kernel
theorem dL_law_25 : decode cL_law 25 = .ok (.iconst 0, 1) := by decide +kernel
theorem dL_law_26 : decode cL_law 26 = .ok (.bipush 10, 2) := by decide +kernel
theorem dL_law_28 : decode cL_law 28 = .ok (.iastore, 1) := by decide +kernel
theorem dL_law_29 : decode cL_law 29 = .ok (.aload_n 2, 1) := by decide +kernel
theorem dL_law_30 : decode cL_law 30 = .ok (.iconst 1, 1) := by decide +kernel
theorem dL_law_31 : decode cL_law 31 = .ok (.bipush 8, 2) := by decide +kernel
theorem dL_law_33 : decode cL_law 33 = .ok (.iastore, 1) := by decide +kernel
theorem dL_law_34 : decode cL_law 34 = .ok (.aload_n 2, 1) := by decide +kernel
theorem dL_law_35 : decode cL_law 35 = .ok (.bipush 6, 2) := by decide +kernel
theorem dL_law_37 : decode cL_law 37 = .ok (.iconst 1, 1) := by decide +kernel
theorem dL_law_38 : decode cL_law 38 = .ok (.iastore, 1) := by decide +kernel
theorem dL_law_39 : decode cL_law 39 = .ok (.aload_n 2, 1) := by decide +kernel
theorem dL_law_40 : decode cL_law 40 = .ok (.bipush 7, 2) := by decide +kernel
theorem dL_law_42 : decode cL_law 42 = .ok (.sipush 340, 3) := by decide +kernel
theorem dL_law_45 : decode cL_law 45 = .ok (.iastore, 1) := by decide +kernel
theorem dL_law_46 : decode cL_law 46 = .ok (.aload_n 2, 1) := by decide +kernel
theorem dL_law_47 : decode cL_law 47 = .ok (.bipush 8, 2) := by decide +kernel
theorem dL_law_49 : decode cL_law 49 = .ok (.iconst 1, 1) := by decide +kernel
theorem dL_law_50 : decode cL_law 50 = .ok (.iastore, 1) := by decide +kernel
theorem dL_law_51 : decode cL_law 51 = .ok (.aload_n 2, 1) := by decide +kernel
theorem dL_law_52 : decode cL_law 52 = .ok (.bipush 11, 2) := by decide +kernel
theorem dL_law_54 : decode cL_law 54 = .ok (.bipush 10, 2) := by decide +kernel
theorem dL_law_56 : decode cL_law 56 = .ok (.iastore, 1) := by decide +kernel
theorem dL_law_57 : decode cL_law 57 = .ok (.aload_n 2, 1) := by decide +kernel
theorem dL_law_58 : decode cL_law 58 = .ok (.bipush 13, 2) := by decide +kernel
theorem dL_law_60 : decode cL_law 60 = .ok (.bipush 20, 2) := by decide +kernel
theorem dL_law_62 : decode cL_law 62 = .ok (.iastore, 1) := by decide +kernel
theorem dL_law_63 : decode cL_law 63 = .ok (.aload_n 1, 1) := by decide +kernel
theorem dL_law_64 : decode cL_law 64 = .ok (.aload_n 2, 1) := by decide +kernel
theorem dL_law_65 : decode cL_law 65 = .ok (.aload_n 3, 1) := by decide +kernel
theorem dL_law_66 : decode cL_law 66 = .ok (.aload 4, 2) := by decide +kernel
theorem dL_law_68 : decode cL_law 68 = .ok (.invokestatic 185, 3) := by decide +kernel
theorem dL_law_71 : decode cL_law 71 = .ok (.istore 5, 2) := by decide +kernel
theorem dL_law_73 : decode cL_law 73 = .ok (.bipush 10, 2) := by decide +kernel
theorem dL_law_75 : decode cL_law 75 = .ok (.aload_n 0, 1) := by decide +kernel
theorem dL_law_76 : decode cL_law 76 = .ok (.iconst 0, 1) := by decide +kernel
theorem dL_law_77 : decode cL_law 77 = .ok (.invokestatic 189, 3) := by decide +kernel
theorem dL_law_80 : decode cL_law 80 = .ok (.bipush 60, 2) := by decide +kernel
theorem dL_law_82 : decode cL_law 82 = .ok (.invokestatic 40, 3) := by decide +kernel
theorem dL_law_85 : decode cL_law 85 = .ok (.iadd, 1) := by decide +kernel
theorem dL_law_86 : decode cL_law 86 = .ok (.istore 6, 2) := by decide +kernel
theorem dL_law_88 : decode cL_law 88 = .ok (.iconst 0, 1) := by decide +kernel
theorem dL_law_89 : decode cL_law 89 = .ok (.istore 7, 2) := by decide +kernel
theorem dL_law_91 : decode cL_law 91 = .ok (.iload 7, 2) := by decide +kernel
theorem dL_law_93 : decode cL_law 93 = .ok (.iload 6, 2) := by decide +kernel
theorem dL_law_95 : decode cL_law 95 = .ok (.if_icmp .ge 84, 3) := by decide +kernel
theorem dL_law_98 : decode cL_law 98 = .ok (.iload 5, 2) := by decide +kernel
theorem dL_law_100 : decode cL_law 100 = .ok (.ifCond .eq 79, 3) := by decide +kernel
theorem dL_law_103 : decode cL_law 103 = .ok (.aload_n 0, 1) := by decide +kernel
theorem dL_law_104 : decode cL_law 104 = .ok (.iconst 1, 1) := by decide +kernel
theorem dL_law_105 : decode cL_law 105 = .ok (.iload 7, 2) := by decide +kernel
theorem dL_law_107 : decode cL_law 107 = .ok (.iadd, 1) := by decide +kernel
theorem dL_law_108 : decode cL_law 108 = .ok (.invokestatic 189, 3) := by decide +kernel
theorem dL_law_111 : decode cL_law 111 = .ok (.sipush 7919, 3) := by decide +kernel
theorem dL_law_114 : decode cL_law 114 = .ok (.iload 7, 2) := by decide +kernel
theorem dL_law_116 : decode cL_law 116 = .ok (.imul, 1) := by decide +kernel
theorem dL_law_117 : decode cL_law 117 = .ok (.ixor, 1) := by decide +kernel
theorem dL_law_118 : decode cL_law 118 = .ok (.istore 8, 2) := by decide +kernel
theorem dL_law_120 : decode cL_law 120 = .ok (.aload_n 1, 1) := by decide +kernel
theorem dL_law_121 : decode cL_law 121 = .ok (.aload_n 2, 1) := by decide +kernel
theorem dL_law_122 : decode cL_law 122 = .ok (.aload_n 3, 1) := by decide +kernel
theorem dL_law_123 : decode cL_law 123 = .ok (.aload 4, 2) := by decide +kernel
theorem dL_law_125 : decode cL_law 125 = .ok (.iload 8, 2) := by decide +kernel
theorem dL_law_127 : decode cL_law 127 = .ok (.invokestatic 192, 3) := by decide +kernel
theorem dL_law_130 : decode cL_law 130 = .ok (.ifCond .eq 40, 3) := by decide +kernel
theorem dL_law_133 : decode cL_law 133 = .ok (.aload_n 1, 1) := by decide +kernel
theorem dL_law_134 : decode cL_law 134 = .ok (.aload_n 2, 1) := by decide +kernel
theorem dL_law_135 : decode cL_law 135 = .ok (.aload_n 3, 1) := by decide +kernel
theorem dL_law_136 : decode cL_law 136 = .ok (.aload 4, 2) := by decide +kernel
theorem dL_law_138 : decode cL_law 138 = .ok (.invokestatic 185, 3) := by decide +kernel
theorem dL_law_141 : decode cL_law 141 = .ok (.ifCond .eq 29, 3) := by decide +kernel
theorem dL_law_144 : decode cL_law 144 = .ok (.iload 7, 2) := by decide +kernel
theorem dL_law_146 : decode cL_law 146 = .ok (.iconst 3, 1) := by decide +kernel
theorem dL_law_147 : decode cL_law 147 = .ok (.irem, 1) := by decide +kernel
theorem dL_law_148 : decode cL_law 148 = .ok (.ifCond .gt 18, 3) := by decide +kernel
theorem dL_law_151 : decode cL_law 151 = .ok (.aload_n 1, 1) := by decide +kernel
theorem dL_law_152 : decode cL_law 152 = .ok (.aload_n 2, 1) := by decide +kernel
theorem dL_law_153 : decode cL_law 153 = .ok (.aload_n 3, 1) := by decide +kernel
theorem dL_law_154 : decode cL_law 154 = .ok (.aload 4, 2) := by decide +kernel
theorem dL_law_156 : decode cL_law 156 = .ok (.iload 8, 2) := by decide +kernel
theorem dL_law_158 : decode cL_law 158 = .ok (.iconst 4, 1) := by decide +kernel
theorem dL_law_159 : decode cL_law 159 = .ok (.ishr, 1) := by decide +kernel
theorem dL_law_160 : decode cL_law 160 = .ok (.invokestatic 196, 3) := by decide +kernel
theorem dL_law_163 : decode cL_law 163 = .ok (.ifCond .eq 7, 3) := by decide +kernel
theorem dL_law_166 : decode cL_law 166 = .ok (.iconst 1, 1) := by decide +kernel
theorem dL_law_167 : decode cL_law 167 = .ok (.goto 4, 3) := by decide +kernel
theorem dL_law_170 : decode cL_law 170 = .ok (.iconst 0, 1) := by decide +kernel
theorem dL_law_171 : decode cL_law 171 = .ok (.istore 5, 2) := by decide +kernel
theorem dL_law_173 : decode cL_law 173 = .ok (.iinc 7 1, 3) := by decide +kernel
theorem dL_law_176 : decode cL_law 176 = .ok (.goto (-85), 3) := by decide +kernel
theorem dL_law_179 : decode cL_law 179 = .ok (.iload 5, 2) := by decide +kernel
theorem dL_law_181 : decode cL_law 181 = .ok (.ifCond .eq 58, 3) := by decide +kernel
theorem dL_law_184 : decode cL_law 184 = .ok (.aload_n 1, 1) := by decide +kernel
theorem dL_law_185 : decode cL_law 185 = .ok (.aload_n 2, 1) := by decide +kernel
theorem dL_law_186 : decode cL_law 186 = .ok (.iconst 2, 1) := by decide +kernel
theorem dL_law_187 : decode cL_law 187 = .ok (.iaload, 1) := by decide +kernel
theorem dL_law_188 : decode cL_law 188 = .ok (.invokestatic 168, 3) := by decide +kernel
theorem dL_law_191 : decode cL_law 191 = .ok (.ldc 63, 2) := by decide +kernel
theorem dL_law_193 : decode cL_law 193 = .ok (.if_icmp .ne 46, 3) := by decide +kernel
theorem dL_law_196 : decode cL_law 196 = .ok (.aload_n 1, 1) := by decide +kernel
theorem dL_law_197 : decode cL_law 197 = .ok (.bipush 11, 2) := by decide +kernel
theorem dL_law_199 : decode cL_law 199 = .ok (.invokestatic 162, 3) := by decide +kernel
theorem dL_law_202 : decode cL_law 202 = .ok (.ldc 48, 2) := by decide +kernel
theorem dL_law_204 : decode cL_law 204 = .ok (.if_icmp .ne 35, 3) := by decide +kernel
theorem dL_law_207 : decode cL_law 207 = .ok (.aload_n 1, 1) := by decide +kernel
theorem dL_law_208 : decode cL_law 208 = .ok (.iconst 3, 1) := by decide +kernel
theorem dL_law_209 : decode cL_law 209 = .ok (.bipush 7, 2) := by decide +kernel
theorem dL_law_211 : decode cL_law 211 = .ok (.iconst 0, 1) := by decide +kernel
theorem dL_law_212 : decode cL_law 212 = .ok (.invokestatic 165, 3) := by decide +kernel
theorem dL_law_215 : decode cL_law 215 = .ok (.ldc 63, 2) := by decide +kernel
theorem dL_law_217 : decode cL_law 217 = .ok (.if_icmp .ne 22, 3) := by decide +kernel
theorem dL_law_220 : decode cL_law 220 = .ok (.aload_n 1, 1) := by decide +kernel
theorem dL_law_221 : decode cL_law 221 = .ok (.iconst 3, 1) := by decide +kernel
theorem dL_law_222 : decode cL_law 222 = .ok (.bipush 6, 2) := by decide +kernel
theorem dL_law_224 : decode cL_law 224 = .ok (.iconst 0, 1) := by decide +kernel
theorem dL_law_225 : decode cL_law 225 = .ok (.invokestatic 165, 3) := by decide +kernel
theorem dL_law_228 : decode cL_law 228 = .ok (.aload_n 2, 1) := by decide +kernel
theorem dL_law_229 : decode cL_law 229 = .ok (.bipush 13, 2) := by decide +kernel
theorem dL_law_231 : decode cL_law 231 = .ok (.iaload, 1) := by decide +kernel
theorem dL_law_232 : decode cL_law 232 = .ok (.if_icmp .ne 7, 3) := by decide +kernel
theorem dL_law_235 : decode cL_law 235 = .ok (.iconst 1, 1) := by decide +kernel
theorem dL_law_236 : decode cL_law 236 = .ok (.goto 4, 3) := by decide +kernel
theorem dL_law_239 : decode cL_law 239 = .ok (.iconst 0, 1) := by decide +kernel
theorem dL_law_240 : decode cL_law 240 = .ok (.ireturn, 1) := by decide +kernel
abbrev vwCl : List vw_C := [(RX1, TX1, 1), (RX2, TX2, 8), (RX4, TX4, 8), (RX5, TX5, 2), (RX6, TX6, 1), (RX8, TX8, 9), (RX9, TX9, 4), (RX10, TX10, 3), (RX11, TX11, 8)]
