theorem d_L_law_522 : decode code 522 = .ok (.iaload, 1) := by decide +kernel
theorem d_L_law_523 : decode code 523 = .ok (.invokevirtual 52, 3) := by decide +kernel
theorem d_L_law_526 : decode code 526 = .ok (.aload_n 2, 1) := by decide +kernel
theorem d_L_law_527 : decode code 527 = .ok (.aload_n 0, 1) := by decide +kernel
theorem d_L_law_528 : decode code 528 = .ok (.iload_n 3, 1) := by decide +kernel
theorem d_L_law_529 : decode code 529 = .ok (.iconst 1, 1) := by decide +kernel
theorem d_L_law_530 : decode code 530 = .ok (.iadd, 1) := by decide +kernel
theorem d_L_law_531 : decode code 531 = .ok (.iaload, 1) := by decide +kernel
theorem d_L_law_532 : decode code 532 = .ok (.invokevirtual 55, 3) := by decide +kernel
theorem d_L_law_535 : decode code 535 = .ok (.if_icmp .eq 995, 3) := by decide +kernel
theorem d_L_law_538 : decode code 538 = .ok (.iconst 0, 1) := by decide +kernel
theorem d_L_law_540 : decode code 540 = .ok (.aload_n 1, 1) := by decide +kernel
theorem d_L_law_541 : decode code 541 = .ok (.aload_n 0, 1) := by decide +kernel
theorem d_L_law_542 : decode code 542 = .ok (.iload_n 3, 1) := by decide +kernel
theorem d_L_law_543 : decode code 543 = .ok (.iconst 1, 1) := by decide +kernel
theorem d_L_law_544 : decode code 544 = .ok (.iadd, 1) := by decide +kernel
theorem d_L_law_545 : decode code 545 = .ok (.iaload, 1) := by decide +kernel
theorem d_L_law_546 : decode code 546 = .ok (.invokevirtual 56, 3) := by decide +kernel
theorem d_L_law_549 : decode code 549 = .ok (.aload_n 2, 1) := by decide +kernel
theorem d_L_law_550 : decode code 550 = .ok (.aload_n 0, 1) := by decide +kernel
theorem d_L_law_551 : decode code 551 = .ok (.iload_n 3, 1) := by decide +kernel
theorem d_L_law_552 : decode code 552 = .ok (.iconst 1, 1) := by decide +kernel
theorem d_L_law_553 : decode code 553 = .ok (.iadd, 1) := by decide +kernel
theorem d_L_law_554 : decode code 554 = .ok (.iaload, 1) := by decide +kernel
theorem d_L_law_555 : decode code 555 = .ok (.invokevirtual 59, 3) := by decide +kernel
theorem d_L_law_558 : decode code 558 = .ok (.if_icmp .eq 972, 3) := by decide +kernel
theorem d_L_law_561 : decode code 561 = .ok (.iconst 0, 1) := by decide +kernel
theorem d_L_law_563 : decode code 563 = .ok (.aload_n 1, 1) := by decide +kernel
theorem d_L_law_564 : decode code 564 = .ok (.aload_n 0, 1) := by decide +kernel
theorem d_L_law_565 : decode code 565 = .ok (.iload_n 3, 1) := by decide +kernel
theorem d_L_law_566 : decode code 566 = .ok (.iconst 1, 1) := by decide +kernel
theorem d_L_law_567 : decode code 567 = .ok (.iadd, 1) := by decide +kernel
theorem d_L_law_568 : decode code 568 = .ok (.iaload, 1) := by decide +kernel
theorem d_L_law_569 : decode code 569 = .ok (.aload_n 0, 1) := by decide +kernel
theorem d_L_law_570 : decode code 570 = .ok (.iload_n 3, 1) := by decide +kernel
theorem d_L_law_571 : decode code 571 = .ok (.iconst 2, 1) := by decide +kernel
theorem d_L_law_572 : decode code 572 = .ok (.iadd, 1) := by decide +kernel
theorem d_L_law_573 : decode code 573 = .ok (.iaload, 1) := by decide +kernel
theorem d_L_law_574 : decode code 574 = .ok (.aload_n 0, 1) := by decide +kernel
theorem d_L_law_575 : decode code 575 = .ok (.iload_n 3, 1) := by decide +kernel
theorem d_L_law_576 : decode code 576 = .ok (.iconst 3, 1) := by decide +kernel
theorem d_L_law_577 : decode code 577 = .ok (.iadd, 1) := by decide +kernel
theorem d_L_law_578 : decode code 578 = .ok (.iaload, 1) := by decide +kernel
theorem d_L_law_579 : decode code 579 = .ok (.invokevirtual 60, 3) := by decide +kernel
theorem d_L_law_582 : decode code 582 = .ok (.aload_n 2, 1) := by decide +kernel
theorem d_L_law_583 : decode code 583 = .ok (.aload_n 0, 1) := by decide +kernel
theorem d_L_law_584 : decode code 584 = .ok (.iload_n 3, 1) := by decide +kernel
theorem d_L_law_585 : decode code 585 = .ok (.iconst 1, 1) := by decide +kernel
theorem d_L_law_586 : decode code 586 = .ok (.iadd, 1) := by decide +kernel
theorem d_L_law_587 : decode code 587 = .ok (.iaload, 1) := by decide +kernel
theorem d_L_law_588 : decode code 588 = .ok (.aload_n 0, 1) := by decide +kernel
theorem d_L_law_589 : decode code 589 = .ok (.iload_n 3, 1) := by decide +kernel
theorem d_L_law_590 : decode code 590 = .ok (.iconst 2, 1) := by decide +kernel
theorem d_L_law_591 : decode code 591 = .ok (.iadd, 1) := by decide +kernel
theorem d_L_law_592 : decode code 592 = .ok (.iaload, 1) := by decide +kernel
theorem d_L_law_593 : decode code 593 = .ok (.aload_n 0, 1) := by decide +kernel
theorem d_L_law_594 : decode code 594 = .ok (.iload_n 3, 1) := by decide +kernel
theorem d_L_law_595 : decode code 595 = .ok (.iconst 3, 1) := by decide +kernel
theorem d_L_law_596 : decode code 596 = .ok (.iadd, 1) := by decide +kernel
theorem d_L_law_597 : decode code 597 = .ok (.iaload, 1) := by decide +kernel
theorem d_L_law_598 : decode code 598 = .ok (.invokevirtual 63, 3) := by decide +kernel
theorem d_L_law_601 : decode code 601 = .ok (.if_icmp .eq 929, 3) := by decide +kernel
theorem d_L_law_604 : decode code 604 = .ok (.iconst 0, 1) := by decide +kernel
theorem d_L_law_606 : decode code 606 = .ok (.aload_n 1, 1) := by decide +kernel
theorem d_L_law_607 : decode code 607 = .ok (.aload_n 0, 1) := by decide +kernel
theorem d_L_law_608 : decode code 608 = .ok (.iload_n 3, 1) := by decide +kernel
theorem d_L_law_609 : decode code 609 = .ok (.iconst 1, 1) := by decide +kernel
theorem d_L_law_610 : decode code 610 = .ok (.iadd, 1) := by decide +kernel
theorem d_L_law_611 : decode code 611 = .ok (.iaload, 1) := by decide +kernel
theorem d_L_law_612 : decode code 612 = .ok (.aload_n 0, 1) := by decide +kernel
theorem d_L_law_613 : decode code 613 = .ok (.iload_n 3, 1) := by decide +kernel
theorem d_L_law_614 : decode code 614 = .ok (.iconst 2, 1) := by decide +kernel
theorem d_L_law_615 : decode code 615 = .ok (.iadd, 1) := by decide +kernel
theorem d_L_law_616 : decode code 616 = .ok (.iaload, 1) := by decide +kernel
theorem d_L_law_617 : decode code 617 = .ok (.invokevirtual 64, 3) := by decide +kernel
theorem d_L_law_620 : decode code 620 = .ok (.aload_n 2, 1) := by decide +kernel
theorem d_L_law_621 : decode code 621 = .ok (.aload_n 0, 1) := by decide +kernel
theorem d_L_law_622 : decode code 622 = .ok (.iload_n 3, 1) := by decide +kernel
theorem d_L_law_623 : decode code 623 = .ok (.iconst 1, 1) := by decide +kernel
theorem d_L_law_624 : decode code 624 = .ok (.iadd, 1) := by decide +kernel
theorem d_L_law_625 : decode code 625 = .ok (.iaload, 1) := by decide +kernel
theorem d_L_law_626 : decode code 626 = .ok (.aload_n 0, 1) := by decide +kernel
theorem d_L_law_627 : decode code 627 = .ok (.iload_n 3, 1) := by decide +kernel
theorem d_L_law_628 : decode code 628 = .ok (.iconst 2, 1) := by decide +kernel
theorem d_L_law_629 : decode code 629 = .ok (.iadd, 1) := by decide +kernel
theorem d_L_law_630 : decode code 630 = .ok (.iaload, 1) := by decide +kernel
theorem d_L_law_631 : decode code 631 = .ok (.invokevirtual 67, 3) := by decide +kernel
theorem d_L_law_634 : decode code 634 = .ok (.if_icmp .eq 896, 3) := by decide +kernel
theorem d_L_law_637 : decode code 637 = .ok (.iconst 0, 1) := by decide +kernel
theorem d_L_law_639 : decode code 639 = .ok (.aload_n 1, 1) := by decide +kernel
theorem d_L_law_640 : decode code 640 = .ok (.aload_n 0, 1) := by decide +kernel
theorem d_L_law_641 : decode code 641 = .ok (.iload_n 3, 1) := by decide +kernel
theorem d_L_law_642 : decode code 642 = .ok (.iconst 1, 1) := by decide +kernel
theorem d_L_law_643 : decode code 643 = .ok (.iadd, 1) := by decide +kernel
theorem d_L_law_644 : decode code 644 = .ok (.iaload, 1) := by decide +kernel
theorem d_L_law_645 : decode code 645 = .ok (.aload_n 0, 1) := by decide +kernel
theorem d_L_law_646 : decode code 646 = .ok (.iload_n 3, 1) := by decide +kernel
theorem d_L_law_647 : decode code 647 = .ok (.iconst 2, 1) := by decide +kernel
theorem d_L_law_648 : decode code 648 = .ok (.iadd, 1) := by decide +kernel
theorem d_L_law_649 : decode code 649 = .ok (.iaload, 1) := by decide +kernel
theorem d_L_law_650 : decode code 650 = .ok (.invokevirtual 68, 3) := by decide +kernel
theorem d_L_law_653 : decode code 653 = .ok (.aload_n 2, 1) := by decide +kernel
theorem d_L_law_654 : decode code 654 = .ok (.aload_n 0, 1) := by decide +kernel
theorem d_L_law_655 : decode code 655 = .ok (.iload_n 3, 1) := by decide +kernel
theorem d_L_law_656 : decode code 656 = .ok (.iconst 1, 1) := by decide +kernel
theorem d_L_law_657 : decode code 657 = .ok (.iadd, 1) := by decide +kernel
theorem d_L_law_658 : decode code 658 = .ok (.iaload, 1) := by decide +kernel
theorem d_L_law_659 : decode code 659 = .ok (.aload_n 0, 1) := by decide +kernel
theorem d_L_law_660 : decode code 660 = .ok (.iload_n 3, 1) := by decide +kernel
theorem d_L_law_661 : decode code 661 = .ok (.iconst 2, 1) := by decide +kernel
theorem d_L_law_662 : decode code 662 = .ok (.iadd, 1) := by decide +kernel
theorem d_L_law_663 : decode code 663 = .ok (.iaload, 1) := by decide +kernel
theorem d_L_law_664 : decode code 664 = .ok (.invokevirtual 71, 3) := by decide +kernel
theorem d_L_law_667 : decode code 667 = .ok (.if_icmp .eq 863, 3) := by decide +kernel
theorem d_L_law_670 : decode code 670 = .ok (.iconst 0, 1) := by decide +kernel
theorem d_L_law_672 : decode code 672 = .ok (.aload_n 1, 1) := by decide +kernel
theorem d_L_law_673 : decode code 673 = .ok (.invokevirtual 72, 3) := by decide +kernel
theorem d_L_law_676 : decode code 676 = .ok (.aload_n 2, 1) := by decide +kernel
theorem d_L_law_677 : decode code 677 = .ok (.invokevirtual 76, 3) := by decide +kernel
theorem d_L_law_680 : decode code 680 = .ok (.if_icmp .eq 850, 3) := by decide +kernel
theorem d_L_law_683 : decode code 683 = .ok (.iconst 0, 1) := by decide +kernel
theorem d_L_law_685 : decode code 685 = .ok (.aload_n 1, 1) := by decide +kernel
theorem d_L_law_686 : decode code 686 = .ok (.aload_n 0, 1) := by decide +kernel
theorem d_L_law_687 : decode code 687 = .ok (.iload_n 3, 1) := by decide +kernel
theorem d_L_law_688 : decode code 688 = .ok (.iconst 1, 1) := by decide +kernel
theorem d_L_law_689 : decode code 689 = .ok (.iadd, 1) := by decide +kernel
theorem d_L_law_690 : decode code 690 = .ok (.iaload, 1) := by decide +kernel
theorem d_L_law_691 : decode code 691 = .ok (.aload_n 0, 1) := by decide +kernel
theorem d_L_law_692 : decode code 692 = .ok (.iload_n 3, 1) := by decide +kernel
theorem d_L_law_693 : decode code 693 = .ok (.iconst 2, 1) := by decide +kernel
theorem d_L_law_694 : decode code 694 = .ok (.iadd, 1) := by decide +kernel
theorem d_L_law_695 : decode code 695 = .ok (.iaload, 1) := by decide +kernel
theorem d_L_law_696 : decode code 696 = .ok (.invokevirtual 77, 3) := by decide +kernel
theorem d_L_law_699 : decode code 699 = .ok (.aload_n 2, 1) := by decide +kernel
theorem d_L_law_700 : decode code 700 = .ok (.aload_n 0, 1) := by decide +kernel
theorem d_L_law_701 : decode code 701 = .ok (.iload_n 3, 1) := by decide +kernel
theorem d_L_law_702 : decode code 702 = .ok (.iconst 1, 1) := by decide +kernel
theorem d_L_law_703 : decode code 703 = .ok (.iadd, 1) := by decide +kernel
theorem d_L_law_704 : decode code 704 = .ok (.iaload, 1) := by decide +kernel
theorem d_L_law_705 : decode code 705 = .ok (.aload_n 0, 1) := by decide +kernel
theorem d_L_law_706 : decode code 706 = .ok (.iload_n 3, 1) := by decide +kernel
theorem d_L_law_707 : decode code 707 = .ok (.iconst 2, 1) := by decide +kernel
theorem d_L_law_708 : decode code 708 = .ok (.iadd, 1) := by decide +kernel
theorem d_L_law_709 : decode code 709 = .ok (.iaload, 1) := by decide +kernel
theorem d_L_law_710 : decode code 710 = .ok (.invokevirtual 80, 3) := by decide +kernel
theorem d_L_law_713 : decode code 713 = .ok (.if_icmp .eq 817, 3) := by decide +kernel
theorem d_L_law_716 : decode code 716 = .ok (.iconst 0, 1) := by decide +kernel
theorem d_L_law_718 : decode code 718 = .ok (.aload_n 1, 1) := by decide +kernel
theorem d_L_law_719 : decode code 719 = .ok (.aload_n 0, 1) := by decide +kernel
theorem d_L_law_720 : decode code 720 = .ok (.iload_n 3, 1) := by decide +kernel
theorem d_L_law_721 : decode code 721 = .ok (.iconst 1, 1) := by decide +kernel
theorem d_L_law_722 : decode code 722 = .ok (.iadd, 1) := by decide +kernel
theorem d_L_law_723 : decode code 723 = .ok (.iaload, 1) := by decide +kernel
theorem d_L_law_724 : decode code 724 = .ok (.aload_n 0, 1) := by decide +kernel
theorem d_L_law_725 : decode code 725 = .ok (.iload_n 3, 1) := by decide +kernel
theorem d_L_law_726 : decode code 726 = .ok (.iconst 2, 1) := by decide +kernel
theorem d_L_law_727 : decode code 727 = .ok (.iadd, 1) := by decide +kernel
theorem d_L_law_728 : decode code 728 = .ok (.iaload, 1) := by decide +kernel
theorem d_L_law_729 : decode code 729 = .ok (.invokevirtual 81, 3) := by decide +kernel
theorem d_L_law_732 : decode code 732 = .ok (.aload_n 2, 1) := by decide +kernel
theorem d_L_law_733 : decode code 733 = .ok (.aload_n 0, 1) := by decide +kernel
theorem d_L_law_734 : decode code 734 = .ok (.iload_n 3, 1) := by decide +kernel
theorem d_L_law_735 : decode code 735 = .ok (.iconst 1, 1) := by decide +kernel
theorem d_L_law_736 : decode code 736 = .ok (.iadd, 1) := by decide +kernel
theorem d_L_law_737 : decode code 737 = .ok (.iaload, 1) := by decide +kernel
theorem d_L_law_738 : decode code 738 = .ok (.aload_n 0, 1) := by decide +kernel
theorem d_L_law_739 : decode code 739 = .ok (.iload_n 3, 1) := by decide +kernel
theorem d_L_law_740 : decode code 740 = .ok (.iconst 2, 1) := by decide +kernel
theorem d_L_law_741 : decode code 741 = .ok (.iadd, 1) := by decide +kernel
theorem d_L_law_742 : decode code 742 = .ok (.iaload, 1) := by decide +kernel
theorem d_L_law_743 : decode code 743 = .ok (.invokevirtual 84, 3) := by decide +kernel
theorem d_L_law_746 : decode code 746 = .ok (.if_icmp .eq 784, 3) := by decide +kernel
theorem d_L_law_749 : decode code 749 = .ok (.iconst 0, 1) := by decide +kernel
theorem d_L_law_751 : decode code 751 = .ok (.aload_n 1, 1) := by decide +kernel
theorem d_L_law_752 : decode code 752 = .ok (.aload_n 0, 1) := by decide +kernel
theorem d_L_law_753 : decode code 753 = .ok (.iload_n 3, 1) := by decide +kernel
theorem d_L_law_754 : decode code 754 = .ok (.iconst 1, 1) := by decide +kernel
theorem d_L_law_755 : decode code 755 = .ok (.iadd, 1) := by decide +kernel
theorem d_L_law_756 : decode code 756 = .ok (.iaload, 1) := by decide +kernel
theorem d_L_law_757 : decode code 757 = .ok (.aload_n 0, 1) := by decide +kernel
theorem d_L_law_758 : decode code 758 = .ok (.iload_n 3, 1) := by decide +kernel
theorem d_L_law_759 : decode code 759 = .ok (.iconst 2, 1) := by decide +kernel
theorem d_L_law_760 : decode code 760 = .ok (.iadd, 1) := by decide +kernel
theorem d_L_law_761 : decode code 761 = .ok (.iaload, 1) := by decide +kernel
theorem d_L_law_762 : decode code 762 = .ok (.invokevirtual 85, 3) := by decide +kernel
theorem d_L_law_765 : decode code 765 = .ok (.aload_n 2, 1) := by decide +kernel
theorem d_L_law_766 : decode code 766 = .ok (.aload_n 0, 1) := by decide +kernel
theorem d_L_law_767 : decode code 767 = .ok (.iload_n 3, 1) := by decide +kernel
theorem d_L_law_768 : decode code 768 = .ok (.iconst 1, 1) := by decide +kernel
theorem d_L_law_769 : decode code 769 = .ok (.iadd, 1) := by decide +kernel
theorem d_L_law_770 : decode code 770 = .ok (.iaload, 1) := by decide +kernel
theorem d_L_law_771 : decode code 771 = .ok (.aload_n 0, 1) := by decide +kernel
theorem d_L_law_772 : decode code 772 = .ok (.iload_n 3, 1) := by decide +kernel
theorem d_L_law_773 : decode code 773 = .ok (.iconst 2, 1) := by decide +kernel
theorem d_L_law_774 : decode code 774 = .ok (.iadd, 1) := by decide +kernel
theorem d_L_law_775 : decode code 775 = .ok (.iaload, 1) := by decide +kernel
theorem d_L_law_776 : decode code 776 = .ok (.invokevirtual 88, 3) := by decide +kernel
theorem d_L_law_779 : decode code 779 = .ok (.if_icmp .eq 751, 3) := by decide +kernel
theorem d_L_law_782 : decode code 782 = .ok (.iconst 0, 1) := by decide +kernel
theorem d_L_law_784 : decode code 784 = .ok (.aload_n 1, 1) := by decide +kernel
theorem d_L_law_785 : decode code 785 = .ok (.aload_n 0, 1) := by decide +kernel
theorem d_L_law_786 : decode code 786 = .ok (.iload_n 3, 1) := by decide +kernel
theorem d_L_law_787 : decode code 787 = .ok (.iconst 1, 1) := by decide +kernel
theorem d_L_law_788 : decode code 788 = .ok (.iadd, 1) := by decide +kernel
theorem d_L_law_789 : decode code 789 = .ok (.iaload, 1) := by decide +kernel
theorem d_L_law_790 : decode code 790 = .ok (.aload_n 0, 1) := by decide +kernel
theorem d_L_law_791 : decode code 791 = .ok (.iload_n 3, 1) := by decide +kernel
theorem d_L_law_792 : decode code 792 = .ok (.iconst 2, 1) := by decide +kernel
theorem d_L_law_793 : decode code 793 = .ok (.iadd, 1) := by decide +kernel
theorem d_L_law_794 : decode code 794 = .ok (.iaload, 1) := by decide +kernel
theorem d_L_law_795 : decode code 795 = .ok (.invokevirtual 89, 3) := by decide +kernel
theorem d_L_law_798 : decode code 798 = .ok (.aload_n 2, 1) := by decide +kernel
theorem d_L_law_799 : decode code 799 = .ok (.aload_n 0, 1) := by decide +kernel
theorem d_L_law_800 : decode code 800 = .ok (.iload_n 3, 1) := by decide +kernel
theorem d_L_law_801 : decode code 801 = .ok (.iconst 1, 1) := by decide +kernel
theorem d_L_law_802 : decode code 802 = .ok (.iadd, 1) := by decide +kernel
theorem d_L_law_803 : decode code 803 = .ok (.iaload, 1) := by decide +kernel
theorem d_L_law_804 : decode code 804 = .ok (.aload_n 0, 1) := by decide +kernel
theorem d_L_law_805 : decode code 805 = .ok (.iload_n 3, 1) := by decide +kernel
theorem d_L_law_806 : decode code 806 = .ok (.iconst 2, 1) := by decide +kernel
theorem d_L_law_807 : decode code 807 = .ok (.iadd, 1) := by decide +kernel
theorem d_L_law_808 : decode code 808 = .ok (.iaload, 1) := by decide +kernel
theorem d_L_law_809 : decode code 809 = .ok (.invokevirtual 92, 3) := by decide +kernel
theorem d_L_law_812 : decode code 812 = .ok (.if_icmp .eq 718, 3) := by decide +kernel
theorem d_L_law_815 : decode code 815 = .ok (.iconst 0, 1) := by decide +kernel
theorem d_L_law_817 : decode code 817 = .ok (.aload_n 1, 1) := by decide +kernel
theorem d_L_law_818 : decode code 818 = .ok (.aload_n 0, 1) := by decide +kernel
theorem d_L_law_819 : decode code 819 = .ok (.iload_n 3, 1) := by decide +kernel
theorem d_L_law_820 : decode code 820 = .ok (.iconst 1, 1) := by decide +kernel
theorem d_L_law_821 : decode code 821 = .ok (.iadd, 1) := by decide +kernel
theorem d_L_law_822 : decode code 822 = .ok (.iaload, 1) := by decide +kernel
theorem d_L_law_823 : decode code 823 = .ok (.aload_n 0, 1) := by decide +kernel
theorem d_L_law_824 : decode code 824 = .ok (.iload_n 3, 1) := by decide +kernel
theorem d_L_law_825 : decode code 825 = .ok (.iconst 2, 1) := by decide +kernel
theorem d_L_law_826 : decode code 826 = .ok (.iadd, 1) := by decide +kernel
theorem d_L_law_827 : decode code 827 = .ok (.iaload, 1) := by decide +kernel
theorem d_L_law_828 : decode code 828 = .ok (.aload_n 0, 1) := by decide +kernel
theorem d_L_law_829 : decode code 829 = .ok (.iload_n 3, 1) := by decide +kernel
theorem d_L_law_830 : decode code 830 = .ok (.iconst 3, 1) := by decide +kernel
theorem d_L_law_831 : decode code 831 = .ok (.iadd, 1) := by decide +kernel
theorem d_L_law_832 : decode code 832 = .ok (.iaload, 1) := by decide +kernel
theorem d_L_law_833 : decode code 833 = .ok (.invokevirtual 93, 3) := by decide +kernel
theorem d_L_law_836 : decode code 836 = .ok (.aload_n 2, 1) := by decide +kernel
theorem d_L_law_837 : decode code 837 = .ok (.aload_n 0, 1) := by decide +kernel
theorem d_L_law_838 : decode code 838 = .ok (.iload_n 3, 1) := by decide +kernel
theorem d_L_law_839 : decode code 839 = .ok (.iconst 1, 1) := by decide +kernel
theorem d_L_law_840 : decode code 840 = .ok (.iadd, 1) := by decide +kernel
theorem d_L_law_841 : decode code 841 = .ok (.iaload, 1) := by decide +kernel
theorem d_L_law_842 : decode code 842 = .ok (.aload_n 0, 1) := by decide +kernel
theorem d_L_law_843 : decode code 843 = .ok (.iload_n 3, 1) := by decide +kernel
theorem d_L_law_844 : decode code 844 = .ok (.iconst 2, 1) := by decide +kernel
theorem d_L_law_845 : decode code 845 = .ok (.iadd, 1) := by decide +kernel
theorem d_L_law_846 : decode code 846 = .ok (.iaload, 1) := by decide +kernel
theorem d_L_law_847 : decode code 847 = .ok (.aload_n 0, 1) := by decide +kernel
theorem d_L_law_848 : decode code 848 = .ok (.iload_n 3, 1) := by decide +kernel
theorem d_L_law_849 : decode code 849 = .ok (.iconst 3, 1) := by decide +kernel
theorem d_L_law_850 : decode code 850 = .ok (.iadd, 1) := by decide +kernel
theorem d_L_law_851 : decode code 851 = .ok (.iaload, 1) := by decide +kernel
theorem d_L_law_852 : decode code 852 = .ok (.invokevirtual 96, 3) := by decide +kernel
theorem d_L_law_855 : decode code 855 = .ok (.if_icmp .eq 675, 3) := by decide +kernel
