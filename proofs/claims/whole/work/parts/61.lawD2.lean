/-! DECODE ROWS of the law, by program. -/
theorem dd_L_law_592 : decode L_law.2.1 592 = .ok (.aload_n 0, 1) := by decide +kernel
theorem dd_L_law_593 : decode L_law.2.1 593 = .ok (.iload_n 3, 1) := by decide +kernel
theorem dd_L_law_594 : decode L_law.2.1 594 = .ok (.iconst 2, 1) := by decide +kernel
theorem dd_L_law_595 : decode L_law.2.1 595 = .ok (.iadd, 1) := by decide +kernel
theorem dd_L_law_596 : decode L_law.2.1 596 = .ok (.iaload, 1) := by decide +kernel
theorem dd_L_law_597 : decode L_law.2.1 597 = .ok (.invokevirtual 84, 3) := by decide +kernel
theorem dd_L_law_600 : decode L_law.2.1 600 = .ok (.if_icmp .eq 391, 3) := by decide +kernel
theorem dd_L_law_605 : decode L_law.2.1 605 = .ok (.aload_n 1, 1) := by decide +kernel
theorem dd_L_law_606 : decode L_law.2.1 606 = .ok (.aload_n 0, 1) := by decide +kernel
theorem dd_L_law_607 : decode L_law.2.1 607 = .ok (.iload_n 3, 1) := by decide +kernel
theorem dd_L_law_608 : decode L_law.2.1 608 = .ok (.iconst 1, 1) := by decide +kernel
theorem dd_L_law_609 : decode L_law.2.1 609 = .ok (.iadd, 1) := by decide +kernel
theorem dd_L_law_610 : decode L_law.2.1 610 = .ok (.iaload, 1) := by decide +kernel
theorem dd_L_law_611 : decode L_law.2.1 611 = .ok (.aload_n 0, 1) := by decide +kernel
theorem dd_L_law_612 : decode L_law.2.1 612 = .ok (.iload_n 3, 1) := by decide +kernel
theorem dd_L_law_613 : decode L_law.2.1 613 = .ok (.iconst 2, 1) := by decide +kernel
theorem dd_L_law_614 : decode L_law.2.1 614 = .ok (.iadd, 1) := by decide +kernel
theorem dd_L_law_615 : decode L_law.2.1 615 = .ok (.iaload, 1) := by decide +kernel
theorem dd_L_law_616 : decode L_law.2.1 616 = .ok (.invokevirtual 85, 3) := by decide +kernel
theorem dd_L_law_619 : decode L_law.2.1 619 = .ok (.aload_n 2, 1) := by decide +kernel
theorem dd_L_law_620 : decode L_law.2.1 620 = .ok (.aload_n 0, 1) := by decide +kernel
theorem dd_L_law_621 : decode L_law.2.1 621 = .ok (.iload_n 3, 1) := by decide +kernel
theorem dd_L_law_622 : decode L_law.2.1 622 = .ok (.iconst 1, 1) := by decide +kernel
theorem dd_L_law_623 : decode L_law.2.1 623 = .ok (.iadd, 1) := by decide +kernel
theorem dd_L_law_624 : decode L_law.2.1 624 = .ok (.iaload, 1) := by decide +kernel
theorem dd_L_law_625 : decode L_law.2.1 625 = .ok (.aload_n 0, 1) := by decide +kernel
theorem dd_L_law_626 : decode L_law.2.1 626 = .ok (.iload_n 3, 1) := by decide +kernel
theorem dd_L_law_627 : decode L_law.2.1 627 = .ok (.iconst 2, 1) := by decide +kernel
theorem dd_L_law_628 : decode L_law.2.1 628 = .ok (.iadd, 1) := by decide +kernel
theorem dd_L_law_629 : decode L_law.2.1 629 = .ok (.iaload, 1) := by decide +kernel
theorem dd_L_law_630 : decode L_law.2.1 630 = .ok (.invokevirtual 88, 3) := by decide +kernel
theorem dd_L_law_633 : decode L_law.2.1 633 = .ok (.if_icmp .eq 358, 3) := by decide +kernel
theorem dd_L_law_638 : decode L_law.2.1 638 = .ok (.aload_n 1, 1) := by decide +kernel
theorem dd_L_law_639 : decode L_law.2.1 639 = .ok (.aload_n 0, 1) := by decide +kernel
theorem dd_L_law_640 : decode L_law.2.1 640 = .ok (.iload_n 3, 1) := by decide +kernel
theorem dd_L_law_641 : decode L_law.2.1 641 = .ok (.iconst 1, 1) := by decide +kernel
theorem dd_L_law_642 : decode L_law.2.1 642 = .ok (.iadd, 1) := by decide +kernel
theorem dd_L_law_643 : decode L_law.2.1 643 = .ok (.iaload, 1) := by decide +kernel
theorem dd_L_law_644 : decode L_law.2.1 644 = .ok (.invokevirtual 89, 3) := by decide +kernel
theorem dd_L_law_647 : decode L_law.2.1 647 = .ok (.aload_n 2, 1) := by decide +kernel
theorem dd_L_law_648 : decode L_law.2.1 648 = .ok (.aload_n 0, 1) := by decide +kernel
theorem dd_L_law_649 : decode L_law.2.1 649 = .ok (.iload_n 3, 1) := by decide +kernel
theorem dd_L_law_650 : decode L_law.2.1 650 = .ok (.iconst 1, 1) := by decide +kernel
theorem dd_L_law_651 : decode L_law.2.1 651 = .ok (.iadd, 1) := by decide +kernel
theorem dd_L_law_652 : decode L_law.2.1 652 = .ok (.iaload, 1) := by decide +kernel
theorem dd_L_law_653 : decode L_law.2.1 653 = .ok (.invokevirtual 92, 3) := by decide +kernel
theorem dd_L_law_656 : decode L_law.2.1 656 = .ok (.if_icmp .eq 335, 3) := by decide +kernel
theorem dd_L_law_661 : decode L_law.2.1 661 = .ok (.aload_n 1, 1) := by decide +kernel
theorem dd_L_law_662 : decode L_law.2.1 662 = .ok (.aload_n 0, 1) := by decide +kernel
theorem dd_L_law_663 : decode L_law.2.1 663 = .ok (.iload_n 3, 1) := by decide +kernel
theorem dd_L_law_664 : decode L_law.2.1 664 = .ok (.iconst 1, 1) := by decide +kernel
theorem dd_L_law_665 : decode L_law.2.1 665 = .ok (.iadd, 1) := by decide +kernel
theorem dd_L_law_666 : decode L_law.2.1 666 = .ok (.iaload, 1) := by decide +kernel
theorem dd_L_law_667 : decode L_law.2.1 667 = .ok (.aload_n 0, 1) := by decide +kernel
theorem dd_L_law_668 : decode L_law.2.1 668 = .ok (.iload_n 3, 1) := by decide +kernel
theorem dd_L_law_669 : decode L_law.2.1 669 = .ok (.iconst 2, 1) := by decide +kernel
theorem dd_L_law_670 : decode L_law.2.1 670 = .ok (.iadd, 1) := by decide +kernel
theorem dd_L_law_671 : decode L_law.2.1 671 = .ok (.iaload, 1) := by decide +kernel
theorem dd_L_law_672 : decode L_law.2.1 672 = .ok (.invokevirtual 93, 3) := by decide +kernel
theorem dd_L_law_675 : decode L_law.2.1 675 = .ok (.aload_n 2, 1) := by decide +kernel
theorem dd_L_law_676 : decode L_law.2.1 676 = .ok (.aload_n 0, 1) := by decide +kernel
theorem dd_L_law_677 : decode L_law.2.1 677 = .ok (.iload_n 3, 1) := by decide +kernel
theorem dd_L_law_678 : decode L_law.2.1 678 = .ok (.iconst 1, 1) := by decide +kernel
theorem dd_L_law_679 : decode L_law.2.1 679 = .ok (.iadd, 1) := by decide +kernel
theorem dd_L_law_680 : decode L_law.2.1 680 = .ok (.iaload, 1) := by decide +kernel
theorem dd_L_law_681 : decode L_law.2.1 681 = .ok (.aload_n 0, 1) := by decide +kernel
theorem dd_L_law_682 : decode L_law.2.1 682 = .ok (.iload_n 3, 1) := by decide +kernel
theorem dd_L_law_683 : decode L_law.2.1 683 = .ok (.iconst 2, 1) := by decide +kernel
theorem dd_L_law_684 : decode L_law.2.1 684 = .ok (.iadd, 1) := by decide +kernel
theorem dd_L_law_685 : decode L_law.2.1 685 = .ok (.iaload, 1) := by decide +kernel
theorem dd_L_law_686 : decode L_law.2.1 686 = .ok (.invokevirtual 96, 3) := by decide +kernel
theorem dd_L_law_689 : decode L_law.2.1 689 = .ok (.if_icmp .eq 302, 3) := by decide +kernel
theorem dd_L_law_694 : decode L_law.2.1 694 = .ok (.aload_n 1, 1) := by decide +kernel
theorem dd_L_law_695 : decode L_law.2.1 695 = .ok (.aload_n 0, 1) := by decide +kernel
theorem dd_L_law_696 : decode L_law.2.1 696 = .ok (.iload_n 3, 1) := by decide +kernel
theorem dd_L_law_697 : decode L_law.2.1 697 = .ok (.iconst 1, 1) := by decide +kernel
theorem dd_L_law_698 : decode L_law.2.1 698 = .ok (.iadd, 1) := by decide +kernel
theorem dd_L_law_699 : decode L_law.2.1 699 = .ok (.iaload, 1) := by decide +kernel
theorem dd_L_law_700 : decode L_law.2.1 700 = .ok (.invokevirtual 97, 3) := by decide +kernel
theorem dd_L_law_703 : decode L_law.2.1 703 = .ok (.aload_n 2, 1) := by decide +kernel
theorem dd_L_law_704 : decode L_law.2.1 704 = .ok (.aload_n 0, 1) := by decide +kernel
theorem dd_L_law_705 : decode L_law.2.1 705 = .ok (.iload_n 3, 1) := by decide +kernel
theorem dd_L_law_706 : decode L_law.2.1 706 = .ok (.iconst 1, 1) := by decide +kernel
theorem dd_L_law_707 : decode L_law.2.1 707 = .ok (.iadd, 1) := by decide +kernel
theorem dd_L_law_708 : decode L_law.2.1 708 = .ok (.iaload, 1) := by decide +kernel
theorem dd_L_law_709 : decode L_law.2.1 709 = .ok (.invokevirtual 100, 3) := by decide +kernel
theorem dd_L_law_712 : decode L_law.2.1 712 = .ok (.if_icmp .eq 279, 3) := by decide +kernel
theorem dd_L_law_717 : decode L_law.2.1 717 = .ok (.aload_n 1, 1) := by decide +kernel
theorem dd_L_law_718 : decode L_law.2.1 718 = .ok (.aload_n 0, 1) := by decide +kernel
theorem dd_L_law_719 : decode L_law.2.1 719 = .ok (.iload_n 3, 1) := by decide +kernel
theorem dd_L_law_720 : decode L_law.2.1 720 = .ok (.iconst 1, 1) := by decide +kernel
theorem dd_L_law_721 : decode L_law.2.1 721 = .ok (.iadd, 1) := by decide +kernel
theorem dd_L_law_722 : decode L_law.2.1 722 = .ok (.iaload, 1) := by decide +kernel
theorem dd_L_law_723 : decode L_law.2.1 723 = .ok (.aload_n 0, 1) := by decide +kernel
theorem dd_L_law_724 : decode L_law.2.1 724 = .ok (.iload_n 3, 1) := by decide +kernel
theorem dd_L_law_725 : decode L_law.2.1 725 = .ok (.iconst 2, 1) := by decide +kernel
theorem dd_L_law_726 : decode L_law.2.1 726 = .ok (.iadd, 1) := by decide +kernel
theorem dd_L_law_727 : decode L_law.2.1 727 = .ok (.iaload, 1) := by decide +kernel
theorem dd_L_law_728 : decode L_law.2.1 728 = .ok (.aload_n 0, 1) := by decide +kernel
theorem dd_L_law_729 : decode L_law.2.1 729 = .ok (.iload_n 3, 1) := by decide +kernel
theorem dd_L_law_730 : decode L_law.2.1 730 = .ok (.iconst 3, 1) := by decide +kernel
theorem dd_L_law_731 : decode L_law.2.1 731 = .ok (.iadd, 1) := by decide +kernel
theorem dd_L_law_732 : decode L_law.2.1 732 = .ok (.iaload, 1) := by decide +kernel
theorem dd_L_law_733 : decode L_law.2.1 733 = .ok (.invokevirtual 101, 3) := by decide +kernel
theorem dd_L_law_736 : decode L_law.2.1 736 = .ok (.aload_n 2, 1) := by decide +kernel
theorem dd_L_law_737 : decode L_law.2.1 737 = .ok (.aload_n 0, 1) := by decide +kernel
theorem dd_L_law_738 : decode L_law.2.1 738 = .ok (.iload_n 3, 1) := by decide +kernel
theorem dd_L_law_739 : decode L_law.2.1 739 = .ok (.iconst 1, 1) := by decide +kernel
theorem dd_L_law_740 : decode L_law.2.1 740 = .ok (.iadd, 1) := by decide +kernel
theorem dd_L_law_741 : decode L_law.2.1 741 = .ok (.iaload, 1) := by decide +kernel
theorem dd_L_law_742 : decode L_law.2.1 742 = .ok (.aload_n 0, 1) := by decide +kernel
theorem dd_L_law_743 : decode L_law.2.1 743 = .ok (.iload_n 3, 1) := by decide +kernel
theorem dd_L_law_744 : decode L_law.2.1 744 = .ok (.iconst 2, 1) := by decide +kernel
theorem dd_L_law_745 : decode L_law.2.1 745 = .ok (.iadd, 1) := by decide +kernel
theorem dd_L_law_746 : decode L_law.2.1 746 = .ok (.iaload, 1) := by decide +kernel
theorem dd_L_law_747 : decode L_law.2.1 747 = .ok (.aload_n 0, 1) := by decide +kernel
theorem dd_L_law_748 : decode L_law.2.1 748 = .ok (.iload_n 3, 1) := by decide +kernel
theorem dd_L_law_749 : decode L_law.2.1 749 = .ok (.iconst 3, 1) := by decide +kernel
theorem dd_L_law_750 : decode L_law.2.1 750 = .ok (.iadd, 1) := by decide +kernel
theorem dd_L_law_751 : decode L_law.2.1 751 = .ok (.iaload, 1) := by decide +kernel
theorem dd_L_law_752 : decode L_law.2.1 752 = .ok (.invokevirtual 104, 3) := by decide +kernel
theorem dd_L_law_755 : decode L_law.2.1 755 = .ok (.if_icmp .eq 236, 3) := by decide +kernel
theorem dd_L_law_760 : decode L_law.2.1 760 = .ok (.aload_n 1, 1) := by decide +kernel
theorem dd_L_law_761 : decode L_law.2.1 761 = .ok (.aload_n 0, 1) := by decide +kernel
theorem dd_L_law_762 : decode L_law.2.1 762 = .ok (.iload_n 3, 1) := by decide +kernel
theorem dd_L_law_763 : decode L_law.2.1 763 = .ok (.iconst 1, 1) := by decide +kernel
theorem dd_L_law_764 : decode L_law.2.1 764 = .ok (.iadd, 1) := by decide +kernel
theorem dd_L_law_765 : decode L_law.2.1 765 = .ok (.iaload, 1) := by decide +kernel
theorem dd_L_law_766 : decode L_law.2.1 766 = .ok (.aload_n 0, 1) := by decide +kernel
theorem dd_L_law_767 : decode L_law.2.1 767 = .ok (.iload_n 3, 1) := by decide +kernel
theorem dd_L_law_768 : decode L_law.2.1 768 = .ok (.iconst 2, 1) := by decide +kernel
theorem dd_L_law_769 : decode L_law.2.1 769 = .ok (.iadd, 1) := by decide +kernel
theorem dd_L_law_770 : decode L_law.2.1 770 = .ok (.iaload, 1) := by decide +kernel
theorem dd_L_law_771 : decode L_law.2.1 771 = .ok (.invokevirtual 105, 3) := by decide +kernel
theorem dd_L_law_774 : decode L_law.2.1 774 = .ok (.aload_n 2, 1) := by decide +kernel
theorem dd_L_law_775 : decode L_law.2.1 775 = .ok (.aload_n 0, 1) := by decide +kernel
theorem dd_L_law_776 : decode L_law.2.1 776 = .ok (.iload_n 3, 1) := by decide +kernel
theorem dd_L_law_777 : decode L_law.2.1 777 = .ok (.iconst 1, 1) := by decide +kernel
theorem dd_L_law_778 : decode L_law.2.1 778 = .ok (.iadd, 1) := by decide +kernel
theorem dd_L_law_779 : decode L_law.2.1 779 = .ok (.iaload, 1) := by decide +kernel
theorem dd_L_law_780 : decode L_law.2.1 780 = .ok (.aload_n 0, 1) := by decide +kernel
theorem dd_L_law_781 : decode L_law.2.1 781 = .ok (.iload_n 3, 1) := by decide +kernel
theorem dd_L_law_782 : decode L_law.2.1 782 = .ok (.iconst 2, 1) := by decide +kernel
theorem dd_L_law_783 : decode L_law.2.1 783 = .ok (.iadd, 1) := by decide +kernel
theorem dd_L_law_784 : decode L_law.2.1 784 = .ok (.iaload, 1) := by decide +kernel
theorem dd_L_law_785 : decode L_law.2.1 785 = .ok (.invokevirtual 108, 3) := by decide +kernel
theorem dd_L_law_788 : decode L_law.2.1 788 = .ok (.if_icmp .eq 203, 3) := by decide +kernel
theorem dd_L_law_793 : decode L_law.2.1 793 = .ok (.aload_n 1, 1) := by decide +kernel
theorem dd_L_law_794 : decode L_law.2.1 794 = .ok (.aload_n 0, 1) := by decide +kernel
theorem dd_L_law_795 : decode L_law.2.1 795 = .ok (.iload_n 3, 1) := by decide +kernel
theorem dd_L_law_796 : decode L_law.2.1 796 = .ok (.iconst 1, 1) := by decide +kernel
theorem dd_L_law_797 : decode L_law.2.1 797 = .ok (.iadd, 1) := by decide +kernel
theorem dd_L_law_798 : decode L_law.2.1 798 = .ok (.iaload, 1) := by decide +kernel
theorem dd_L_law_799 : decode L_law.2.1 799 = .ok (.aload_n 0, 1) := by decide +kernel
theorem dd_L_law_800 : decode L_law.2.1 800 = .ok (.iload_n 3, 1) := by decide +kernel
theorem dd_L_law_801 : decode L_law.2.1 801 = .ok (.iconst 2, 1) := by decide +kernel
theorem dd_L_law_802 : decode L_law.2.1 802 = .ok (.iadd, 1) := by decide +kernel
theorem dd_L_law_803 : decode L_law.2.1 803 = .ok (.iaload, 1) := by decide +kernel
theorem dd_L_law_804 : decode L_law.2.1 804 = .ok (.invokevirtual 109, 3) := by decide +kernel
theorem dd_L_law_807 : decode L_law.2.1 807 = .ok (.aload_n 2, 1) := by decide +kernel
