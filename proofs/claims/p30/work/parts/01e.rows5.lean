theorem dL_law_543 : decode cL_law 543 = .ok (.goto 4, 3) := by decide +kernel
theorem dL_law_546 : decode cL_law 546 = .ok (.iconst 0, 1) := by decide +kernel
theorem dL_law_547 : decode cL_law 547 = .ok (.if_icmp .eq 5, 3) := by decide +kernel
theorem dL_law_550 : decode cL_law 550 = .ok (.iconst 0, 1) := by decide +kernel
theorem dL_law_551 : decode cL_law 551 = .ok (.ireturn, 1) := by decide +kernel
theorem dL_law_552 : decode cL_law 552 = .ok (.iload 13, 2) := by decide +kernel
theorem dL_law_554 : decode cL_law 554 = .ok (.ifCond .eq 26, 3) := by decide +kernel
theorem dL_law_557 : decode cL_law 557 = .ok (.aload 4, 2) := by decide +kernel
theorem dL_law_559 : decode cL_law 559 = .ok (.iconst 2, 1) := by decide +kernel
theorem dL_law_560 : decode cL_law 560 = .ok (.newarray .int, 2) := by decide +kernel
theorem dL_law_562 : decode cL_law 562 = .ok (.dup, 1) := by decide +kernel
theorem dL_law_563 : decode cL_law 563 = .ok (.iconst 0, 1) := by decide +kernel
theorem dL_law_564 : decode cL_law 564 = .ok (.iload 10, 2) := by decide +kernel
theorem dL_law_566 : decode cL_law 566 = .ok (.iconst 4, 1) := by decide +kernel
theorem dL_law_567 : decode cL_law 567 = .ok (.irem, 1) := by decide +kernel
theorem dL_law_568 : decode cL_law 568 = .ok (.iastore, 1) := by decide +kernel
theorem dL_law_569 : decode cL_law 569 = .ok (.dup, 1) := by decide +kernel
theorem dL_law_570 : decode cL_law 570 = .ok (.iconst 1, 1) := by decide +kernel
theorem dL_law_571 : decode cL_law 571 = .ok (.iload 12, 2) := by decide +kernel
theorem dL_law_573 : decode cL_law 573 = .ok (.iastore, 1) := by decide +kernel
theorem dL_law_574 : decode cL_law 574 = .ok (.invokeinterface 94 2, 5) := by decide +kernel
theorem dL_law_579 : decode cL_law 579 = .ok (.pop, 1) := by decide +kernel
theorem dL_law_580 : decode cL_law 580 = .ok (.iload 8, 2) := by decide +kernel
theorem dL_law_582 : decode cL_law 582 = .ok (.iconst 4, 1) := by decide +kernel
theorem dL_law_583 : decode cL_law 583 = .ok (.irem, 1) := by decide +kernel
theorem dL_law_584 : decode cL_law 584 = .ok (.iconst 3, 1) := by decide +kernel
theorem dL_law_585 : decode cL_law 585 = .ok (.if_icmp .ge 6, 3) := by decide +kernel
theorem dL_law_588 : decode cL_law 588 = .ok (.goto 342, 3) := by decide +kernel
theorem dL_law_591 : decode cL_law 591 = .ok (.iconst 0, 1) := by decide +kernel
theorem dL_law_592 : decode cL_law 592 = .ok (.istore 12, 2) := by decide +kernel
theorem dL_law_594 : decode cL_law 594 = .ok (.iload 12, 2) := by decide +kernel
theorem dL_law_596 : decode cL_law 596 = .ok (.iconst 4, 1) := by decide +kernel
theorem dL_law_597 : decode cL_law 597 = .ok (.if_icmp .ge 112, 3) := by decide +kernel
theorem dL_law_600 : decode cL_law 600 = .ok (.new 65, 3) := by decide +kernel
theorem dL_law_603 : decode cL_law 603 = .ok (.dup, 1) := by decide +kernel
theorem dL_law_604 : decode cL_law 604 = .ok (.invokespecial 67, 3) := by decide +kernel
theorem dL_law_607 : decode cL_law 607 = .ok (.astore 13, 2) := by decide +kernel
theorem dL_law_609 : decode cL_law 609 = .ok (.aload 4, 2) := by decide +kernel
theorem dL_law_611 : decode cL_law 611 = .ok (.invokeinterface 98 1, 5) := by decide +kernel
theorem dL_law_616 : decode cL_law 616 = .ok (.astore 14, 2) := by decide +kernel
theorem dL_law_618 : decode cL_law 618 = .ok (.aload 14, 2) := by decide +kernel
theorem dL_law_620 : decode cL_law 620 = .ok (.invokeinterface 102 1, 5) := by decide +kernel
theorem dL_law_625 : decode cL_law 625 = .ok (.ifCond .eq 48, 3) := by decide +kernel
theorem dL_law_628 : decode cL_law 628 = .ok (.aload 14, 2) := by decide +kernel
theorem dL_law_630 : decode cL_law 630 = .ok (.invokeinterface 108 1, 5) := by decide +kernel
theorem dL_law_635 : decode cL_law 635 = .ok (.checkcast 68, 3) := by decide +kernel
theorem dL_law_638 : decode cL_law 638 = .ok (.astore 15, 2) := by decide +kernel
theorem dL_law_640 : decode cL_law 640 = .ok (.aload_n 3, 1) := by decide +kernel
theorem dL_law_641 : decode cL_law 641 = .ok (.iload 12, 2) := by decide +kernel
theorem dL_law_643 : decode cL_law 643 = .ok (.iaload, 1) := by decide +kernel
theorem dL_law_644 : decode cL_law 644 = .ok (.aload 15, 2) := by decide +kernel
theorem dL_law_646 : decode cL_law 646 = .ok (.iconst 0, 1) := by decide +kernel
theorem dL_law_647 : decode cL_law 647 = .ok (.iaload, 1) := by decide +kernel
theorem dL_law_648 : decode cL_law 648 = .ok (.ishr, 1) := by decide +kernel
theorem dL_law_649 : decode cL_law 649 = .ok (.iconst 1, 1) := by decide +kernel
theorem dL_law_650 : decode cL_law 650 = .ok (.iand, 1) := by decide +kernel
theorem dL_law_651 : decode cL_law 651 = .ok (.iconst 1, 1) := by decide +kernel
theorem dL_law_652 : decode cL_law 652 = .ok (.if_icmp .ne 18, 3) := by decide +kernel
theorem dL_law_655 : decode cL_law 655 = .ok (.aload 13, 2) := by decide +kernel
theorem dL_law_657 : decode cL_law 657 = .ok (.aload 15, 2) := by decide +kernel
theorem dL_law_659 : decode cL_law 659 = .ok (.iconst 1, 1) := by decide +kernel
theorem dL_law_660 : decode cL_law 660 = .ok (.iaload, 1) := by decide +kernel
theorem dL_law_661 : decode cL_law 661 = .ok (.invokestatic 112, 3) := by decide +kernel
theorem dL_law_664 : decode cL_law 664 = .ok (.invokeinterface 94 2, 5) := by decide +kernel
theorem dL_law_669 : decode cL_law 669 = .ok (.pop, 1) := by decide +kernel
theorem dL_law_670 : decode cL_law 670 = .ok (.goto (-52), 3) := by decide +kernel
theorem dL_law_673 : decode cL_law 673 = .ok (.iconst 0, 1) := by decide +kernel
theorem dL_law_674 : decode cL_law 674 = .ok (.istore 14, 2) := by decide +kernel
theorem dL_law_676 : decode cL_law 676 = .ok (.iload 14, 2) := by decide +kernel
theorem dL_law_678 : decode cL_law 678 = .ok (.bipush 6, 2) := by decide +kernel
theorem dL_law_680 : decode cL_law 680 = .ok (.if_icmp .ge 23, 3) := by decide +kernel
theorem dL_law_683 : decode cL_law 683 = .ok (.aload 13, 2) := by decide +kernel
theorem dL_law_685 : decode cL_law 685 = .ok (.iconst 1, 1) := by decide +kernel
theorem dL_law_686 : decode cL_law 686 = .ok (.iload 14, 2) := by decide +kernel
theorem dL_law_688 : decode cL_law 688 = .ok (.ishl, 1) := by decide +kernel
theorem dL_law_689 : decode cL_law 689 = .ok (.invokestatic 116, 3) := by decide +kernel
theorem dL_law_692 : decode cL_law 692 = .ok (.ifCond .eq 5, 3) := by decide +kernel
theorem dL_law_695 : decode cL_law 695 = .ok (.iconst 0, 1) := by decide +kernel
theorem dL_law_696 : decode cL_law 696 = .ok (.ireturn, 1) := by decide +kernel
theorem dL_law_697 : decode cL_law 697 = .ok (.iinc 14 1, 3) := by decide +kernel
theorem dL_law_700 : decode cL_law 700 = .ok (.goto (-24), 3) := by decide +kernel
theorem dL_law_703 : decode cL_law 703 = .ok (.iinc 12 1, 3) := by decide +kernel
theorem dL_law_706 : decode cL_law 706 = .ok (.goto (-112), 3) := by decide +kernel
theorem dL_law_709 : decode cL_law 709 = .ok (.iconst 0, 1) := by decide +kernel
theorem dL_law_710 : decode cL_law 710 = .ok (.istore 12, 2) := by decide +kernel
theorem dL_law_712 : decode cL_law 712 = .ok (.iload 12, 2) := by decide +kernel
theorem dL_law_714 : decode cL_law 714 = .ok (.iload 7, 2) := by decide +kernel
theorem dL_law_716 : decode cL_law 716 = .ok (.if_icmp .ge 109, 3) := by decide +kernel
theorem dL_law_719 : decode cL_law 719 = .ok (.aload_n 1, 1) := by decide +kernel
theorem dL_law_720 : decode cL_law 720 = .ok (.bipush 10, 2) := by decide +kernel
theorem dL_law_722 : decode cL_law 722 = .ok (.iload 12, 2) := by decide +kernel
theorem dL_law_724 : decode cL_law 724 = .ok (.iadd, 1) := by decide +kernel
theorem dL_law_725 : decode cL_law 725 = .ok (.iconst 1, 1) := by decide +kernel
theorem dL_law_726 : decode cL_law 726 = .ok (.invokevirtual 120, 3) := by decide +kernel
theorem dL_law_729 : decode cL_law 729 = .ok (.iconst 1, 1) := by decide +kernel
theorem dL_law_730 : decode cL_law 730 = .ok (.if_icmp .ne 7, 3) := by decide +kernel
theorem dL_law_733 : decode cL_law 733 = .ok (.iconst 0, 1) := by decide +kernel
theorem dL_law_734 : decode cL_law 734 = .ok (.goto 13, 3) := by decide +kernel
theorem dL_law_737 : decode cL_law 737 = .ok (.aload_n 1, 1) := by decide +kernel
theorem dL_law_738 : decode cL_law 738 = .ok (.bipush 10, 2) := by decide +kernel
theorem dL_law_740 : decode cL_law 740 = .ok (.iload 12, 2) := by decide +kernel
theorem dL_law_742 : decode cL_law 742 = .ok (.iadd, 1) := by decide +kernel
theorem dL_law_743 : decode cL_law 743 = .ok (.iconst 0, 1) := by decide +kernel
theorem dL_law_744 : decode cL_law 744 = .ok (.invokevirtual 120, 3) := by decide +kernel
theorem dL_law_747 : decode cL_law 747 = .ok (.istore 13, 2) := by decide +kernel
theorem dL_law_749 : decode cL_law 749 = .ok (.iconst 0, 1) := by decide +kernel
theorem dL_law_750 : decode cL_law 750 = .ok (.istore 14, 2) := by decide +kernel
theorem dL_law_752 : decode cL_law 752 = .ok (.iload 14, 2) := by decide +kernel
theorem dL_law_754 : decode cL_law 754 = .ok (.bipush 6, 2) := by decide +kernel
theorem dL_law_756 : decode cL_law 756 = .ok (.if_icmp .ge 63, 3) := by decide +kernel
theorem dL_law_759 : decode cL_law 759 = .ok (.iload 14, 2) := by decide +kernel
theorem dL_law_761 : decode cL_law 761 = .ok (.iconst 1, 1) := by decide +kernel
theorem dL_law_762 : decode cL_law 762 = .ok (.iadd, 1) := by decide +kernel
theorem dL_law_763 : decode cL_law 763 = .ok (.istore 15, 2) := by decide +kernel
theorem dL_law_765 : decode cL_law 765 = .ok (.iload 15, 2) := by decide +kernel
theorem dL_law_767 : decode cL_law 767 = .ok (.bipush 6, 2) := by decide +kernel
theorem dL_law_769 : decode cL_law 769 = .ok (.if_icmp .ge 44, 3) := by decide +kernel
theorem dL_law_772 : decode cL_law 772 = .ok (.iload 13, 2) := by decide +kernel
theorem dL_law_774 : decode cL_law 774 = .ok (.iload 14, 2) := by decide +kernel
theorem dL_law_776 : decode cL_law 776 = .ok (.ishr, 1) := by decide +kernel
theorem dL_law_777 : decode cL_law 777 = .ok (.iload 13, 2) := by decide +kernel
theorem dL_law_779 : decode cL_law 779 = .ok (.iload 15, 2) := by decide +kernel
theorem dL_law_781 : decode cL_law 781 = .ok (.ishr, 1) := by decide +kernel
theorem dL_law_782 : decode cL_law 782 = .ok (.iand, 1) := by decide +kernel
theorem dL_law_783 : decode cL_law 783 = .ok (.iconst 1, 1) := by decide +kernel
theorem dL_law_784 : decode cL_law 784 = .ok (.iand, 1) := by decide +kernel
theorem dL_law_785 : decode cL_law 785 = .ok (.iconst 1, 1) := by decide +kernel
theorem dL_law_786 : decode cL_law 786 = .ok (.if_icmp .ne 21, 3) := by decide +kernel
theorem dL_law_789 : decode cL_law 789 = .ok (.aload_n 1, 1) := by decide +kernel
theorem dL_law_790 : decode cL_law 790 = .ok (.iload 14, 2) := by decide +kernel
theorem dL_law_792 : decode cL_law 792 = .ok (.iconst 1, 1) := by decide +kernel
theorem dL_law_793 : decode cL_law 793 = .ok (.invokevirtual 123, 3) := by decide +kernel
theorem dL_law_796 : decode cL_law 796 = .ok (.iload 15, 2) := by decide +kernel
theorem dL_law_798 : decode cL_law 798 = .ok (.ishr, 1) := by decide +kernel
theorem dL_law_799 : decode cL_law 799 = .ok (.iconst 1, 1) := by decide +kernel
theorem dL_law_800 : decode cL_law 800 = .ok (.iand, 1) := by decide +kernel
theorem dL_law_801 : decode cL_law 801 = .ok (.iconst 1, 1) := by decide +kernel
theorem dL_law_802 : decode cL_law 802 = .ok (.if_icmp .ne 5, 3) := by decide +kernel
theorem dL_law_805 : decode cL_law 805 = .ok (.iconst 0, 1) := by decide +kernel
theorem dL_law_806 : decode cL_law 806 = .ok (.ireturn, 1) := by decide +kernel
theorem dL_law_807 : decode cL_law 807 = .ok (.iinc 15 1, 3) := by decide +kernel
theorem dL_law_810 : decode cL_law 810 = .ok (.goto (-45), 3) := by decide +kernel
theorem dL_law_813 : decode cL_law 813 = .ok (.iinc 14 1, 3) := by decide +kernel
theorem dL_law_816 : decode cL_law 816 = .ok (.goto (-64), 3) := by decide +kernel
theorem dL_law_819 : decode cL_law 819 = .ok (.iinc 12 1, 3) := by decide +kernel
theorem dL_law_822 : decode cL_law 822 = .ok (.goto (-110), 3) := by decide +kernel
theorem dL_law_825 : decode cL_law 825 = .ok (.aload_n 1, 1) := by decide +kernel
theorem dL_law_826 : decode cL_law 826 = .ok (.bipush 6, 2) := by decide +kernel
theorem dL_law_828 : decode cL_law 828 = .ok (.invokevirtual 126, 3) := by decide +kernel
theorem dL_law_831 : decode cL_law 831 = .ok (.istore 12, 2) := by decide +kernel
theorem dL_law_833 : decode cL_law 833 = .ok (.bipush 6, 2) := by decide +kernel
theorem dL_law_835 : decode cL_law 835 = .ok (.newarray .int, 2) := by decide +kernel
theorem dL_law_837 : decode cL_law 837 = .ok (.astore 13, 2) := by decide +kernel
theorem dL_law_839 : decode cL_law 839 = .ok (.iconst 0, 1) := by decide +kernel
theorem dL_law_840 : decode cL_law 840 = .ok (.istore 14, 2) := by decide +kernel
theorem dL_law_842 : decode cL_law 842 = .ok (.iload 14, 2) := by decide +kernel
theorem dL_law_844 : decode cL_law 844 = .ok (.bipush 6, 2) := by decide +kernel
theorem dL_law_846 : decode cL_law 846 = .ok (.if_icmp .ge 21, 3) := by decide +kernel
theorem dL_law_849 : decode cL_law 849 = .ok (.aload 13, 2) := by decide +kernel
theorem dL_law_851 : decode cL_law 851 = .ok (.iload 14, 2) := by decide +kernel
theorem dL_law_853 : decode cL_law 853 = .ok (.aload_n 1, 1) := by decide +kernel
theorem dL_law_854 : decode cL_law 854 = .ok (.iload 14, 2) := by decide +kernel
theorem dL_law_856 : decode cL_law 856 = .ok (.iconst 1, 1) := by decide +kernel
theorem dL_law_857 : decode cL_law 857 = .ok (.invokevirtual 123, 3) := by decide +kernel
theorem dL_law_860 : decode cL_law 860 = .ok (.iastore, 1) := by decide +kernel
theorem dL_law_861 : decode cL_law 861 = .ok (.iinc 14 1, 3) := by decide +kernel
theorem dL_law_864 : decode cL_law 864 = .ok (.goto (-22), 3) := by decide +kernel
theorem dL_law_867 : decode cL_law 867 = .ok (.aload 13, 2) := by decide +kernel
theorem dL_law_869 : decode cL_law 869 = .ok (.aload 5, 2) := by decide +kernel
theorem dL_law_871 : decode cL_law 871 = .ok (.iload 6, 2) := by decide +kernel
theorem dL_law_873 : decode cL_law 873 = .ok (.iload 12, 2) := by decide +kernel
theorem dL_law_875 : decode cL_law 875 = .ok (.invokestatic 129, 3) := by decide +kernel
theorem dL_law_878 : decode cL_law 878 = .ok (.ifCond .ne 5, 3) := by decide +kernel
theorem dL_law_881 : decode cL_law 881 = .ok (.iconst 0, 1) := by decide +kernel
theorem dL_law_882 : decode cL_law 882 = .ok (.ireturn, 1) := by decide +kernel
theorem dL_law_883 : decode cL_law 883 = .ok (.iconst 0, 1) := by decide +kernel
theorem dL_law_884 : decode cL_law 884 = .ok (.istore 14, 2) := by decide +kernel
theorem dL_law_886 : decode cL_law 886 = .ok (.iload 14, 2) := by decide +kernel
theorem dL_law_888 : decode cL_law 888 = .ok (.iconst 1, 1) := by decide +kernel
theorem dL_law_889 : decode cL_law 889 = .ok (.iload 6, 2) := by decide +kernel
theorem dL_law_891 : decode cL_law 891 = .ok (.ishl, 1) := by decide +kernel
theorem dL_law_892 : decode cL_law 892 = .ok (.if_icmp .ge 38, 3) := by decide +kernel
theorem dL_law_895 : decode cL_law 895 = .ok (.iload 14, 2) := by decide +kernel
theorem dL_law_897 : decode cL_law 897 = .ok (.invokestatic 133, 3) := by decide +kernel
theorem dL_law_900 : decode cL_law 900 = .ok (.iload 12, 2) := by decide +kernel
theorem dL_law_902 : decode cL_law 902 = .ok (.invokestatic 133, 3) := by decide +kernel
theorem dL_law_905 : decode cL_law 905 = .ok (.if_icmp .ge 19, 3) := by decide +kernel
theorem dL_law_908 : decode cL_law 908 = .ok (.aload 13, 2) := by decide +kernel
theorem dL_law_910 : decode cL_law 910 = .ok (.aload 5, 2) := by decide +kernel
theorem dL_law_912 : decode cL_law 912 = .ok (.iload 6, 2) := by decide +kernel
theorem dL_law_914 : decode cL_law 914 = .ok (.iload 14, 2) := by decide +kernel
theorem dL_law_916 : decode cL_law 916 = .ok (.invokestatic 129, 3) := by decide +kernel
theorem dL_law_919 : decode cL_law 919 = .ok (.ifCond .eq 5, 3) := by decide +kernel
theorem dL_law_922 : decode cL_law 922 = .ok (.iconst 0, 1) := by decide +kernel
theorem dL_law_923 : decode cL_law 923 = .ok (.ireturn, 1) := by decide +kernel
theorem dL_law_924 : decode cL_law 924 = .ok (.iinc 14 1, 3) := by decide +kernel
theorem dL_law_927 : decode cL_law 927 = .ok (.goto (-41), 3) := by decide +kernel
theorem dL_law_930 : decode cL_law 930 = .ok (.iinc 8 1, 3) := by decide +kernel
theorem dL_law_933 : decode cL_law 933 = .ok (.goto (-803), 3) := by decide +kernel
theorem dL_law_936 : decode cL_law 936 = .ok (.aload_n 1, 1) := by decide +kernel
theorem dL_law_937 : decode cL_law 937 = .ok (.invokevirtual 136, 3) := by decide +kernel
theorem dL_law_940 : decode cL_law 940 = .ok (.ifCond .eq 14, 3) := by decide +kernel
theorem dL_law_943 : decode cL_law 943 = .ok (.aload_n 2, 1) := by decide +kernel
theorem dL_law_944 : decode cL_law 944 = .ok (.invokevirtual 136, 3) := by decide +kernel
theorem dL_law_947 : decode cL_law 947 = .ok (.ifCond .eq 7, 3) := by decide +kernel
theorem dL_law_950 : decode cL_law 950 = .ok (.iconst 1, 1) := by decide +kernel
theorem dL_law_951 : decode cL_law 951 = .ok (.goto 4, 3) := by decide +kernel
theorem dL_law_954 : decode cL_law 954 = .ok (.iconst 0, 1) := by decide +kernel
theorem dL_law_955 : decode cL_law 955 = .ok (.ireturn, 1) := by decide +kernel
theorem dL_isShut_0 : decode cL_isShut 0 = .ok (.bipush 6, 2) := by decide +kernel
theorem dL_isShut_2 : decode cL_isShut 2 = .ok (.newarray .int, 2) := by decide +kernel
theorem dL_isShut_4 : decode cL_isShut 4 = .ok (.dup, 1) := by decide +kernel
theorem dL_isShut_5 : decode cL_isShut 5 = .ok (.iconst 0, 1) := by decide +kernel
theorem dL_isShut_6 : decode cL_isShut 6 = .ok (.iconst 1, 1) := by decide +kernel
theorem dL_isShut_7 : decode cL_isShut 7 = .ok (.iastore, 1) := by decide +kernel
theorem dL_isShut_8 : decode cL_isShut 8 = .ok (.dup, 1) := by decide +kernel
theorem dL_isShut_9 : decode cL_isShut 9 = .ok (.iconst 1, 1) := by decide +kernel
theorem dL_isShut_10 : decode cL_isShut 10 = .ok (.iconst 2, 1) := by decide +kernel
theorem dL_isShut_11 : decode cL_isShut 11 = .ok (.iastore, 1) := by decide +kernel
theorem dL_isShut_12 : decode cL_isShut 12 = .ok (.dup, 1) := by decide +kernel
theorem dL_isShut_13 : decode cL_isShut 13 = .ok (.iconst 2, 1) := by decide +kernel
theorem dL_isShut_14 : decode cL_isShut 14 = .ok (.iconst 4, 1) := by decide +kernel
theorem dL_isShut_15 : decode cL_isShut 15 = .ok (.iastore, 1) := by decide +kernel
theorem dL_isShut_16 : decode cL_isShut 16 = .ok (.dup, 1) := by decide +kernel
theorem dL_isShut_17 : decode cL_isShut 17 = .ok (.iconst 3, 1) := by decide +kernel
theorem dL_isShut_18 : decode cL_isShut 18 = .ok (.bipush 8, 2) := by decide +kernel
theorem dL_isShut_20 : decode cL_isShut 20 = .ok (.iastore, 1) := by decide +kernel
theorem dL_isShut_21 : decode cL_isShut 21 = .ok (.dup, 1) := by decide +kernel
theorem dL_isShut_22 : decode cL_isShut 22 = .ok (.iconst 4, 1) := by decide +kernel
theorem dL_isShut_23 : decode cL_isShut 23 = .ok (.bipush 16, 2) := by decide +kernel
theorem dL_isShut_25 : decode cL_isShut 25 = .ok (.iastore, 1) := by decide +kernel
theorem dL_isShut_26 : decode cL_isShut 26 = .ok (.dup, 1) := by decide +kernel
theorem dL_isShut_27 : decode cL_isShut 27 = .ok (.iconst 5, 1) := by decide +kernel
theorem dL_isShut_28 : decode cL_isShut 28 = .ok (.bipush 32, 2) := by decide +kernel
theorem dL_isShut_30 : decode cL_isShut 30 = .ok (.iastore, 1) := by decide +kernel
theorem dL_isShut_31 : decode cL_isShut 31 = .ok (.astore 4, 2) := by decide +kernel
theorem dL_isShut_33 : decode cL_isShut 33 = .ok (.iconst 0, 1) := by decide +kernel
theorem dL_isShut_34 : decode cL_isShut 34 = .ok (.istore 5, 2) := by decide +kernel
theorem dL_isShut_36 : decode cL_isShut 36 = .ok (.iload 5, 2) := by decide +kernel
theorem dL_isShut_38 : decode cL_isShut 38 = .ok (.bipush 6, 2) := by decide +kernel
theorem dL_isShut_40 : decode cL_isShut 40 = .ok (.if_icmp .ge 95, 3) := by decide +kernel
theorem dL_isShut_43 : decode cL_isShut 43 = .ok (.iconst 0, 1) := by decide +kernel
theorem dL_isShut_44 : decode cL_isShut 44 = .ok (.istore 6, 2) := by decide +kernel
theorem dL_isShut_46 : decode cL_isShut 46 = .ok (.iload 6, 2) := by decide +kernel
theorem dL_isShut_48 : decode cL_isShut 48 = .ok (.iload_n 2, 1) := by decide +kernel
theorem dL_isShut_49 : decode cL_isShut 49 = .ok (.if_icmp .ge 80, 3) := by decide +kernel
theorem dL_isShut_52 : decode cL_isShut 52 = .ok (.iload_n 3, 1) := by decide +kernel
theorem dL_isShut_53 : decode cL_isShut 53 = .ok (.iload 6, 2) := by decide +kernel
theorem dL_isShut_55 : decode cL_isShut 55 = .ok (.ishr, 1) := by decide +kernel
theorem dL_isShut_56 : decode cL_isShut 56 = .ok (.iconst 1, 1) := by decide +kernel
theorem dL_isShut_57 : decode cL_isShut 57 = .ok (.iand, 1) := by decide +kernel
theorem dL_isShut_58 : decode cL_isShut 58 = .ok (.iconst 1, 1) := by decide +kernel
theorem dL_isShut_59 : decode cL_isShut 59 = .ok (.if_icmp .ne 6, 3) := by decide +kernel
theorem dL_isShut_62 : decode cL_isShut 62 = .ok (.goto 61, 3) := by decide +kernel
theorem dL_isShut_65 : decode cL_isShut 65 = .ok (.aload 4, 2) := by decide +kernel
theorem dL_isShut_67 : decode cL_isShut 67 = .ok (.aload_n 1, 1) := by decide +kernel
theorem dL_isShut_68 : decode cL_isShut 68 = .ok (.iload 6, 2) := by decide +kernel
theorem dL_isShut_70 : decode cL_isShut 70 = .ok (.aaload, 1) := by decide +kernel
theorem dL_isShut_71 : decode cL_isShut 71 = .ok (.iconst 0, 1) := by decide +kernel
theorem dL_isShut_72 : decode cL_isShut 72 = .ok (.iaload, 1) := by decide +kernel
theorem dL_isShut_73 : decode cL_isShut 73 = .ok (.iaload, 1) := by decide +kernel
theorem dL_isShut_74 : decode cL_isShut 74 = .ok (.aload 4, 2) := by decide +kernel
theorem dL_isShut_76 : decode cL_isShut 76 = .ok (.aload_n 1, 1) := by decide +kernel
theorem dL_isShut_77 : decode cL_isShut 77 = .ok (.iload 6, 2) := by decide +kernel
theorem dL_isShut_79 : decode cL_isShut 79 = .ok (.aaload, 1) := by decide +kernel
theorem dL_isShut_80 : decode cL_isShut 80 = .ok (.iconst 1, 1) := by decide +kernel
theorem dL_isShut_81 : decode cL_isShut 81 = .ok (.iaload, 1) := by decide +kernel
theorem dL_isShut_82 : decode cL_isShut 82 = .ok (.iaload, 1) := by decide +kernel
theorem dL_isShut_83 : decode cL_isShut 83 = .ok (.ior, 1) := by decide +kernel
theorem dL_isShut_84 : decode cL_isShut 84 = .ok (.istore 7, 2) := by decide +kernel
theorem dL_isShut_86 : decode cL_isShut 86 = .ok (.iconst 0, 1) := by decide +kernel
theorem dL_isShut_87 : decode cL_isShut 87 = .ok (.istore 8, 2) := by decide +kernel
theorem dL_isShut_89 : decode cL_isShut 89 = .ok (.iload 8, 2) := by decide +kernel
theorem dL_isShut_91 : decode cL_isShut 91 = .ok (.bipush 6, 2) := by decide +kernel
theorem dL_isShut_93 : decode cL_isShut 93 = .ok (.if_icmp .ge 30, 3) := by decide +kernel
theorem dL_isShut_96 : decode cL_isShut 96 = .ok (.iload 7, 2) := by decide +kernel
theorem dL_isShut_98 : decode cL_isShut 98 = .ok (.iload 8, 2) := by decide +kernel
theorem dL_isShut_100 : decode cL_isShut 100 = .ok (.ishr, 1) := by decide +kernel
theorem dL_isShut_101 : decode cL_isShut 101 = .ok (.iconst 1, 1) := by decide +kernel
theorem dL_isShut_102 : decode cL_isShut 102 = .ok (.iand, 1) := by decide +kernel
theorem dL_isShut_103 : decode cL_isShut 103 = .ok (.iconst 1, 1) := by decide +kernel
theorem dL_isShut_104 : decode cL_isShut 104 = .ok (.if_icmp .ne 13, 3) := by decide +kernel
theorem dL_isShut_107 : decode cL_isShut 107 = .ok (.aload 4, 2) := by decide +kernel
theorem dL_isShut_109 : decode cL_isShut 109 = .ok (.iload 8, 2) := by decide +kernel
theorem dL_isShut_111 : decode cL_isShut 111 = .ok (.dup2, 1) := by decide +kernel
theorem dL_isShut_112 : decode cL_isShut 112 = .ok (.iaload, 1) := by decide +kernel
theorem dL_isShut_113 : decode cL_isShut 113 = .ok (.iload 7, 2) := by decide +kernel
theorem dL_isShut_115 : decode cL_isShut 115 = .ok (.ior, 1) := by decide +kernel
theorem dL_isShut_116 : decode cL_isShut 116 = .ok (.iastore, 1) := by decide +kernel
theorem dL_isShut_117 : decode cL_isShut 117 = .ok (.iinc 8 1, 3) := by decide +kernel
theorem dL_isShut_120 : decode cL_isShut 120 = .ok (.goto (-31), 3) := by decide +kernel
theorem dL_isShut_123 : decode cL_isShut 123 = .ok (.iinc 6 1, 3) := by decide +kernel
theorem dL_isShut_126 : decode cL_isShut 126 = .ok (.goto (-80), 3) := by decide +kernel
theorem dL_isShut_129 : decode cL_isShut 129 = .ok (.iinc 5 1, 3) := by decide +kernel
theorem dL_isShut_132 : decode cL_isShut 132 = .ok (.goto (-96), 3) := by decide +kernel
theorem dL_isShut_135 : decode cL_isShut 135 = .ok (.iconst 0, 1) := by decide +kernel
theorem dL_isShut_136 : decode cL_isShut 136 = .ok (.istore 5, 2) := by decide +kernel
theorem dL_isShut_138 : decode cL_isShut 138 = .ok (.iload 5, 2) := by decide +kernel
theorem dL_isShut_140 : decode cL_isShut 140 = .ok (.bipush 6, 2) := by decide +kernel
theorem dL_isShut_142 : decode cL_isShut 142 = .ok (.if_icmp .ge 24, 3) := by decide +kernel
theorem dL_isShut_145 : decode cL_isShut 145 = .ok (.aload 4, 2) := by decide +kernel
theorem dL_isShut_147 : decode cL_isShut 147 = .ok (.iload 5, 2) := by decide +kernel
theorem dL_isShut_149 : decode cL_isShut 149 = .ok (.iaload, 1) := by decide +kernel
theorem dL_isShut_150 : decode cL_isShut 150 = .ok (.aload_n 0, 1) := by decide +kernel
theorem dL_isShut_151 : decode cL_isShut 151 = .ok (.iload 5, 2) := by decide +kernel
theorem dL_isShut_153 : decode cL_isShut 153 = .ok (.iaload, 1) := by decide +kernel
theorem dL_isShut_154 : decode cL_isShut 154 = .ok (.iand, 1) := by decide +kernel
theorem dL_isShut_155 : decode cL_isShut 155 = .ok (.ifCond .eq 5, 3) := by decide +kernel
theorem dL_isShut_158 : decode cL_isShut 158 = .ok (.iconst 0, 1) := by decide +kernel
theorem dL_isShut_159 : decode cL_isShut 159 = .ok (.ireturn, 1) := by decide +kernel
theorem dL_isShut_160 : decode cL_isShut 160 = .ok (.iinc 5 1, 3) := by decide +kernel
theorem dL_isShut_163 : decode cL_isShut 163 = .ok (.goto (-25), 3) := by decide +kernel
theorem dL_isShut_166 : decode cL_isShut 166 = .ok (.iconst 1, 1) := by decide +kernel
theorem dL_isShut_167 : decode cL_isShut 167 = .ok (.ireturn, 1) := by decide +kernel
