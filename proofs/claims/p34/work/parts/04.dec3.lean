theorem dL_told_590 : decode cL_told 590 = .ok (.invokevirtual 63, 3) := by decide +kernel
theorem dL_told_593 : decode cL_told 593 = .ok (.aload 6, 2) := by decide +kernel
theorem dL_told_595 : decode cL_told 595 = .ok (.bipush 6, 2) := by decide +kernel
theorem dL_told_597 : decode cL_told 597 = .ok (.iload 14, 2) := by decide +kernel
theorem dL_told_599 : decode cL_told 599 = .ok (.imul, 1) := by decide +kernel
theorem dL_told_600 : decode cL_told 600 = .ok (.iconst 4, 1) := by decide +kernel
theorem dL_told_601 : decode cL_told 601 = .ok (.iadd, 1) := by decide +kernel
theorem dL_told_602 : decode cL_told 602 = .ok (.iaload, 1) := by decide +kernel
theorem dL_told_603 : decode cL_told 603 = .ok (.if_icmp .eq 5, 3) := by decide +kernel
theorem dL_told_606 : decode cL_told 606 = .ok (.iconst 0, 1) := by decide +kernel
theorem dL_told_607 : decode cL_told 607 = .ok (.ireturn, 1) := by decide +kernel
theorem dL_told_608 : decode cL_told 608 = .ok (.iinc 14 1, 3) := by decide +kernel
theorem dL_told_611 : decode cL_told 611 = .ok (.goto (-166), 3) := by decide +kernel
theorem dL_told_614 : decode cL_told 614 = .ok (.iconst 0, 1) := by decide +kernel
theorem dL_told_615 : decode cL_told 615 = .ok (.istore 14, 2) := by decide +kernel
theorem dL_told_617 : decode cL_told 617 = .ok (.iload 14, 2) := by decide +kernel
theorem dL_told_619 : decode cL_told 619 = .ok (.bipush 8, 2) := by decide +kernel
theorem dL_told_621 : decode cL_told 621 = .ok (.if_icmp .ge 25, 3) := by decide +kernel
theorem dL_told_624 : decode cL_told 624 = .ok (.aload_n 0, 1) := by decide +kernel
theorem dL_told_625 : decode cL_told 625 = .ok (.iload 14, 2) := by decide +kernel
theorem dL_told_627 : decode cL_told 627 = .ok (.invokevirtual 66, 3) := by decide +kernel
theorem dL_told_630 : decode cL_told 630 = .ok (.aload 8, 2) := by decide +kernel
theorem dL_told_632 : decode cL_told 632 = .ok (.iload 14, 2) := by decide +kernel
theorem dL_told_634 : decode cL_told 634 = .ok (.iaload, 1) := by decide +kernel
theorem dL_told_635 : decode cL_told 635 = .ok (.if_icmp .eq 5, 3) := by decide +kernel
theorem dL_told_638 : decode cL_told 638 = .ok (.iconst 0, 1) := by decide +kernel
theorem dL_told_639 : decode cL_told 639 = .ok (.ireturn, 1) := by decide +kernel
theorem dL_told_640 : decode cL_told 640 = .ok (.iinc 14 1, 3) := by decide +kernel
theorem dL_told_643 : decode cL_told 643 = .ok (.goto (-26), 3) := by decide +kernel
theorem dL_told_646 : decode cL_told 646 = .ok (.iconst 0, 1) := by decide +kernel
theorem dL_told_647 : decode cL_told 647 = .ok (.istore 14, 2) := by decide +kernel
theorem dL_told_649 : decode cL_told 649 = .ok (.iload 14, 2) := by decide +kernel
theorem dL_told_651 : decode cL_told 651 = .ok (.iconst 4, 1) := by decide +kernel
theorem dL_told_652 : decode cL_told 652 = .ok (.if_icmp .ge 25, 3) := by decide +kernel
theorem dL_told_655 : decode cL_told 655 = .ok (.aload_n 0, 1) := by decide +kernel
theorem dL_told_656 : decode cL_told 656 = .ok (.iload 14, 2) := by decide +kernel
theorem dL_told_658 : decode cL_told 658 = .ok (.invokevirtual 69, 3) := by decide +kernel
theorem dL_told_661 : decode cL_told 661 = .ok (.aload 9, 2) := by decide +kernel
theorem dL_told_663 : decode cL_told 663 = .ok (.iload 14, 2) := by decide +kernel
theorem dL_told_665 : decode cL_told 665 = .ok (.iaload, 1) := by decide +kernel
theorem dL_told_666 : decode cL_told 666 = .ok (.if_icmp .eq 5, 3) := by decide +kernel
theorem dL_told_669 : decode cL_told 669 = .ok (.iconst 0, 1) := by decide +kernel
theorem dL_told_670 : decode cL_told 670 = .ok (.ireturn, 1) := by decide +kernel
theorem dL_told_671 : decode cL_told 671 = .ok (.iinc 14 1, 3) := by decide +kernel
theorem dL_told_674 : decode cL_told 674 = .ok (.goto (-25), 3) := by decide +kernel
theorem dL_told_677 : decode cL_told 677 = .ok (.bipush 8, 2) := by decide +kernel
theorem dL_told_679 : decode cL_told 679 = .ok (.istore 14, 2) := by decide +kernel
theorem dL_told_681 : decode cL_told 681 = .ok (.iload 14, 2) := by decide +kernel
theorem dL_told_683 : decode cL_told 683 = .ok (.bipush 18, 2) := by decide +kernel
theorem dL_told_685 : decode cL_told 685 = .ok (.if_icmp .ge 27, 3) := by decide +kernel
theorem dL_told_688 : decode cL_told 688 = .ok (.aload_n 0, 1) := by decide +kernel
theorem dL_told_689 : decode cL_told 689 = .ok (.iload 14, 2) := by decide +kernel
theorem dL_told_691 : decode cL_told 691 = .ok (.invokevirtual 69, 3) := by decide +kernel
theorem dL_told_694 : decode cL_told 694 = .ok (.aload 9, 2) := by decide +kernel
theorem dL_told_696 : decode cL_told 696 = .ok (.iload 14, 2) := by decide +kernel
theorem dL_told_698 : decode cL_told 698 = .ok (.iconst 4, 1) := by decide +kernel
theorem dL_told_699 : decode cL_told 699 = .ok (.isub, 1) := by decide +kernel
theorem dL_told_700 : decode cL_told 700 = .ok (.iaload, 1) := by decide +kernel
theorem dL_told_701 : decode cL_told 701 = .ok (.if_icmp .eq 5, 3) := by decide +kernel
theorem dL_told_704 : decode cL_told 704 = .ok (.iconst 0, 1) := by decide +kernel
theorem dL_told_705 : decode cL_told 705 = .ok (.ireturn, 1) := by decide +kernel
theorem dL_told_706 : decode cL_told 706 = .ok (.iinc 14 1, 3) := by decide +kernel
theorem dL_told_709 : decode cL_told 709 = .ok (.goto (-28), 3) := by decide +kernel
theorem dL_told_712 : decode cL_told 712 = .ok (.iconst 0, 1) := by decide +kernel
theorem dL_told_713 : decode cL_told 713 = .ok (.istore 14, 2) := by decide +kernel
theorem dL_told_715 : decode cL_told 715 = .ok (.iload 14, 2) := by decide +kernel
theorem dL_told_717 : decode cL_told 717 = .ok (.iconst 4, 1) := by decide +kernel
theorem dL_told_718 : decode cL_told 718 = .ok (.if_icmp .ge 78, 3) := by decide +kernel
theorem dL_told_721 : decode cL_told 721 = .ok (.aload_n 0, 1) := by decide +kernel
theorem dL_told_722 : decode cL_told 722 = .ok (.iload 14, 2) := by decide +kernel
theorem dL_told_724 : decode cL_told 724 = .ok (.iconst 0, 1) := by decide +kernel
theorem dL_told_725 : decode cL_told 725 = .ok (.invokevirtual 72, 3) := by decide +kernel
theorem dL_told_728 : decode cL_told 728 = .ok (.iload 14, 2) := by decide +kernel
theorem dL_told_730 : decode cL_told 730 = .ok (.aload_n 3, 1) := by decide +kernel
theorem dL_told_731 : decode cL_told 731 = .ok (.invokestatic 26, 3) := by decide +kernel
theorem dL_told_734 : decode cL_told 734 = .ok (.ifCond .ge 7, 3) := by decide +kernel
theorem dL_told_737 : decode cL_told 737 = .ok (.iconst (-1), 1) := by decide +kernel
theorem dL_told_738 : decode cL_told 738 = .ok (.goto 12, 3) := by decide +kernel
theorem dL_told_741 : decode cL_told 741 = .ok (.iload 14, 2) := by decide +kernel
theorem dL_told_743 : decode cL_told 743 = .ok (.aload_n 3, 1) := by decide +kernel
theorem dL_told_744 : decode cL_told 744 = .ok (.invokestatic 26, 3) := by decide +kernel
theorem dL_told_747 : decode cL_told 747 = .ok (.invokestatic 30, 3) := by decide +kernel
theorem dL_told_750 : decode cL_told 750 = .ok (.if_icmp .ne 38, 3) := by decide +kernel
theorem dL_told_753 : decode cL_told 753 = .ok (.aload_n 0, 1) := by decide +kernel
theorem dL_told_754 : decode cL_told 754 = .ok (.iload 14, 2) := by decide +kernel
theorem dL_told_756 : decode cL_told 756 = .ok (.iconst 1, 1) := by decide +kernel
theorem dL_told_757 : decode cL_told 757 = .ok (.invokevirtual 72, 3) := by decide +kernel
theorem dL_told_760 : decode cL_told 760 = .ok (.iload 14, 2) := by decide +kernel
theorem dL_told_762 : decode cL_told 762 = .ok (.aload_n 3, 1) := by decide +kernel
theorem dL_told_763 : decode cL_told 763 = .ok (.invokestatic 26, 3) := by decide +kernel
theorem dL_told_766 : decode cL_told 766 = .ok (.ifCond .ge 7, 3) := by decide +kernel
theorem dL_told_769 : decode cL_told 769 = .ok (.iconst (-1), 1) := by decide +kernel
theorem dL_told_770 : decode cL_told 770 = .ok (.goto 15, 3) := by decide +kernel
theorem dL_told_773 : decode cL_told 773 = .ok (.aload_n 3, 1) := by decide +kernel
theorem dL_told_774 : decode cL_told 774 = .ok (.iconst 4, 1) := by decide +kernel
theorem dL_told_775 : decode cL_told 775 = .ok (.iload 14, 2) := by decide +kernel
theorem dL_told_777 : decode cL_told 777 = .ok (.aload_n 3, 1) := by decide +kernel
theorem dL_told_778 : decode cL_told 778 = .ok (.invokestatic 26, 3) := by decide +kernel
theorem dL_told_781 : decode cL_told 781 = .ok (.imul, 1) := by decide +kernel
theorem dL_told_782 : decode cL_told 782 = .ok (.iconst 2, 1) := by decide +kernel
theorem dL_told_783 : decode cL_told 783 = .ok (.iadd, 1) := by decide +kernel
theorem dL_told_784 : decode cL_told 784 = .ok (.iaload, 1) := by decide +kernel
theorem dL_told_785 : decode cL_told 785 = .ok (.if_icmp .eq 5, 3) := by decide +kernel
theorem dL_told_788 : decode cL_told 788 = .ok (.iconst 0, 1) := by decide +kernel
theorem dL_told_789 : decode cL_told 789 = .ok (.ireturn, 1) := by decide +kernel
theorem dL_told_790 : decode cL_told 790 = .ok (.iinc 14 1, 3) := by decide +kernel
theorem dL_told_793 : decode cL_told 793 = .ok (.goto (-78), 3) := by decide +kernel
theorem dL_told_796 : decode cL_told 796 = .ok (.aload_n 0, 1) := by decide +kernel
theorem dL_told_797 : decode cL_told 797 = .ok (.iconst 4, 1) := by decide +kernel
theorem dL_told_798 : decode cL_told 798 = .ok (.invokevirtual 69, 3) := by decide +kernel
theorem dL_told_801 : decode cL_told 801 = .ok (.iload 10, 2) := by decide +kernel
theorem dL_told_803 : decode cL_told 803 = .ok (.if_icmp .ne 35, 3) := by decide +kernel
theorem dL_told_806 : decode cL_told 806 = .ok (.aload_n 0, 1) := by decide +kernel
theorem dL_told_807 : decode cL_told 807 = .ok (.iconst 5, 1) := by decide +kernel
theorem dL_told_808 : decode cL_told 808 = .ok (.invokevirtual 69, 3) := by decide +kernel
theorem dL_told_811 : decode cL_told 811 = .ok (.iload 11, 2) := by decide +kernel
theorem dL_told_813 : decode cL_told 813 = .ok (.if_icmp .ne 25, 3) := by decide +kernel
theorem dL_told_816 : decode cL_told 816 = .ok (.aload_n 0, 1) := by decide +kernel
theorem dL_told_817 : decode cL_told 817 = .ok (.bipush 6, 2) := by decide +kernel
theorem dL_told_819 : decode cL_told 819 = .ok (.invokevirtual 69, 3) := by decide +kernel
theorem dL_told_822 : decode cL_told 822 = .ok (.iload 13, 2) := by decide +kernel
theorem dL_told_824 : decode cL_told 824 = .ok (.if_icmp .ne 14, 3) := by decide +kernel
theorem dL_told_827 : decode cL_told 827 = .ok (.aload_n 0, 1) := by decide +kernel
theorem dL_told_828 : decode cL_told 828 = .ok (.bipush 7, 2) := by decide +kernel
theorem dL_told_830 : decode cL_told 830 = .ok (.invokevirtual 69, 3) := by decide +kernel
theorem dL_told_833 : decode cL_told 833 = .ok (.iload 12, 2) := by decide +kernel
theorem dL_told_835 : decode cL_told 835 = .ok (.if_icmp .eq 5, 3) := by decide +kernel
theorem dL_told_838 : decode cL_told 838 = .ok (.iconst 0, 1) := by decide +kernel
theorem dL_told_839 : decode cL_told 839 = .ok (.ireturn, 1) := by decide +kernel
theorem dL_told_840 : decode cL_told 840 = .ok (.aload_n 0, 1) := by decide +kernel
theorem dL_told_841 : decode cL_told 841 = .ok (.invokevirtual 74, 3) := by decide +kernel
theorem dL_told_844 : decode cL_told 844 = .ok (.aload 9, 2) := by decide +kernel
theorem dL_told_846 : decode cL_told 846 = .ok (.iconst 5, 1) := by decide +kernel
theorem dL_told_847 : decode cL_told 847 = .ok (.iaload, 1) := by decide +kernel
theorem dL_told_848 : decode cL_told 848 = .ok (.ifCond .ne 7, 3) := by decide +kernel
theorem dL_told_851 : decode cL_told 851 = .ok (.dconst 0, 1) := by decide +kernel
theorem dL_told_852 : decode cL_told 852 = .ok (.goto 17, 3) := by decide +kernel
theorem dL_told_855 : decode cL_told 855 = .ok (.dconst 1, 1) := by decide +kernel
theorem dL_told_856 : decode cL_told 856 = .ok (.aload 9, 2) := by decide +kernel
theorem dL_told_858 : decode cL_told 858 = .ok (.bipush 6, 2) := by decide +kernel
theorem dL_told_860 : decode cL_told 860 = .ok (.iaload, 1) := by decide +kernel
theorem dL_told_861 : decode cL_told 861 = .ok (.i2d, 1) := by decide +kernel
theorem dL_told_862 : decode cL_told 862 = .ok (.dmul, 1) := by decide +kernel
theorem dL_told_863 : decode cL_told 863 = .ok (.aload 9, 2) := by decide +kernel
theorem dL_told_865 : decode cL_told 865 = .ok (.iconst 5, 1) := by decide +kernel
theorem dL_told_866 : decode cL_told 866 = .ok (.iaload, 1) := by decide +kernel
theorem dL_told_867 : decode cL_told 867 = .ok (.i2d, 1) := by decide +kernel
theorem dL_told_868 : decode cL_told 868 = .ok (.ddiv, 1) := by decide +kernel
theorem dL_told_869 : decode cL_told 869 = .ok (.dcmp .l, 1) := by decide +kernel
theorem dL_told_870 : decode cL_told 870 = .ok (.ifCond .ne 7, 3) := by decide +kernel
theorem dL_told_873 : decode cL_told 873 = .ok (.iconst 1, 1) := by decide +kernel
theorem dL_told_874 : decode cL_told 874 = .ok (.goto 4, 3) := by decide +kernel
theorem dL_told_877 : decode cL_told 877 = .ok (.iconst 0, 1) := by decide +kernel
theorem dL_told_878 : decode cL_told 878 = .ok (.ireturn, 1) := by decide +kernel
theorem dL_same_0 : decode cL_same 0 = .ok (.iconst 0, 1) := by decide +kernel
theorem dL_same_1 : decode cL_same 1 = .ok (.istore_n 2, 1) := by decide +kernel
theorem dL_same_2 : decode cL_same 2 = .ok (.iload_n 2, 1) := by decide +kernel
theorem dL_same_3 : decode cL_same 3 = .ok (.aload_n 1, 1) := by decide +kernel
theorem dL_same_4 : decode cL_same 4 = .ok (.arraylength, 1) := by decide +kernel
theorem dL_same_5 : decode cL_same 5 = .ok (.if_icmp .ge 15, 3) := by decide +kernel
theorem dL_same_8 : decode cL_same 8 = .ok (.aload_n 0, 1) := by decide +kernel
theorem dL_same_9 : decode cL_same 9 = .ok (.iload_n 2, 1) := by decide +kernel
theorem dL_same_10 : decode cL_same 10 = .ok (.aload_n 1, 1) := by decide +kernel
theorem dL_same_11 : decode cL_same 11 = .ok (.iload_n 2, 1) := by decide +kernel
theorem dL_same_12 : decode cL_same 12 = .ok (.iaload, 1) := by decide +kernel
theorem dL_same_13 : decode cL_same 13 = .ok (.iastore, 1) := by decide +kernel
theorem dL_same_14 : decode cL_same 14 = .ok (.iinc 2 1, 3) := by decide +kernel
theorem dL_same_17 : decode cL_same 17 = .ok (.goto (-15), 3) := by decide +kernel
theorem dL_same_20 : decode cL_same 20 = .ok (.return_, 1) := by decide +kernel
theorem dL_ahead_0 : decode cL_ahead 0 = .ok (.bipush 64, 2) := by decide +kernel
theorem dL_ahead_2 : decode cL_ahead 2 = .ok (.newarray .int, 2) := by decide +kernel
theorem dL_ahead_4 : decode cL_ahead 4 = .ok (.astore 10, 2) := by decide +kernel
theorem dL_ahead_6 : decode cL_ahead 6 = .ok (.bipush 64, 2) := by decide +kernel
theorem dL_ahead_8 : decode cL_ahead 8 = .ok (.newarray .int, 2) := by decide +kernel
theorem dL_ahead_10 : decode cL_ahead 10 = .ok (.astore 11, 2) := by decide +kernel
theorem dL_ahead_12 : decode cL_ahead 12 = .ok (.bipush 16, 2) := by decide +kernel
theorem dL_ahead_14 : decode cL_ahead 14 = .ok (.newarray .int, 2) := by decide +kernel
theorem dL_ahead_16 : decode cL_ahead 16 = .ok (.astore 12, 2) := by decide +kernel
theorem dL_ahead_18 : decode cL_ahead 18 = .ok (.bipush 9, 2) := by decide +kernel
theorem dL_ahead_20 : decode cL_ahead 20 = .ok (.newarray .int, 2) := by decide +kernel
theorem dL_ahead_22 : decode cL_ahead 22 = .ok (.astore 13, 2) := by decide +kernel
theorem dL_ahead_24 : decode cL_ahead 24 = .ok (.bipush 12, 2) := by decide +kernel
theorem dL_ahead_26 : decode cL_ahead 26 = .ok (.newarray .int, 2) := by decide +kernel
theorem dL_ahead_28 : decode cL_ahead 28 = .ok (.astore 14, 2) := by decide +kernel
theorem dL_ahead_30 : decode cL_ahead 30 = .ok (.bipush 48, 2) := by decide +kernel
theorem dL_ahead_32 : decode cL_ahead 32 = .ok (.newarray .int, 2) := by decide +kernel
theorem dL_ahead_34 : decode cL_ahead 34 = .ok (.astore 15, 2) := by decide +kernel
theorem dL_ahead_36 : decode cL_ahead 36 = .ok (.bipush 15, 2) := by decide +kernel
theorem dL_ahead_38 : decode cL_ahead 38 = .ok (.newarray .int, 2) := by decide +kernel
theorem dL_ahead_40 : decode cL_ahead 40 = .ok (.astore 16, 2) := by decide +kernel
theorem dL_ahead_42 : decode cL_ahead 42 = .ok (.aload 10, 2) := by decide +kernel
theorem dL_ahead_44 : decode cL_ahead 44 = .ok (.aload_n 2, 1) := by decide +kernel
theorem dL_ahead_45 : decode cL_ahead 45 = .ok (.invokestatic 78, 3) := by decide +kernel
theorem dL_ahead_48 : decode cL_ahead 48 = .ok (.aload 11, 2) := by decide +kernel
theorem dL_ahead_50 : decode cL_ahead 50 = .ok (.aload_n 3, 1) := by decide +kernel
theorem dL_ahead_51 : decode cL_ahead 51 = .ok (.invokestatic 78, 3) := by decide +kernel
theorem dL_ahead_54 : decode cL_ahead 54 = .ok (.aload 12, 2) := by decide +kernel
theorem dL_ahead_56 : decode cL_ahead 56 = .ok (.aload 4, 2) := by decide +kernel
theorem dL_ahead_58 : decode cL_ahead 58 = .ok (.invokestatic 78, 3) := by decide +kernel
theorem dL_ahead_61 : decode cL_ahead 61 = .ok (.aload 13, 2) := by decide +kernel
theorem dL_ahead_63 : decode cL_ahead 63 = .ok (.aload 5, 2) := by decide +kernel
theorem dL_ahead_65 : decode cL_ahead 65 = .ok (.invokestatic 78, 3) := by decide +kernel
theorem dL_ahead_68 : decode cL_ahead 68 = .ok (.aload 14, 2) := by decide +kernel
theorem dL_ahead_70 : decode cL_ahead 70 = .ok (.aload 6, 2) := by decide +kernel
theorem dL_ahead_72 : decode cL_ahead 72 = .ok (.invokestatic 78, 3) := by decide +kernel
theorem dL_ahead_75 : decode cL_ahead 75 = .ok (.aload 15, 2) := by decide +kernel
theorem dL_ahead_77 : decode cL_ahead 77 = .ok (.aload 7, 2) := by decide +kernel
theorem dL_ahead_79 : decode cL_ahead 79 = .ok (.invokestatic 78, 3) := by decide +kernel
theorem dL_ahead_82 : decode cL_ahead 82 = .ok (.aload 16, 2) := by decide +kernel
theorem dL_ahead_84 : decode cL_ahead 84 = .ok (.aload 9, 2) := by decide +kernel
theorem dL_ahead_86 : decode cL_ahead 86 = .ok (.invokestatic 78, 3) := by decide +kernel
theorem dL_ahead_89 : decode cL_ahead 89 = .ok (.iconst 1, 1) := by decide +kernel
theorem dL_ahead_90 : decode cL_ahead 90 = .ok (.iload_n 1, 1) := by decide +kernel
theorem dL_ahead_91 : decode cL_ahead 91 = .ok (.bipush 9, 2) := by decide +kernel
theorem dL_ahead_93 : decode cL_ahead 93 = .ok (.invokestatic 46, 3) := by decide +kernel
theorem dL_ahead_96 : decode cL_ahead 96 = .ok (.iadd, 1) := by decide +kernel
theorem dL_ahead_97 : decode cL_ahead 97 = .ok (.istore 17, 2) := by decide +kernel
theorem dL_ahead_99 : decode cL_ahead 99 = .ok (.iconst 0, 1) := by decide +kernel
theorem dL_ahead_100 : decode cL_ahead 100 = .ok (.aload 11, 2) := by decide +kernel
theorem dL_ahead_102 : decode cL_ahead 102 = .ok (.invokestatic 26, 3) := by decide +kernel
theorem dL_ahead_105 : decode cL_ahead 105 = .ok (.ifCond .lt 70, 3) := by decide +kernel
theorem dL_ahead_108 : decode cL_ahead 108 = .ok (.iconst 0, 1) := by decide +kernel
theorem dL_ahead_109 : decode cL_ahead 109 = .ok (.istore 18, 2) := by decide +kernel
theorem dL_ahead_111 : decode cL_ahead 111 = .ok (.iload 18, 2) := by decide +kernel
theorem dL_ahead_113 : decode cL_ahead 113 = .ok (.iload 17, 2) := by decide +kernel
theorem dL_ahead_115 : decode cL_ahead 115 = .ok (.if_icmp .ge 38, 3) := by decide +kernel
theorem dL_ahead_118 : decode cL_ahead 118 = .ok (.iconst 0, 1) := by decide +kernel
theorem dL_ahead_119 : decode cL_ahead 119 = .ok (.aload 11, 2) := by decide +kernel
theorem dL_ahead_121 : decode cL_ahead 121 = .ok (.invokestatic 26, 3) := by decide +kernel
theorem dL_ahead_124 : decode cL_ahead 124 = .ok (.ifCond .lt 29, 3) := by decide +kernel
theorem dL_ahead_127 : decode cL_ahead 127 = .ok (.aload 10, 2) := by decide +kernel
theorem dL_ahead_129 : decode cL_ahead 129 = .ok (.aload 11, 2) := by decide +kernel
theorem dL_ahead_131 : decode cL_ahead 131 = .ok (.aload 12, 2) := by decide +kernel
theorem dL_ahead_133 : decode cL_ahead 133 = .ok (.aload 13, 2) := by decide +kernel
theorem dL_ahead_135 : decode cL_ahead 135 = .ok (.aload 14, 2) := by decide +kernel
theorem dL_ahead_137 : decode cL_ahead 137 = .ok (.aload 15, 2) := by decide +kernel
theorem dL_ahead_139 : decode cL_ahead 139 = .ok (.aload 8, 2) := by decide +kernel
theorem dL_ahead_141 : decode cL_ahead 141 = .ok (.aload 16, 2) := by decide +kernel
theorem dL_ahead_143 : decode cL_ahead 143 = .ok (.invokestatic 82, 3) := by decide +kernel
theorem dL_ahead_146 : decode cL_ahead 146 = .ok (.pop, 1) := by decide +kernel
theorem dL_ahead_147 : decode cL_ahead 147 = .ok (.iinc 18 1, 3) := by decide +kernel
theorem dL_ahead_150 : decode cL_ahead 150 = .ok (.goto (-39), 3) := by decide +kernel
theorem dL_ahead_153 : decode cL_ahead 153 = .ok (.aload 10, 2) := by decide +kernel
theorem dL_ahead_155 : decode cL_ahead 155 = .ok (.aload 11, 2) := by decide +kernel
theorem dL_ahead_157 : decode cL_ahead 157 = .ok (.aload 12, 2) := by decide +kernel
theorem dL_ahead_159 : decode cL_ahead 159 = .ok (.aload 13, 2) := by decide +kernel
theorem dL_ahead_161 : decode cL_ahead 161 = .ok (.aload 14, 2) := by decide +kernel
theorem dL_ahead_163 : decode cL_ahead 163 = .ok (.aload 15, 2) := by decide +kernel
theorem dL_ahead_165 : decode cL_ahead 165 = .ok (.aload 8, 2) := by decide +kernel
theorem dL_ahead_167 : decode cL_ahead 167 = .ok (.aload 16, 2) := by decide +kernel
theorem dL_ahead_169 : decode cL_ahead 169 = .ok (.invokestatic 86, 3) := by decide +kernel
theorem dL_ahead_172 : decode cL_ahead 172 = .ok (.goto (-73), 3) := by decide +kernel
theorem dL_ahead_175 : decode cL_ahead 175 = .ok (.aload_n 0, 1) := by decide +kernel
theorem dL_ahead_176 : decode cL_ahead 176 = .ok (.iload 17, 2) := by decide +kernel
theorem dL_ahead_178 : decode cL_ahead 178 = .ok (.invokevirtual 90, 3) := by decide +kernel
theorem dL_ahead_181 : decode cL_ahead 181 = .ok (.aload 16, 2) := by decide +kernel
theorem dL_ahead_183 : decode cL_ahead 183 = .ok (.bipush 6, 2) := by decide +kernel
theorem dL_ahead_185 : decode cL_ahead 185 = .ok (.iaload, 1) := by decide +kernel
theorem dL_ahead_186 : decode cL_ahead 186 = .ok (.aload 9, 2) := by decide +kernel
theorem dL_ahead_188 : decode cL_ahead 188 = .ok (.bipush 6, 2) := by decide +kernel
theorem dL_ahead_190 : decode cL_ahead 190 = .ok (.iaload, 1) := by decide +kernel
theorem dL_ahead_191 : decode cL_ahead 191 = .ok (.isub, 1) := by decide +kernel
theorem dL_ahead_192 : decode cL_ahead 192 = .ok (.if_icmp .eq 5, 3) := by decide +kernel
theorem dL_ahead_195 : decode cL_ahead 195 = .ok (.iconst 0, 1) := by decide +kernel
theorem dL_ahead_196 : decode cL_ahead 196 = .ok (.ireturn, 1) := by decide +kernel
theorem dL_ahead_197 : decode cL_ahead 197 = .ok (.iload_n 1, 1) := by decide +kernel
theorem dL_ahead_198 : decode cL_ahead 198 = .ok (.iconst 3, 1) := by decide +kernel
theorem dL_ahead_199 : decode cL_ahead 199 = .ok (.ishr, 1) := by decide +kernel
theorem dL_ahead_200 : decode cL_ahead 200 = .ok (.bipush 16, 2) := by decide +kernel
theorem dL_ahead_202 : decode cL_ahead 202 = .ok (.invokestatic 46, 3) := by decide +kernel
theorem dL_ahead_205 : decode cL_ahead 205 = .ok (.istore 18, 2) := by decide +kernel
theorem dL_ahead_207 : decode cL_ahead 207 = .ok (.iconst 1, 1) := by decide +kernel
theorem dL_ahead_208 : decode cL_ahead 208 = .ok (.iload_n 1, 1) := by decide +kernel
theorem dL_ahead_209 : decode cL_ahead 209 = .ok (.bipush 7, 2) := by decide +kernel
theorem dL_ahead_211 : decode cL_ahead 211 = .ok (.ishr, 1) := by decide +kernel
theorem dL_ahead_212 : decode cL_ahead 212 = .ok (.sipush 200, 3) := by decide +kernel
theorem dL_ahead_215 : decode cL_ahead 215 = .ok (.invokestatic 46, 3) := by decide +kernel
theorem dL_ahead_218 : decode cL_ahead 218 = .ok (.iadd, 1) := by decide +kernel
theorem dL_ahead_219 : decode cL_ahead 219 = .ok (.istore 19, 2) := by decide +kernel
theorem dL_ahead_221 : decode cL_ahead 221 = .ok (.iconst 1, 1) := by decide +kernel
theorem dL_ahead_222 : decode cL_ahead 222 = .ok (.iload_n 1, 1) := by decide +kernel
theorem dL_ahead_223 : decode cL_ahead 223 = .ok (.iconst 5, 1) := by decide +kernel
theorem dL_ahead_224 : decode cL_ahead 224 = .ok (.ishr, 1) := by decide +kernel
theorem dL_ahead_225 : decode cL_ahead 225 = .ok (.bipush 60, 2) := by decide +kernel
theorem dL_ahead_227 : decode cL_ahead 227 = .ok (.invokestatic 46, 3) := by decide +kernel
theorem dL_ahead_230 : decode cL_ahead 230 = .ok (.iadd, 1) := by decide +kernel
theorem dL_ahead_231 : decode cL_ahead 231 = .ok (.istore 20, 2) := by decide +kernel
theorem dL_ahead_233 : decode cL_ahead 233 = .ok (.iconst (-1), 1) := by decide +kernel
theorem dL_ahead_234 : decode cL_ahead 234 = .ok (.istore 21, 2) := by decide +kernel
theorem dL_ahead_236 : decode cL_ahead 236 = .ok (.iconst 0, 1) := by decide +kernel
theorem dL_ahead_237 : decode cL_ahead 237 = .ok (.istore 22, 2) := by decide +kernel
theorem dL_ahead_239 : decode cL_ahead 239 = .ok (.iload 22, 2) := by decide +kernel
theorem dL_ahead_241 : decode cL_ahead 241 = .ok (.aload 9, 2) := by decide +kernel
theorem dL_ahead_243 : decode cL_ahead 243 = .ok (.iconst 3, 1) := by decide +kernel
theorem dL_ahead_244 : decode cL_ahead 244 = .ok (.iaload, 1) := by decide +kernel
theorem dL_ahead_245 : decode cL_ahead 245 = .ok (.if_icmp .ge 212, 3) := by decide +kernel
theorem dL_ahead_248 : decode cL_ahead 248 = .ok (.iload 18, 2) := by decide +kernel
theorem dL_ahead_250 : decode cL_ahead 250 = .ok (.iload 22, 2) := by decide +kernel
theorem dL_ahead_252 : decode cL_ahead 252 = .ok (.iload 19, 2) := by decide +kernel
theorem dL_ahead_254 : decode cL_ahead 254 = .ok (.aload_n 2, 1) := by decide +kernel
theorem dL_ahead_255 : decode cL_ahead 255 = .ok (.aload 6, 2) := by decide +kernel
theorem dL_ahead_257 : decode cL_ahead 257 = .ok (.aload 9, 2) := by decide +kernel
theorem dL_ahead_259 : decode cL_ahead 259 = .ok (.invokestatic 93, 3) := by decide +kernel
theorem dL_ahead_262 : decode cL_ahead 262 = .ok (.istore 23, 2) := by decide +kernel
theorem dL_ahead_264 : decode cL_ahead 264 = .ok (.iconst 1, 1) := by decide +kernel
theorem dL_ahead_265 : decode cL_ahead 265 = .ok (.iload_n 1, 1) := by decide +kernel
theorem dL_ahead_266 : decode cL_ahead 266 = .ok (.bipush 9, 2) := by decide +kernel
theorem dL_ahead_268 : decode cL_ahead 268 = .ok (.ishr, 1) := by decide +kernel
theorem dL_ahead_269 : decode cL_ahead 269 = .ok (.iload 23, 2) := by decide +kernel
theorem dL_ahead_271 : decode cL_ahead 271 = .ok (.invokestatic 46, 3) := by decide +kernel
theorem dL_ahead_274 : decode cL_ahead 274 = .ok (.iadd, 1) := by decide +kernel
theorem dL_ahead_275 : decode cL_ahead 275 = .ok (.istore 24, 2) := by decide +kernel
theorem dL_ahead_277 : decode cL_ahead 277 = .ok (.iconst (-1), 1) := by decide +kernel
theorem dL_ahead_278 : decode cL_ahead 278 = .ok (.istore 25, 2) := by decide +kernel
theorem dL_ahead_280 : decode cL_ahead 280 = .ok (.sipush 200, 3) := by decide +kernel
theorem dL_ahead_283 : decode cL_ahead 283 = .ok (.istore 26, 2) := by decide +kernel
theorem dL_ahead_285 : decode cL_ahead 285 = .ok (.iload 26, 2) := by decide +kernel
theorem dL_ahead_287 : decode cL_ahead 287 = .ok (.ifCond .lt 81, 3) := by decide +kernel
theorem dL_ahead_290 : decode cL_ahead 290 = .ok (.aload 16, 2) := by decide +kernel
theorem dL_ahead_292 : decode cL_ahead 292 = .ok (.aload 9, 2) := by decide +kernel
theorem dL_ahead_294 : decode cL_ahead 294 = .ok (.invokestatic 78, 3) := by decide +kernel
theorem dL_ahead_297 : decode cL_ahead 297 = .ok (.aload 16, 2) := by decide +kernel
theorem dL_ahead_299 : decode cL_ahead 299 = .ok (.iconst 1, 1) := by decide +kernel
theorem dL_ahead_300 : decode cL_ahead 300 = .ok (.aload 9, 2) := by decide +kernel
theorem dL_ahead_302 : decode cL_ahead 302 = .ok (.iconst 1, 1) := by decide +kernel
theorem dL_ahead_303 : decode cL_ahead 303 = .ok (.iaload, 1) := by decide +kernel
theorem dL_ahead_304 : decode cL_ahead 304 = .ok (.iload 26, 2) := by decide +kernel
theorem dL_ahead_306 : decode cL_ahead 306 = .ok (.aload 8, 2) := by decide +kernel
theorem dL_ahead_308 : decode cL_ahead 308 = .ok (.bipush 6, 2) := by decide +kernel
theorem dL_ahead_310 : decode cL_ahead 310 = .ok (.iaload, 1) := by decide +kernel
theorem dL_ahead_311 : decode cL_ahead 311 = .ok (.imul, 1) := by decide +kernel
theorem dL_ahead_312 : decode cL_ahead 312 = .ok (.isub, 1) := by decide +kernel
theorem dL_ahead_313 : decode cL_ahead 313 = .ok (.ifCond .ge 7, 3) := by decide +kernel
theorem dL_ahead_316 : decode cL_ahead 316 = .ok (.iconst 0, 1) := by decide +kernel
theorem dL_ahead_317 : decode cL_ahead 317 = .ok (.goto 16, 3) := by decide +kernel
theorem dL_ahead_320 : decode cL_ahead 320 = .ok (.aload 9, 2) := by decide +kernel
theorem dL_ahead_322 : decode cL_ahead 322 = .ok (.iconst 1, 1) := by decide +kernel
theorem dL_ahead_323 : decode cL_ahead 323 = .ok (.iaload, 1) := by decide +kernel
theorem dL_ahead_324 : decode cL_ahead 324 = .ok (.iload 26, 2) := by decide +kernel
theorem dL_ahead_326 : decode cL_ahead 326 = .ok (.aload 8, 2) := by decide +kernel
theorem dL_ahead_328 : decode cL_ahead 328 = .ok (.bipush 6, 2) := by decide +kernel
theorem dL_ahead_330 : decode cL_ahead 330 = .ok (.iaload, 1) := by decide +kernel
theorem dL_ahead_331 : decode cL_ahead 331 = .ok (.imul, 1) := by decide +kernel
theorem dL_ahead_332 : decode cL_ahead 332 = .ok (.isub, 1) := by decide +kernel
theorem dL_ahead_333 : decode cL_ahead 333 = .ok (.iastore, 1) := by decide +kernel
theorem dL_ahead_334 : decode cL_ahead 334 = .ok (.iload 18, 2) := by decide +kernel
theorem dL_ahead_336 : decode cL_ahead 336 = .ok (.iload 22, 2) := by decide +kernel
theorem dL_ahead_338 : decode cL_ahead 338 = .ok (.iload 19, 2) := by decide +kernel
theorem dL_ahead_340 : decode cL_ahead 340 = .ok (.aload_n 2, 1) := by decide +kernel
theorem dL_ahead_341 : decode cL_ahead 341 = .ok (.aload 6, 2) := by decide +kernel
theorem dL_ahead_343 : decode cL_ahead 343 = .ok (.aload 16, 2) := by decide +kernel
theorem dL_ahead_345 : decode cL_ahead 345 = .ok (.invokestatic 93, 3) := by decide +kernel
theorem dL_ahead_348 : decode cL_ahead 348 = .ok (.iload 24, 2) := by decide +kernel
theorem dL_ahead_350 : decode cL_ahead 350 = .ok (.if_icmp .gt 8, 3) := by decide +kernel
theorem dL_ahead_353 : decode cL_ahead 353 = .ok (.iload 26, 2) := by decide +kernel
theorem dL_ahead_355 : decode cL_ahead 355 = .ok (.goto 5, 3) := by decide +kernel
theorem dL_ahead_358 : decode cL_ahead 358 = .ok (.iload 25, 2) := by decide +kernel
theorem dL_ahead_360 : decode cL_ahead 360 = .ok (.istore 25, 2) := by decide +kernel
theorem dL_ahead_362 : decode cL_ahead 362 = .ok (.iinc 26 (-1), 3) := by decide +kernel
theorem dL_ahead_365 : decode cL_ahead 365 = .ok (.goto (-80), 3) := by decide +kernel
theorem dL_ahead_368 : decode cL_ahead 368 = .ok (.aload_n 0, 1) := by decide +kernel
theorem dL_ahead_369 : decode cL_ahead 369 = .ok (.iload 18, 2) := by decide +kernel
theorem dL_ahead_371 : decode cL_ahead 371 = .ok (.invokestatic 30, 3) := by decide +kernel
theorem dL_ahead_374 : decode cL_ahead 374 = .ok (.iload 22, 2) := by decide +kernel
theorem dL_ahead_376 : decode cL_ahead 376 = .ok (.iload 19, 2) := by decide +kernel
theorem dL_ahead_378 : decode cL_ahead 378 = .ok (.invokevirtual 97, 3) := by decide +kernel
theorem dL_ahead_381 : decode cL_ahead 381 = .ok (.iload 23, 2) := by decide +kernel
theorem dL_ahead_383 : decode cL_ahead 383 = .ok (.if_icmp .ne 23, 3) := by decide +kernel
theorem dL_ahead_386 : decode cL_ahead 386 = .ok (.aload_n 0, 1) := by decide +kernel
theorem dL_ahead_387 : decode cL_ahead 387 = .ok (.iload 18, 2) := by decide +kernel
theorem dL_ahead_389 : decode cL_ahead 389 = .ok (.invokestatic 30, 3) := by decide +kernel
theorem dL_ahead_392 : decode cL_ahead 392 = .ok (.iload 22, 2) := by decide +kernel
theorem dL_ahead_394 : decode cL_ahead 394 = .ok (.iload 19, 2) := by decide +kernel
theorem dL_ahead_396 : decode cL_ahead 396 = .ok (.iload 24, 2) := by decide +kernel
theorem dL_ahead_398 : decode cL_ahead 398 = .ok (.invokevirtual 100, 3) := by decide +kernel
theorem dL_ahead_401 : decode cL_ahead 401 = .ok (.iload 25, 2) := by decide +kernel
theorem dL_ahead_403 : decode cL_ahead 403 = .ok (.if_icmp .eq 5, 3) := by decide +kernel
theorem dL_ahead_406 : decode cL_ahead 406 = .ok (.iconst 0, 1) := by decide +kernel
theorem dL_ahead_407 : decode cL_ahead 407 = .ok (.ireturn, 1) := by decide +kernel
theorem dL_ahead_408 : decode cL_ahead 408 = .ok (.aload 6, 2) := by decide +kernel
theorem dL_ahead_410 : decode cL_ahead 410 = .ok (.bipush 6, 2) := by decide +kernel
theorem dL_ahead_412 : decode cL_ahead 412 = .ok (.iload 22, 2) := by decide +kernel
theorem dL_ahead_414 : decode cL_ahead 414 = .ok (.imul, 1) := by decide +kernel
theorem dL_ahead_415 : decode cL_ahead 415 = .ok (.iconst 2, 1) := by decide +kernel
theorem dL_ahead_416 : decode cL_ahead 416 = .ok (.iadd, 1) := by decide +kernel
theorem dL_ahead_417 : decode cL_ahead 417 = .ok (.iaload, 1) := by decide +kernel
theorem dL_ahead_418 : decode cL_ahead 418 = .ok (.iload 20, 2) := by decide +kernel
theorem dL_ahead_420 : decode cL_ahead 420 = .ok (.if_icmp .lt 31, 3) := by decide +kernel
theorem dL_ahead_423 : decode cL_ahead 423 = .ok (.iload 21, 2) := by decide +kernel
theorem dL_ahead_425 : decode cL_ahead 425 = .ok (.ifCond .lt 22, 3) := by decide +kernel
theorem dL_ahead_428 : decode cL_ahead 428 = .ok (.iload 23, 2) := by decide +kernel
theorem dL_ahead_430 : decode cL_ahead 430 = .ok (.iload 18, 2) := by decide +kernel
theorem dL_ahead_432 : decode cL_ahead 432 = .ok (.iload 21, 2) := by decide +kernel
theorem dL_ahead_434 : decode cL_ahead 434 = .ok (.iload 19, 2) := by decide +kernel
theorem dL_ahead_436 : decode cL_ahead 436 = .ok (.aload_n 2, 1) := by decide +kernel
theorem dL_ahead_437 : decode cL_ahead 437 = .ok (.aload 6, 2) := by decide +kernel
theorem dL_ahead_439 : decode cL_ahead 439 = .ok (.aload 9, 2) := by decide +kernel
theorem dL_ahead_441 : decode cL_ahead 441 = .ok (.invokestatic 93, 3) := by decide +kernel
theorem dL_ahead_444 : decode cL_ahead 444 = .ok (.if_icmp .ge 7, 3) := by decide +kernel
theorem dL_ahead_447 : decode cL_ahead 447 = .ok (.iload 22, 2) := by decide +kernel
theorem dL_ahead_449 : decode cL_ahead 449 = .ok (.istore 21, 2) := by decide +kernel
theorem dL_ahead_451 : decode cL_ahead 451 = .ok (.iinc 22 1, 3) := by decide +kernel
theorem dL_ahead_454 : decode cL_ahead 454 = .ok (.goto (-215), 3) := by decide +kernel
theorem dL_ahead_457 : decode cL_ahead 457 = .ok (.aload_n 0, 1) := by decide +kernel
theorem dL_ahead_458 : decode cL_ahead 458 = .ok (.iload 18, 2) := by decide +kernel
theorem dL_ahead_460 : decode cL_ahead 460 = .ok (.invokestatic 30, 3) := by decide +kernel
theorem dL_ahead_463 : decode cL_ahead 463 = .ok (.iload 20, 2) := by decide +kernel
theorem dL_ahead_465 : decode cL_ahead 465 = .ok (.iload 19, 2) := by decide +kernel
theorem dL_ahead_467 : decode cL_ahead 467 = .ok (.invokevirtual 104, 3) := by decide +kernel
theorem dL_ahead_470 : decode cL_ahead 470 = .ok (.iload 21, 2) := by decide +kernel
theorem dL_ahead_472 : decode cL_ahead 472 = .ok (.if_icmp .ne 7, 3) := by decide +kernel
theorem dL_ahead_475 : decode cL_ahead 475 = .ok (.iconst 1, 1) := by decide +kernel
theorem dL_ahead_476 : decode cL_ahead 476 = .ok (.goto 4, 3) := by decide +kernel
theorem dL_ahead_479 : decode cL_ahead 479 = .ok (.iconst 0, 1) := by decide +kernel
theorem dL_ahead_480 : decode cL_ahead 480 = .ok (.ireturn, 1) := by decide +kernel
theorem dL_letters_0 : decode cL_letters 0 = .ok (.iload_n 1, 1) := by decide +kernel
theorem dL_letters_1 : decode cL_letters 1 = .ok (.invokestatic 30, 3) := by decide +kernel
theorem dL_letters_4 : decode cL_letters 4 = .ok (.istore 4, 2) := by decide +kernel
theorem dL_letters_6 : decode cL_letters 6 = .ok (.iload_n 2, 1) := by decide +kernel
theorem dL_letters_7 : decode cL_letters 7 = .ok (.bipush 98, 2) := by decide +kernel
theorem dL_letters_9 : decode cL_letters 9 = .ok (.if_icmp .ne 18, 3) := by decide +kernel
theorem dL_letters_12 : decode cL_letters 12 = .ok (.aload_n 0, 1) := by decide +kernel
theorem dL_letters_13 : decode cL_letters 13 = .ok (.bipush 98, 2) := by decide +kernel
theorem dL_letters_15 : decode cL_letters 15 = .ok (.invokevirtual 107, 3) := by decide +kernel
theorem dL_letters_18 : decode cL_letters 18 = .ok (.ifCond .le 7, 3) := by decide +kernel
theorem dL_letters_21 : decode cL_letters 21 = .ok (.iconst 1, 1) := by decide +kernel
theorem dL_letters_22 : decode cL_letters 22 = .ok (.goto 4, 3) := by decide +kernel
theorem dL_letters_25 : decode cL_letters 25 = .ok (.iconst 0, 1) := by decide +kernel
theorem dL_letters_26 : decode cL_letters 26 = .ok (.ireturn, 1) := by decide +kernel
theorem dL_letters_27 : decode cL_letters 27 = .ok (.iload_n 2, 1) := by decide +kernel
theorem dL_letters_28 : decode cL_letters 28 = .ok (.bipush 116, 2) := by decide +kernel
theorem dL_letters_30 : decode cL_letters 30 = .ok (.if_icmp .ne 29, 3) := by decide +kernel
theorem dL_letters_33 : decode cL_letters 33 = .ok (.aload_n 0, 1) := by decide +kernel
theorem dL_letters_34 : decode cL_letters 34 = .ok (.bipush 116, 2) := by decide +kernel
theorem dL_letters_36 : decode cL_letters 36 = .ok (.invokevirtual 107, 3) := by decide +kernel
theorem dL_letters_39 : decode cL_letters 39 = .ok (.ifCond .le 18, 3) := by decide +kernel
theorem dL_letters_42 : decode cL_letters 42 = .ok (.aload_n 0, 1) := by decide +kernel
theorem dL_letters_43 : decode cL_letters 43 = .ok (.bipush 49, 2) := by decide +kernel
theorem dL_letters_45 : decode cL_letters 45 = .ok (.iload_n 3, 1) := by decide +kernel
theorem dL_letters_46 : decode cL_letters 46 = .ok (.iadd, 1) := by decide +kernel
theorem dL_letters_47 : decode cL_letters 47 = .ok (.invokevirtual 107, 3) := by decide +kernel
theorem dL_letters_50 : decode cL_letters 50 = .ok (.ifCond .le 7, 3) := by decide +kernel
theorem dL_letters_53 : decode cL_letters 53 = .ok (.iconst 1, 1) := by decide +kernel
theorem dL_letters_54 : decode cL_letters 54 = .ok (.goto 4, 3) := by decide +kernel
theorem dL_letters_57 : decode cL_letters 57 = .ok (.iconst 0, 1) := by decide +kernel
theorem dL_letters_58 : decode cL_letters 58 = .ok (.ireturn, 1) := by decide +kernel
theorem dL_letters_59 : decode cL_letters 59 = .ok (.aload_n 0, 1) := by decide +kernel
theorem dL_letters_60 : decode cL_letters 60 = .ok (.iload_n 2, 1) := by decide +kernel
theorem dL_letters_61 : decode cL_letters 61 = .ok (.invokevirtual 107, 3) := by decide +kernel
theorem dL_letters_64 : decode cL_letters 64 = .ok (.ifCond .le 63, 3) := by decide +kernel
theorem dL_letters_67 : decode cL_letters 67 = .ok (.aload_n 0, 1) := by decide +kernel
theorem dL_letters_68 : decode cL_letters 68 = .ok (.bipush 48, 2) := by decide +kernel
theorem dL_letters_70 : decode cL_letters 70 = .ok (.iload 4, 2) := by decide +kernel
theorem dL_letters_72 : decode cL_letters 72 = .ok (.bipush 8, 2) := by decide +kernel
theorem dL_letters_74 : decode cL_letters 74 = .ok (.idiv, 1) := by decide +kernel
theorem dL_letters_75 : decode cL_letters 75 = .ok (.iadd, 1) := by decide +kernel
theorem dL_letters_76 : decode cL_letters 76 = .ok (.invokevirtual 107, 3) := by decide +kernel
theorem dL_letters_79 : decode cL_letters 79 = .ok (.ifCond .le 48, 3) := by decide +kernel
theorem dL_letters_82 : decode cL_letters 82 = .ok (.aload_n 0, 1) := by decide +kernel
theorem dL_letters_83 : decode cL_letters 83 = .ok (.bipush 48, 2) := by decide +kernel
theorem dL_letters_85 : decode cL_letters 85 = .ok (.iload 4, 2) := by decide +kernel
theorem dL_letters_87 : decode cL_letters 87 = .ok (.bipush 8, 2) := by decide +kernel
theorem dL_letters_89 : decode cL_letters 89 = .ok (.irem, 1) := by decide +kernel
theorem dL_letters_90 : decode cL_letters 90 = .ok (.iadd, 1) := by decide +kernel
theorem dL_letters_91 : decode cL_letters 91 = .ok (.invokevirtual 107, 3) := by decide +kernel
theorem dL_letters_94 : decode cL_letters 94 = .ok (.ifCond .le 33, 3) := by decide +kernel
theorem dL_letters_97 : decode cL_letters 97 = .ok (.iload_n 2, 1) := by decide +kernel
theorem dL_letters_98 : decode cL_letters 98 = .ok (.bipush 114, 2) := by decide +kernel
theorem dL_letters_100 : decode cL_letters 100 = .ok (.if_icmp .eq 23, 3) := by decide +kernel
theorem dL_letters_103 : decode cL_letters 103 = .ok (.aload_n 0, 1) := by decide +kernel
theorem dL_letters_104 : decode cL_letters 104 = .ok (.bipush 61, 2) := by decide +kernel
theorem dL_letters_106 : decode cL_letters 106 = .ok (.invokevirtual 107, 3) := by decide +kernel
theorem dL_letters_109 : decode cL_letters 109 = .ok (.ifCond .le 18, 3) := by decide +kernel
theorem dL_letters_112 : decode cL_letters 112 = .ok (.aload_n 0, 1) := by decide +kernel
theorem dL_letters_113 : decode cL_letters 113 = .ok (.bipush 48, 2) := by decide +kernel
theorem dL_letters_115 : decode cL_letters 115 = .ok (.iload_n 3, 1) := by decide +kernel
theorem dL_letters_116 : decode cL_letters 116 = .ok (.iadd, 1) := by decide +kernel
theorem dL_letters_117 : decode cL_letters 117 = .ok (.invokevirtual 107, 3) := by decide +kernel
theorem dL_letters_120 : decode cL_letters 120 = .ok (.ifCond .le 7, 3) := by decide +kernel
theorem dL_letters_123 : decode cL_letters 123 = .ok (.iconst 1, 1) := by decide +kernel
theorem dL_letters_124 : decode cL_letters 124 = .ok (.goto 4, 3) := by decide +kernel
theorem dL_letters_127 : decode cL_letters 127 = .ok (.iconst 0, 1) := by decide +kernel
theorem dL_letters_128 : decode cL_letters 128 = .ok (.ireturn, 1) := by decide +kernel
theorem dL_runs_0 : decode cL_runs 0 = .ok (.iconst 0, 1) := by decide +kernel
theorem dL_runs_1 : decode cL_runs 1 = .ok (.istore 12, 2) := by decide +kernel
theorem dL_runs_3 : decode cL_runs 3 = .ok (.iconst 1, 1) := by decide +kernel
theorem dL_runs_4 : decode cL_runs 4 = .ok (.istore 13, 2) := by decide +kernel
theorem dL_runs_6 : decode cL_runs 6 = .ok (.aload_n 0, 1) := by decide +kernel
theorem dL_runs_7 : decode cL_runs 7 = .ok (.invokevirtual 110, 3) := by decide +kernel
theorem dL_runs_10 : decode cL_runs 10 = .ok (.pop, 1) := by decide +kernel
theorem dL_runs_11 : decode cL_runs 11 = .ok (.iconst 0, 1) := by decide +kernel
theorem dL_runs_12 : decode cL_runs 12 = .ok (.istore 14, 2) := by decide +kernel
theorem dL_runs_14 : decode cL_runs 14 = .ok (.iload 14, 2) := by decide +kernel
theorem dL_runs_16 : decode cL_runs 16 = .ok (.bipush 7, 2) := by decide +kernel
theorem dL_runs_18 : decode cL_runs 18 = .ok (.if_icmp .ge 325, 3) := by decide +kernel
theorem dL_runs_21 : decode cL_runs 21 = .ok (.iload_n 2, 1) := by decide +kernel
theorem dL_runs_22 : decode cL_runs 22 = .ok (.iconst 2, 1) := by decide +kernel
theorem dL_runs_23 : decode cL_runs 23 = .ok (.iload 14, 2) := by decide +kernel
theorem dL_runs_25 : decode cL_runs 25 = .ok (.imul, 1) := by decide +kernel
theorem dL_runs_26 : decode cL_runs 26 = .ok (.ishr, 1) := by decide +kernel
theorem dL_runs_27 : decode cL_runs 27 = .ok (.iload 14, 2) := by decide +kernel
theorem dL_runs_29 : decode cL_runs 29 = .ok (.iadd, 1) := by decide +kernel
theorem dL_runs_30 : decode cL_runs 30 = .ok (.bipush 6, 2) := by decide +kernel
theorem dL_runs_32 : decode cL_runs 32 = .ok (.invokestatic 46, 3) := by decide +kernel
theorem dL_runs_35 : decode cL_runs 35 = .ok (.istore 15, 2) := by decide +kernel
theorem dL_runs_37 : decode cL_runs 37 = .ok (.iload_n 3, 1) := by decide +kernel
theorem dL_runs_38 : decode cL_runs 38 = .ok (.iconst 2, 1) := by decide +kernel
theorem dL_runs_39 : decode cL_runs 39 = .ok (.iload 14, 2) := by decide +kernel
theorem dL_runs_41 : decode cL_runs 41 = .ok (.imul, 1) := by decide +kernel
theorem dL_runs_42 : decode cL_runs 42 = .ok (.ishr, 1) := by decide +kernel
theorem dL_runs_43 : decode cL_runs 43 = .ok (.iconst 3, 1) := by decide +kernel
theorem dL_runs_44 : decode cL_runs 44 = .ok (.iload 14, 2) := by decide +kernel
theorem dL_runs_46 : decode cL_runs 46 = .ok (.imul, 1) := by decide +kernel
theorem dL_runs_47 : decode cL_runs 47 = .ok (.iadd, 1) := by decide +kernel
theorem dL_runs_48 : decode cL_runs 48 = .ok (.bipush 16, 2) := by decide +kernel
theorem dL_runs_50 : decode cL_runs 50 = .ok (.invokestatic 46, 3) := by decide +kernel
theorem dL_runs_53 : decode cL_runs 53 = .ok (.istore 16, 2) := by decide +kernel
theorem dL_runs_55 : decode cL_runs 55 = .ok (.iload_n 3, 1) := by decide +kernel
theorem dL_runs_56 : decode cL_runs 56 = .ok (.iload 14, 2) := by decide +kernel
theorem dL_runs_58 : decode cL_runs 58 = .ok (.ishr, 1) := by decide +kernel
theorem dL_runs_59 : decode cL_runs 59 = .ok (.iconst 2, 1) := by decide +kernel
theorem dL_runs_60 : decode cL_runs 60 = .ok (.invokestatic 46, 3) := by decide +kernel
theorem dL_runs_63 : decode cL_runs 63 = .ok (.istore 17, 2) := by decide +kernel
theorem dL_runs_65 : decode cL_runs 65 = .ok (.iload 14, 2) := by decide +kernel
theorem dL_runs_67 : decode cL_runs 67 = .ok (.ifCond .le 13, 3) := by decide +kernel
theorem dL_runs_70 : decode cL_runs 70 = .ok (.aload_n 0, 1) := by decide +kernel
theorem dL_runs_71 : decode cL_runs 71 = .ok (.bipush 59, 2) := by decide +kernel
theorem dL_runs_73 : decode cL_runs 73 = .ok (.invokevirtual 107, 3) := by decide +kernel
theorem dL_runs_76 : decode cL_runs 76 = .ok (.iconst 1, 1) := by decide +kernel
theorem dL_runs_77 : decode cL_runs 77 = .ok (.if_icmp .lt 49, 3) := by decide +kernel
theorem dL_runs_80 : decode cL_runs 80 = .ok (.aload_n 0, 1) := by decide +kernel
theorem dL_runs_81 : decode cL_runs 81 = .ok (.iload 16, 2) := by decide +kernel
theorem dL_runs_83 : decode cL_runs 83 = .ok (.iload 15, 2) := by decide +kernel
theorem dL_runs_85 : decode cL_runs 85 = .ok (.iconst 2, 1) := by decide +kernel
theorem dL_runs_86 : decode cL_runs 86 = .ok (.if_icmp .ge 8, 3) := by decide +kernel
theorem dL_runs_89 : decode cL_runs 89 = .ok (.bipush 114, 2) := by decide +kernel
theorem dL_runs_91 : decode cL_runs 91 = .ok (.goto 27, 3) := by decide +kernel
theorem dL_runs_94 : decode cL_runs 94 = .ok (.iload 15, 2) := by decide +kernel
theorem dL_runs_96 : decode cL_runs 96 = .ok (.iconst 4, 1) := by decide +kernel
theorem dL_runs_97 : decode cL_runs 97 = .ok (.if_icmp .ge 8, 3) := by decide +kernel
theorem dL_runs_100 : decode cL_runs 100 = .ok (.bipush 119, 2) := by decide +kernel
theorem dL_runs_102 : decode cL_runs 102 = .ok (.goto 16, 3) := by decide +kernel
theorem dL_runs_105 : decode cL_runs 105 = .ok (.iload 15, 2) := by decide +kernel
theorem dL_runs_107 : decode cL_runs 107 = .ok (.iconst 4, 1) := by decide +kernel
theorem dL_runs_108 : decode cL_runs 108 = .ok (.if_icmp .ne 8, 3) := by decide +kernel
theorem dL_runs_111 : decode cL_runs 111 = .ok (.bipush 98, 2) := by decide +kernel
theorem dL_runs_113 : decode cL_runs 113 = .ok (.goto 5, 3) := by decide +kernel
theorem dL_runs_116 : decode cL_runs 116 = .ok (.bipush 116, 2) := by decide +kernel
theorem dL_runs_118 : decode cL_runs 118 = .ok (.iload 17, 2) := by decide +kernel
theorem dL_runs_120 : decode cL_runs 120 = .ok (.invokestatic 113, 3) := by decide +kernel
theorem dL_runs_123 : decode cL_runs 123 = .ok (.ifCond .ne 5, 3) := by decide +kernel
theorem dL_runs_126 : decode cL_runs 126 = .ok (.iconst 0, 1) := by decide +kernel
theorem dL_runs_127 : decode cL_runs 127 = .ok (.ireturn, 1) := by decide +kernel
theorem dL_runs_128 : decode cL_runs 128 = .ok (.iload 13, 2) := by decide +kernel
theorem dL_runs_130 : decode cL_runs 130 = .ok (.ifCond .eq 62, 3) := by decide +kernel
theorem dL_runs_133 : decode cL_runs 133 = .ok (.iload 15, 2) := by decide +kernel
theorem dL_runs_135 : decode cL_runs 135 = .ok (.iconst 5, 1) := by decide +kernel
theorem dL_runs_136 : decode cL_runs 136 = .ok (.if_icmp .eq 52, 3) := by decide +kernel
theorem dL_runs_139 : decode cL_runs 139 = .ok (.iload 15, 2) := by decide +kernel
theorem dL_runs_141 : decode cL_runs 141 = .ok (.iconst 4, 1) := by decide +kernel
theorem dL_runs_142 : decode cL_runs 142 = .ok (.if_icmp .ne 15, 3) := by decide +kernel
theorem dL_runs_145 : decode cL_runs 145 = .ok (.iconst 0, 1) := by decide +kernel
theorem dL_runs_146 : decode cL_runs 146 = .ok (.aload 5, 2) := by decide +kernel
theorem dL_runs_148 : decode cL_runs 148 = .ok (.invokestatic 26, 3) := by decide +kernel
theorem dL_runs_151 : decode cL_runs 151 = .ok (.ifCond .lt 41, 3) := by decide +kernel
theorem dL_runs_154 : decode cL_runs 154 = .ok (.goto 34, 3) := by decide +kernel
theorem dL_runs_157 : decode cL_runs 157 = .ok (.aload 4, 2) := by decide +kernel
theorem dL_runs_159 : decode cL_runs 159 = .ok (.iconst 4, 1) := by decide +kernel
theorem dL_runs_160 : decode cL_runs 160 = .ok (.iload 16, 2) := by decide +kernel
theorem dL_runs_162 : decode cL_runs 162 = .ok (.imul, 1) := by decide +kernel
theorem dL_runs_163 : decode cL_runs 163 = .ok (.iconst 2, 1) := by decide +kernel
theorem dL_runs_164 : decode cL_runs 164 = .ok (.iadd, 1) := by decide +kernel
theorem dL_runs_165 : decode cL_runs 165 = .ok (.iaload, 1) := by decide +kernel
theorem dL_runs_166 : decode cL_runs 166 = .ok (.iload_n 1, 1) := by decide +kernel
theorem dL_runs_167 : decode cL_runs 167 = .ok (.if_icmp .ne 25, 3) := by decide +kernel
theorem dL_runs_170 : decode cL_runs 170 = .ok (.iload 15, 2) := by decide +kernel
theorem dL_runs_172 : decode cL_runs 172 = .ok (.iconst 1, 1) := by decide +kernel
theorem dL_runs_173 : decode cL_runs 173 = .ok (.if_icmp .gt 15, 3) := by decide +kernel
theorem dL_runs_176 : decode cL_runs 176 = .ok (.aload 5, 2) := by decide +kernel
theorem dL_runs_178 : decode cL_runs 178 = .ok (.iconst 4, 1) := by decide +kernel
theorem dL_runs_179 : decode cL_runs 179 = .ok (.iload 16, 2) := by decide +kernel
theorem dL_runs_181 : decode cL_runs 181 = .ok (.imul, 1) := by decide +kernel
theorem dL_runs_182 : decode cL_runs 182 = .ok (.iconst 2, 1) := by decide +kernel
theorem dL_runs_183 : decode cL_runs 183 = .ok (.iadd, 1) := by decide +kernel
theorem dL_runs_184 : decode cL_runs 184 = .ok (.iaload, 1) := by decide +kernel
theorem dL_runs_185 : decode cL_runs 185 = .ok (.ifCond .ge 7, 3) := by decide +kernel
theorem dL_runs_188 : decode cL_runs 188 = .ok (.iconst 1, 1) := by decide +kernel
theorem dL_runs_189 : decode cL_runs 189 = .ok (.goto 4, 3) := by decide +kernel
theorem dL_runs_192 : decode cL_runs 192 = .ok (.iconst 0, 1) := by decide +kernel
theorem dL_runs_193 : decode cL_runs 193 = .ok (.istore 13, 2) := by decide +kernel
theorem dL_runs_195 : decode cL_runs 195 = .ok (.iload 13, 2) := by decide +kernel
theorem dL_runs_197 : decode cL_runs 197 = .ok (.ifCond .ne 6, 3) := by decide +kernel
theorem dL_runs_200 : decode cL_runs 200 = .ok (.goto 137, 3) := by decide +kernel
theorem dL_runs_203 : decode cL_runs 203 = .ok (.iinc 12 1, 3) := by decide +kernel
theorem dL_runs_206 : decode cL_runs 206 = .ok (.iload 15, 2) := by decide +kernel
theorem dL_runs_208 : decode cL_runs 208 = .ok (.iconst 2, 1) := by decide +kernel
theorem dL_runs_209 : decode cL_runs 209 = .ok (.if_icmp .ge 25, 3) := by decide +kernel
theorem dL_runs_212 : decode cL_runs 212 = .ok (.iload 16, 2) := by decide +kernel
theorem dL_runs_214 : decode cL_runs 214 = .ok (.aload 4, 2) := by decide +kernel
theorem dL_runs_216 : decode cL_runs 216 = .ok (.aload 5, 2) := by decide +kernel
theorem dL_runs_218 : decode cL_runs 218 = .ok (.aload 6, 2) := by decide +kernel
theorem dL_runs_220 : decode cL_runs 220 = .ok (.aload 7, 2) := by decide +kernel
theorem dL_runs_222 : decode cL_runs 222 = .ok (.aload 8, 2) := by decide +kernel
theorem dL_runs_224 : decode cL_runs 224 = .ok (.aload 9, 2) := by decide +kernel
theorem dL_runs_226 : decode cL_runs 226 = .ok (.aload 10, 2) := by decide +kernel
theorem dL_runs_228 : decode cL_runs 228 = .ok (.aload 11, 2) := by decide +kernel
theorem dL_runs_230 : decode cL_runs 230 = .ok (.invokestatic 117, 3) := by decide +kernel
theorem dL_runs_233 : decode cL_runs 233 = .ok (.pop, 1) := by decide +kernel
theorem dL_runs_234 : decode cL_runs 234 = .ok (.iload 15, 2) := by decide +kernel
theorem dL_runs_236 : decode cL_runs 236 = .ok (.iconst 2, 1) := by decide +kernel
theorem dL_runs_237 : decode cL_runs 237 = .ok (.if_icmp .eq 9, 3) := by decide +kernel
theorem dL_runs_240 : decode cL_runs 240 = .ok (.iload 15, 2) := by decide +kernel
theorem dL_runs_242 : decode cL_runs 242 = .ok (.iconst 3, 1) := by decide +kernel
theorem dL_runs_243 : decode cL_runs 243 = .ok (.if_icmp .ne 27, 3) := by decide +kernel
theorem dL_runs_246 : decode cL_runs 246 = .ok (.iload 16, 2) := by decide +kernel
theorem dL_runs_248 : decode cL_runs 248 = .ok (.iload 17, 2) := by decide +kernel
theorem dL_runs_250 : decode cL_runs 250 = .ok (.aload 4, 2) := by decide +kernel
theorem dL_runs_252 : decode cL_runs 252 = .ok (.aload 5, 2) := by decide +kernel
theorem dL_runs_254 : decode cL_runs 254 = .ok (.aload 6, 2) := by decide +kernel
theorem dL_runs_256 : decode cL_runs 256 = .ok (.aload 7, 2) := by decide +kernel
theorem dL_runs_258 : decode cL_runs 258 = .ok (.aload 8, 2) := by decide +kernel
theorem dL_runs_260 : decode cL_runs 260 = .ok (.aload 9, 2) := by decide +kernel
theorem dL_runs_262 : decode cL_runs 262 = .ok (.aload 10, 2) := by decide +kernel
theorem dL_runs_264 : decode cL_runs 264 = .ok (.aload 11, 2) := by decide +kernel
theorem dL_runs_266 : decode cL_runs 266 = .ok (.invokestatic 121, 3) := by decide +kernel
theorem dL_runs_269 : decode cL_runs 269 = .ok (.pop, 1) := by decide +kernel
theorem dL_runs_270 : decode cL_runs 270 = .ok (.iload 15, 2) := by decide +kernel
theorem dL_runs_272 : decode cL_runs 272 = .ok (.iconst 4, 1) := by decide +kernel
theorem dL_runs_273 : decode cL_runs 273 = .ok (.if_icmp .ne 23, 3) := by decide +kernel
theorem dL_runs_276 : decode cL_runs 276 = .ok (.aload 4, 2) := by decide +kernel
theorem dL_runs_278 : decode cL_runs 278 = .ok (.aload 5, 2) := by decide +kernel
theorem dL_runs_280 : decode cL_runs 280 = .ok (.aload 6, 2) := by decide +kernel
theorem dL_runs_282 : decode cL_runs 282 = .ok (.aload 7, 2) := by decide +kernel
theorem dL_runs_284 : decode cL_runs 284 = .ok (.aload 8, 2) := by decide +kernel
theorem dL_runs_286 : decode cL_runs 286 = .ok (.aload 9, 2) := by decide +kernel
theorem dL_runs_288 : decode cL_runs 288 = .ok (.aload 10, 2) := by decide +kernel
theorem dL_runs_290 : decode cL_runs 290 = .ok (.aload 11, 2) := by decide +kernel
theorem dL_runs_292 : decode cL_runs 292 = .ok (.invokestatic 82, 3) := by decide +kernel
theorem dL_runs_295 : decode cL_runs 295 = .ok (.pop, 1) := by decide +kernel
theorem dL_runs_296 : decode cL_runs 296 = .ok (.iconst 0, 1) := by decide +kernel
theorem dL_runs_297 : decode cL_runs 297 = .ok (.istore 18, 2) := by decide +kernel
theorem dL_runs_299 : decode cL_runs 299 = .ok (.iload 18, 2) := by decide +kernel
theorem dL_runs_301 : decode cL_runs 301 = .ok (.iload 17, 2) := by decide +kernel
theorem dL_runs_303 : decode cL_runs 303 = .ok (.if_icmp .gt 34, 3) := by decide +kernel
theorem dL_runs_306 : decode cL_runs 306 = .ok (.iload 15, 2) := by decide +kernel
theorem dL_runs_308 : decode cL_runs 308 = .ok (.iconst 5, 1) := by decide +kernel
theorem dL_runs_309 : decode cL_runs 309 = .ok (.if_icmp .ne 28, 3) := by decide +kernel
theorem dL_runs_312 : decode cL_runs 312 = .ok (.aload 4, 2) := by decide +kernel
theorem dL_runs_314 : decode cL_runs 314 = .ok (.aload 5, 2) := by decide +kernel
theorem dL_runs_316 : decode cL_runs 316 = .ok (.aload 6, 2) := by decide +kernel
theorem dL_runs_318 : decode cL_runs 318 = .ok (.aload 7, 2) := by decide +kernel
theorem dL_runs_320 : decode cL_runs 320 = .ok (.aload 8, 2) := by decide +kernel
theorem dL_runs_322 : decode cL_runs 322 = .ok (.aload 9, 2) := by decide +kernel
theorem dL_runs_324 : decode cL_runs 324 = .ok (.aload 10, 2) := by decide +kernel
theorem dL_runs_326 : decode cL_runs 326 = .ok (.aload 11, 2) := by decide +kernel
theorem dL_runs_328 : decode cL_runs 328 = .ok (.invokestatic 86, 3) := by decide +kernel
theorem dL_runs_331 : decode cL_runs 331 = .ok (.iinc 18 1, 3) := by decide +kernel
theorem dL_runs_334 : decode cL_runs 334 = .ok (.goto (-35), 3) := by decide +kernel
theorem dL_runs_337 : decode cL_runs 337 = .ok (.iinc 14 1, 3) := by decide +kernel
theorem dL_runs_340 : decode cL_runs 340 = .ok (.goto (-326), 3) := by decide +kernel
theorem dL_runs_343 : decode cL_runs 343 = .ok (.aload_n 0, 1) := by decide +kernel
theorem dL_runs_344 : decode cL_runs 344 = .ok (.iload_n 1, 1) := by decide +kernel
theorem dL_runs_345 : decode cL_runs 345 = .ok (.invokevirtual 125, 3) := by decide +kernel
theorem dL_runs_348 : decode cL_runs 348 = .ok (.iload 12, 2) := by decide +kernel
theorem dL_runs_350 : decode cL_runs 350 = .ok (.if_icmp .ne 7, 3) := by decide +kernel
theorem dL_runs_353 : decode cL_runs 353 = .ok (.iconst 1, 1) := by decide +kernel
theorem dL_runs_354 : decode cL_runs 354 = .ok (.goto 4, 3) := by decide +kernel
theorem dL_runs_357 : decode cL_runs 357 = .ok (.iconst 0, 1) := by decide +kernel
theorem dL_runs_358 : decode cL_runs 358 = .ok (.ireturn, 1) := by decide +kernel
theorem dL_act_0 : decode cL_act 0 = .ok (.iload_n 2, 1) := by decide +kernel
theorem dL_act_1 : decode cL_act 1 = .ok (.bipush 16, 2) := by decide +kernel
theorem dL_act_3 : decode cL_act 3 = .ok (.invokestatic 46, 3) := by decide +kernel
theorem dL_act_6 : decode cL_act 6 = .ok (.istore 12, 2) := by decide +kernel
theorem dL_act_8 : decode cL_act 8 = .ok (.iload 12, 2) := by decide +kernel
theorem dL_act_10 : decode cL_act 10 = .ok (.invokestatic 30, 3) := by decide +kernel
theorem dL_act_13 : decode cL_act 13 = .ok (.istore 13, 2) := by decide +kernel
theorem dL_act_15 : decode cL_act 15 = .ok (.iload_n 1, 1) := by decide +kernel
theorem dL_act_16 : decode cL_act 16 = .ok (.ifCond .eq 10, 3) := by decide +kernel
theorem dL_act_19 : decode cL_act 19 = .ok (.aload 11, 2) := by decide +kernel
theorem dL_act_21 : decode cL_act 21 = .ok (.iconst 2, 1) := by decide +kernel
theorem dL_act_22 : decode cL_act 22 = .ok (.iaload, 1) := by decide +kernel
theorem dL_act_23 : decode cL_act 23 = .ok (.ifCond .ne 67, 3) := by decide +kernel
theorem dL_act_26 : decode cL_act 26 = .ok (.aload 11, 2) := by decide +kernel
theorem dL_act_28 : decode cL_act 28 = .ok (.iconst 2, 1) := by decide +kernel
theorem dL_act_29 : decode cL_act 29 = .ok (.iaload, 1) := by decide +kernel
theorem dL_act_30 : decode cL_act 30 = .ok (.iconst 3, 1) := by decide +kernel
theorem dL_act_31 : decode cL_act 31 = .ok (.if_icmp .ne 5, 3) := by decide +kernel
theorem dL_act_34 : decode cL_act 34 = .ok (.iconst 1, 1) := by decide +kernel
theorem dL_act_35 : decode cL_act 35 = .ok (.ireturn, 1) := by decide +kernel
theorem dL_act_36 : decode cL_act 36 = .ok (.aload 7, 2) := by decide +kernel
theorem dL_act_38 : decode cL_act 38 = .ok (.iconst 3, 1) := by decide +kernel
theorem dL_act_39 : decode cL_act 39 = .ok (.aload 11, 2) := by decide +kernel
theorem dL_act_41 : decode cL_act 41 = .ok (.iconst 2, 1) := by decide +kernel
theorem dL_act_42 : decode cL_act 42 = .ok (.iaload, 1) := by decide +kernel
theorem dL_act_43 : decode cL_act 43 = .ok (.imul, 1) := by decide +kernel
theorem dL_act_44 : decode cL_act 44 = .ok (.iload_n 3, 1) := by decide +kernel
theorem dL_act_45 : decode cL_act 45 = .ok (.sipush 3000, 3) := by decide +kernel
theorem dL_act_48 : decode cL_act 48 = .ok (.invokestatic 46, 3) := by decide +kernel
theorem dL_act_51 : decode cL_act 51 = .ok (.iastore, 1) := by decide +kernel
theorem dL_act_52 : decode cL_act 52 = .ok (.aload 11, 2) := by decide +kernel
theorem dL_act_54 : decode cL_act 54 = .ok (.iconst 2, 1) := by decide +kernel
theorem dL_act_55 : decode cL_act 55 = .ok (.dup2, 1) := by decide +kernel
theorem dL_act_56 : decode cL_act 56 = .ok (.iaload, 1) := by decide +kernel
theorem dL_act_57 : decode cL_act 57 = .ok (.iconst 1, 1) := by decide +kernel
theorem dL_act_58 : decode cL_act 58 = .ok (.iadd, 1) := by decide +kernel
theorem dL_act_59 : decode cL_act 59 = .ok (.iastore, 1) := by decide +kernel
theorem dL_act_60 : decode cL_act 60 = .ok (.aload_n 0, 1) := by decide +kernel
theorem dL_act_61 : decode cL_act 61 = .ok (.aload 7, 2) := by decide +kernel
theorem dL_act_63 : decode cL_act 63 = .ok (.iconst 3, 1) := by decide +kernel
theorem dL_act_64 : decode cL_act 64 = .ok (.aload 11, 2) := by decide +kernel
theorem dL_act_66 : decode cL_act 66 = .ok (.iconst 2, 1) := by decide +kernel
theorem dL_act_67 : decode cL_act 67 = .ok (.iaload, 1) := by decide +kernel
theorem dL_act_68 : decode cL_act 68 = .ok (.imul, 1) := by decide +kernel
theorem dL_act_69 : decode cL_act 69 = .ok (.iconst 3, 1) := by decide +kernel
theorem dL_act_70 : decode cL_act 70 = .ok (.isub, 1) := by decide +kernel
theorem dL_act_71 : decode cL_act 71 = .ok (.iaload, 1) := by decide +kernel
theorem dL_act_72 : decode cL_act 72 = .ok (.invokevirtual 128, 3) := by decide +kernel
theorem dL_act_75 : decode cL_act 75 = .ok (.aload 11, 2) := by decide +kernel
theorem dL_act_77 : decode cL_act 77 = .ok (.iconst 2, 1) := by decide +kernel
theorem dL_act_78 : decode cL_act 78 = .ok (.iaload, 1) := by decide +kernel
theorem dL_act_79 : decode cL_act 79 = .ok (.iconst 1, 1) := by decide +kernel
theorem dL_act_80 : decode cL_act 80 = .ok (.isub, 1) := by decide +kernel
theorem dL_act_81 : decode cL_act 81 = .ok (.if_icmp .ne 7, 3) := by decide +kernel
theorem dL_act_84 : decode cL_act 84 = .ok (.iconst 1, 1) := by decide +kernel
theorem dL_act_85 : decode cL_act 85 = .ok (.goto 4, 3) := by decide +kernel
theorem dL_act_88 : decode cL_act 88 = .ok (.iconst 0, 1) := by decide +kernel
theorem dL_act_89 : decode cL_act 89 = .ok (.ireturn, 1) := by decide +kernel
theorem dL_act_90 : decode cL_act 90 = .ok (.iload_n 1, 1) := by decide +kernel
theorem dL_act_91 : decode cL_act 91 = .ok (.iconst 1, 1) := by decide +kernel
theorem dL_act_92 : decode cL_act 92 = .ok (.if_icmp .eq 10, 3) := by decide +kernel
theorem dL_act_95 : decode cL_act 95 = .ok (.aload 11, 2) := by decide +kernel
theorem dL_act_97 : decode cL_act 97 = .ok (.iconst 3, 1) := by decide +kernel
theorem dL_act_98 : decode cL_act 98 = .ok (.iaload, 1) := by decide +kernel
theorem dL_act_99 : decode cL_act 99 = .ok (.ifCond .ne 114, 3) := by decide +kernel
theorem dL_act_102 : decode cL_act 102 = .ok (.aload 11, 2) := by decide +kernel
theorem dL_act_104 : decode cL_act 104 = .ok (.iconst 3, 1) := by decide +kernel
theorem dL_act_105 : decode cL_act 105 = .ok (.iaload, 1) := by decide +kernel
theorem dL_act_106 : decode cL_act 106 = .ok (.iconst 2, 1) := by decide +kernel
theorem dL_act_107 : decode cL_act 107 = .ok (.if_icmp .ne 5, 3) := by decide +kernel
theorem dL_act_110 : decode cL_act 110 = .ok (.iconst 1, 1) := by decide +kernel
theorem dL_act_111 : decode cL_act 111 = .ok (.ireturn, 1) := by decide +kernel
theorem dL_act_112 : decode cL_act 112 = .ok (.bipush 6, 2) := by decide +kernel
theorem dL_act_114 : decode cL_act 114 = .ok (.aload 11, 2) := by decide +kernel
theorem dL_act_116 : decode cL_act 116 = .ok (.iconst 3, 1) := by decide +kernel
theorem dL_act_117 : decode cL_act 117 = .ok (.iaload, 1) := by decide +kernel
theorem dL_act_118 : decode cL_act 118 = .ok (.imul, 1) := by decide +kernel
theorem dL_act_119 : decode cL_act 119 = .ok (.istore 14, 2) := by decide +kernel
theorem dL_act_121 : decode cL_act 121 = .ok (.aload 8, 2) := by decide +kernel
theorem dL_act_123 : decode cL_act 123 = .ok (.iload 14, 2) := by decide +kernel
theorem dL_act_125 : decode cL_act 125 = .ok (.iload_n 2, 1) := by decide +kernel
theorem dL_act_126 : decode cL_act 126 = .ok (.iconst 3, 1) := by decide +kernel
theorem dL_act_127 : decode cL_act 127 = .ok (.ishr, 1) := by decide +kernel
theorem dL_act_128 : decode cL_act 128 = .ok (.bipush 100, 2) := by decide +kernel
theorem dL_act_130 : decode cL_act 130 = .ok (.invokestatic 46, 3) := by decide +kernel
theorem dL_act_133 : decode cL_act 133 = .ok (.iastore, 1) := by decide +kernel
theorem dL_act_134 : decode cL_act 134 = .ok (.aload 8, 2) := by decide +kernel
theorem dL_act_136 : decode cL_act 136 = .ok (.iload 14, 2) := by decide +kernel
theorem dL_act_138 : decode cL_act 138 = .ok (.iconst 1, 1) := by decide +kernel
theorem dL_act_139 : decode cL_act 139 = .ok (.iadd, 1) := by decide +kernel
theorem dL_act_140 : decode cL_act 140 = .ok (.iconst 1, 1) := by decide +kernel
theorem dL_act_141 : decode cL_act 141 = .ok (.iload_n 3, 1) := by decide +kernel
theorem dL_act_142 : decode cL_act 142 = .ok (.bipush 60, 2) := by decide +kernel
theorem dL_act_144 : decode cL_act 144 = .ok (.invokestatic 46, 3) := by decide +kernel
theorem dL_act_147 : decode cL_act 147 = .ok (.iadd, 1) := by decide +kernel
theorem dL_act_148 : decode cL_act 148 = .ok (.iastore, 1) := by decide +kernel
theorem dL_act_149 : decode cL_act 149 = .ok (.aload 8, 2) := by decide +kernel
theorem dL_act_151 : decode cL_act 151 = .ok (.iload 14, 2) := by decide +kernel
theorem dL_act_153 : decode cL_act 153 = .ok (.iconst 2, 1) := by decide +kernel
theorem dL_act_154 : decode cL_act 154 = .ok (.iadd, 1) := by decide +kernel
theorem dL_act_155 : decode cL_act 155 = .ok (.iconst 1, 1) := by decide +kernel
theorem dL_act_156 : decode cL_act 156 = .ok (.iload_n 3, 1) := by decide +kernel
theorem dL_act_157 : decode cL_act 157 = .ok (.bipush 7, 2) := by decide +kernel
theorem dL_act_159 : decode cL_act 159 = .ok (.ishr, 1) := by decide +kernel
theorem dL_act_160 : decode cL_act 160 = .ok (.bipush 90, 2) := by decide +kernel
theorem dL_act_162 : decode cL_act 162 = .ok (.invokestatic 46, 3) := by decide +kernel
theorem dL_act_165 : decode cL_act 165 = .ok (.iadd, 1) := by decide +kernel
theorem dL_act_166 : decode cL_act 166 = .ok (.iastore, 1) := by decide +kernel
theorem dL_act_167 : decode cL_act 167 = .ok (.aload 11, 2) := by decide +kernel
theorem dL_act_169 : decode cL_act 169 = .ok (.iconst 3, 1) := by decide +kernel
theorem dL_act_170 : decode cL_act 170 = .ok (.dup2, 1) := by decide +kernel
theorem dL_act_171 : decode cL_act 171 = .ok (.iaload, 1) := by decide +kernel
theorem dL_act_172 : decode cL_act 172 = .ok (.iconst 1, 1) := by decide +kernel
theorem dL_act_173 : decode cL_act 173 = .ok (.iadd, 1) := by decide +kernel
theorem dL_act_174 : decode cL_act 174 = .ok (.iastore, 1) := by decide +kernel
theorem dL_act_175 : decode cL_act 175 = .ok (.aload_n 0, 1) := by decide +kernel
theorem dL_act_176 : decode cL_act 176 = .ok (.aload 8, 2) := by decide +kernel
theorem dL_act_178 : decode cL_act 178 = .ok (.iload 14, 2) := by decide +kernel
theorem dL_act_180 : decode cL_act 180 = .ok (.iaload, 1) := by decide +kernel
theorem dL_act_181 : decode cL_act 181 = .ok (.aload 8, 2) := by decide +kernel
theorem dL_act_183 : decode cL_act 183 = .ok (.iload 14, 2) := by decide +kernel
theorem dL_act_185 : decode cL_act 185 = .ok (.iconst 1, 1) := by decide +kernel
theorem dL_act_186 : decode cL_act 186 = .ok (.iadd, 1) := by decide +kernel
theorem dL_act_187 : decode cL_act 187 = .ok (.iaload, 1) := by decide +kernel
theorem dL_act_188 : decode cL_act 188 = .ok (.aload 8, 2) := by decide +kernel
theorem dL_act_190 : decode cL_act 190 = .ok (.iload 14, 2) := by decide +kernel
theorem dL_act_192 : decode cL_act 192 = .ok (.iconst 2, 1) := by decide +kernel
theorem dL_act_193 : decode cL_act 193 = .ok (.iadd, 1) := by decide +kernel
theorem dL_act_194 : decode cL_act 194 = .ok (.iaload, 1) := by decide +kernel
theorem dL_act_195 : decode cL_act 195 = .ok (.invokevirtual 131, 3) := by decide +kernel
theorem dL_act_198 : decode cL_act 198 = .ok (.aload 11, 2) := by decide +kernel
theorem dL_act_200 : decode cL_act 200 = .ok (.iconst 3, 1) := by decide +kernel
theorem dL_act_201 : decode cL_act 201 = .ok (.iaload, 1) := by decide +kernel
theorem dL_act_202 : decode cL_act 202 = .ok (.iconst 1, 1) := by decide +kernel
theorem dL_act_203 : decode cL_act 203 = .ok (.isub, 1) := by decide +kernel
theorem dL_act_204 : decode cL_act 204 = .ok (.if_icmp .ne 7, 3) := by decide +kernel
theorem dL_act_207 : decode cL_act 207 = .ok (.iconst 1, 1) := by decide +kernel
theorem dL_act_208 : decode cL_act 208 = .ok (.goto 4, 3) := by decide +kernel
theorem dL_act_211 : decode cL_act 211 = .ok (.iconst 0, 1) := by decide +kernel
theorem dL_act_212 : decode cL_act 212 = .ok (.ireturn, 1) := by decide +kernel
theorem dL_act_213 : decode cL_act 213 = .ok (.iload_n 3, 1) := by decide +kernel
theorem dL_act_214 : decode cL_act 214 = .ok (.aload 11, 2) := by decide +kernel
theorem dL_act_216 : decode cL_act 216 = .ok (.iconst 2, 1) := by decide +kernel
theorem dL_act_217 : decode cL_act 217 = .ok (.iaload, 1) := by decide +kernel
theorem dL_act_218 : decode cL_act 218 = .ok (.invokestatic 46, 3) := by decide +kernel
theorem dL_act_221 : decode cL_act 221 = .ok (.istore 14, 2) := by decide +kernel
theorem dL_act_223 : decode cL_act 223 = .ok (.iload_n 1, 1) := by decide +kernel
theorem dL_act_224 : decode cL_act 224 = .ok (.iconst 5, 1) := by decide +kernel
theorem dL_act_225 : decode cL_act 225 = .ok (.if_icmp .ge 126, 3) := by decide +kernel
theorem dL_act_228 : decode cL_act 228 = .ok (.iconst 1, 1) := by decide +kernel
theorem dL_act_229 : decode cL_act 229 = .ok (.iload_n 3, 1) := by decide +kernel
theorem dL_act_230 : decode cL_act 230 = .ok (.iconst 3, 1) := by decide +kernel
theorem dL_act_231 : decode cL_act 231 = .ok (.ishr, 1) := by decide +kernel
theorem dL_act_232 : decode cL_act 232 = .ok (.bipush 60, 2) := by decide +kernel
theorem dL_act_234 : decode cL_act 234 = .ok (.invokestatic 46, 3) := by decide +kernel
theorem dL_act_237 : decode cL_act 237 = .ok (.iadd, 1) := by decide +kernel
theorem dL_act_238 : decode cL_act 238 = .ok (.istore 15, 2) := by decide +kernel
theorem dL_act_240 : decode cL_act 240 = .ok (.aload 4, 2) := by decide +kernel
theorem dL_act_242 : decode cL_act 242 = .ok (.iconst 4, 1) := by decide +kernel
theorem dL_act_243 : decode cL_act 243 = .ok (.iload 12, 2) := by decide +kernel
theorem dL_act_245 : decode cL_act 245 = .ok (.imul, 1) := by decide +kernel
theorem dL_act_246 : decode cL_act 246 = .ok (.iconst 2, 1) := by decide +kernel
theorem dL_act_247 : decode cL_act 247 = .ok (.iadd, 1) := by decide +kernel
theorem dL_act_248 : decode cL_act 248 = .ok (.iaload, 1) := by decide +kernel
theorem dL_act_249 : decode cL_act 249 = .ok (.ifCond .ge 20, 3) := by decide +kernel
theorem dL_act_252 : decode cL_act 252 = .ok (.aload 7, 2) := by decide +kernel
theorem dL_act_254 : decode cL_act 254 = .ok (.iconst 3, 1) := by decide +kernel
theorem dL_act_255 : decode cL_act 255 = .ok (.iload 14, 2) := by decide +kernel
theorem dL_act_257 : decode cL_act 257 = .ok (.imul, 1) := by decide +kernel
theorem dL_act_258 : decode cL_act 258 = .ok (.iaload, 1) := by decide +kernel
theorem dL_act_259 : decode cL_act 259 = .ok (.iload 15, 2) := by decide +kernel
theorem dL_act_261 : decode cL_act 261 = .ok (.aload 10, 2) := by decide +kernel
theorem dL_act_263 : decode cL_act 263 = .ok (.iconst 0, 1) := by decide +kernel
theorem dL_act_264 : decode cL_act 264 = .ok (.iaload, 1) := by decide +kernel
theorem dL_act_265 : decode cL_act 265 = .ok (.imul, 1) := by decide +kernel
theorem dL_act_266 : decode cL_act 266 = .ok (.if_icmp .ge 5, 3) := by decide +kernel
theorem dL_act_269 : decode cL_act 269 = .ok (.iconst 1, 1) := by decide +kernel
theorem dL_act_270 : decode cL_act 270 = .ok (.ireturn, 1) := by decide +kernel
theorem dL_act_271 : decode cL_act 271 = .ok (.aload 7, 2) := by decide +kernel
theorem dL_act_273 : decode cL_act 273 = .ok (.iconst 3, 1) := by decide +kernel
theorem dL_act_274 : decode cL_act 274 = .ok (.iload 14, 2) := by decide +kernel
theorem dL_act_276 : decode cL_act 276 = .ok (.imul, 1) := by decide +kernel
theorem dL_act_277 : decode cL_act 277 = .ok (.dup2, 1) := by decide +kernel
theorem dL_act_278 : decode cL_act 278 = .ok (.iaload, 1) := by decide +kernel
theorem dL_act_279 : decode cL_act 279 = .ok (.iload 15, 2) := by decide +kernel
theorem dL_act_281 : decode cL_act 281 = .ok (.aload 10, 2) := by decide +kernel
theorem dL_act_283 : decode cL_act 283 = .ok (.iconst 0, 1) := by decide +kernel
theorem dL_act_284 : decode cL_act 284 = .ok (.iaload, 1) := by decide +kernel
theorem dL_act_285 : decode cL_act 285 = .ok (.imul, 1) := by decide +kernel
theorem dL_act_286 : decode cL_act 286 = .ok (.isub, 1) := by decide +kernel
theorem dL_act_287 : decode cL_act 287 = .ok (.iastore, 1) := by decide +kernel
theorem dL_act_288 : decode cL_act 288 = .ok (.aload 11, 2) := by decide +kernel
theorem dL_act_290 : decode cL_act 290 = .ok (.bipush 12, 2) := by decide +kernel
theorem dL_act_292 : decode cL_act 292 = .ok (.dup2, 1) := by decide +kernel
theorem dL_act_293 : decode cL_act 293 = .ok (.iaload, 1) := by decide +kernel
theorem dL_act_294 : decode cL_act 294 = .ok (.iload 15, 2) := by decide +kernel
theorem dL_act_296 : decode cL_act 296 = .ok (.aload 10, 2) := by decide +kernel
theorem dL_act_298 : decode cL_act 298 = .ok (.iconst 0, 1) := by decide +kernel
theorem dL_act_299 : decode cL_act 299 = .ok (.iaload, 1) := by decide +kernel
theorem dL_act_300 : decode cL_act 300 = .ok (.imul, 1) := by decide +kernel
theorem dL_act_301 : decode cL_act 301 = .ok (.iadd, 1) := by decide +kernel
theorem dL_act_302 : decode cL_act 302 = .ok (.iastore, 1) := by decide +kernel
theorem dL_act_303 : decode cL_act 303 = .ok (.aload 4, 2) := by decide +kernel
theorem dL_act_305 : decode cL_act 305 = .ok (.iconst 4, 1) := by decide +kernel
theorem dL_act_306 : decode cL_act 306 = .ok (.iload 12, 2) := by decide +kernel
theorem dL_act_308 : decode cL_act 308 = .ok (.imul, 1) := by decide +kernel
theorem dL_act_309 : decode cL_act 309 = .ok (.iconst 2, 1) := by decide +kernel
theorem dL_act_310 : decode cL_act 310 = .ok (.iadd, 1) := by decide +kernel
theorem dL_act_311 : decode cL_act 311 = .ok (.iload 14, 2) := by decide +kernel
theorem dL_act_313 : decode cL_act 313 = .ok (.iastore, 1) := by decide +kernel
theorem dL_act_314 : decode cL_act 314 = .ok (.aload 4, 2) := by decide +kernel
theorem dL_act_316 : decode cL_act 316 = .ok (.iconst 4, 1) := by decide +kernel
theorem dL_act_317 : decode cL_act 317 = .ok (.iload 12, 2) := by decide +kernel
theorem dL_act_319 : decode cL_act 319 = .ok (.imul, 1) := by decide +kernel
theorem dL_act_320 : decode cL_act 320 = .ok (.iconst 3, 1) := by decide +kernel
theorem dL_act_321 : decode cL_act 321 = .ok (.iadd, 1) := by decide +kernel
theorem dL_act_322 : decode cL_act 322 = .ok (.iload 15, 2) := by decide +kernel
theorem dL_act_324 : decode cL_act 324 = .ok (.iastore, 1) := by decide +kernel
theorem dL_act_325 : decode cL_act 325 = .ok (.aload_n 0, 1) := by decide +kernel
theorem dL_act_326 : decode cL_act 326 = .ok (.iload 13, 2) := by decide +kernel
theorem dL_act_328 : decode cL_act 328 = .ok (.iload 14, 2) := by decide +kernel
theorem dL_act_330 : decode cL_act 330 = .ok (.iload 15, 2) := by decide +kernel
theorem dL_act_332 : decode cL_act 332 = .ok (.invokevirtual 134, 3) := by decide +kernel
theorem dL_act_335 : decode cL_act 335 = .ok (.aload 7, 2) := by decide +kernel
theorem dL_act_337 : decode cL_act 337 = .ok (.iconst 3, 1) := by decide +kernel
theorem dL_act_338 : decode cL_act 338 = .ok (.iload 14, 2) := by decide +kernel
theorem dL_act_340 : decode cL_act 340 = .ok (.imul, 1) := by decide +kernel
theorem dL_act_341 : decode cL_act 341 = .ok (.iaload, 1) := by decide +kernel
theorem dL_act_342 : decode cL_act 342 = .ok (.if_icmp .ne 7, 3) := by decide +kernel
theorem dL_act_345 : decode cL_act 345 = .ok (.iconst 1, 1) := by decide +kernel
theorem dL_act_346 : decode cL_act 346 = .ok (.goto 4, 3) := by decide +kernel
theorem dL_act_349 : decode cL_act 349 = .ok (.iconst 0, 1) := by decide +kernel
theorem dL_act_350 : decode cL_act 350 = .ok (.ireturn, 1) := by decide +kernel
theorem dL_act_351 : decode cL_act 351 = .ok (.iload_n 1, 1) := by decide +kernel
theorem dL_act_352 : decode cL_act 352 = .ok (.bipush 8, 2) := by decide +kernel
theorem dL_act_354 : decode cL_act 354 = .ok (.if_icmp .ge 205, 3) := by decide +kernel
theorem dL_act_357 : decode cL_act 357 = .ok (.iload_n 3, 1) := by decide +kernel
theorem dL_act_358 : decode cL_act 358 = .ok (.iconst 3, 1) := by decide +kernel
theorem dL_act_359 : decode cL_act 359 = .ok (.ishr, 1) := by decide +kernel
theorem dL_act_360 : decode cL_act 360 = .ok (.aload 11, 2) := by decide +kernel
theorem dL_act_362 : decode cL_act 362 = .ok (.iconst 3, 1) := by decide +kernel
theorem dL_act_363 : decode cL_act 363 = .ok (.iaload, 1) := by decide +kernel
theorem dL_act_364 : decode cL_act 364 = .ok (.invokestatic 46, 3) := by decide +kernel
theorem dL_act_367 : decode cL_act 367 = .ok (.istore 15, 2) := by decide +kernel
theorem dL_act_369 : decode cL_act 369 = .ok (.iconst 1, 1) := by decide +kernel
theorem dL_act_370 : decode cL_act 370 = .ok (.iload_n 3, 1) := by decide +kernel
theorem dL_act_371 : decode cL_act 371 = .ok (.iconst 5, 1) := by decide +kernel
theorem dL_act_372 : decode cL_act 372 = .ok (.ishr, 1) := by decide +kernel
theorem dL_act_373 : decode cL_act 373 = .ok (.bipush 40, 2) := by decide +kernel
theorem dL_act_375 : decode cL_act 375 = .ok (.invokestatic 46, 3) := by decide +kernel
theorem dL_act_378 : decode cL_act 378 = .ok (.iadd, 1) := by decide +kernel
theorem dL_act_379 : decode cL_act 379 = .ok (.istore 16, 2) := by decide +kernel
theorem dL_act_381 : decode cL_act 381 = .ok (.iload 12, 2) := by decide +kernel
theorem dL_act_383 : decode cL_act 383 = .ok (.iload 15, 2) := by decide +kernel
theorem dL_act_385 : decode cL_act 385 = .ok (.iload 16, 2) := by decide +kernel
theorem dL_act_387 : decode cL_act 387 = .ok (.aload 4, 2) := by decide +kernel
theorem dL_act_389 : decode cL_act 389 = .ok (.aload 8, 2) := by decide +kernel
theorem dL_act_391 : decode cL_act 391 = .ok (.aload 11, 2) := by decide +kernel
theorem dL_act_393 : decode cL_act 393 = .ok (.invokestatic 93, 3) := by decide +kernel
theorem dL_act_396 : decode cL_act 396 = .ok (.istore 17, 2) := by decide +kernel
theorem dL_act_398 : decode cL_act 398 = .ok (.aload 4, 2) := by decide +kernel
theorem dL_act_400 : decode cL_act 400 = .ok (.iconst 4, 1) := by decide +kernel
theorem dL_act_401 : decode cL_act 401 = .ok (.iload 12, 2) := by decide +kernel
theorem dL_act_403 : decode cL_act 403 = .ok (.imul, 1) := by decide +kernel
theorem dL_act_404 : decode cL_act 404 = .ok (.iconst 2, 1) := by decide +kernel
theorem dL_act_405 : decode cL_act 405 = .ok (.iadd, 1) := by decide +kernel
theorem dL_act_406 : decode cL_act 406 = .ok (.iaload, 1) := by decide +kernel
theorem dL_act_407 : decode cL_act 407 = .ok (.istore 18, 2) := by decide +kernel
theorem dL_act_409 : decode cL_act 409 = .ok (.iload 18, 2) := by decide +kernel
theorem dL_act_411 : decode cL_act 411 = .ok (.ifCond .lt 54, 3) := by decide +kernel
theorem dL_act_414 : decode cL_act 414 = .ok (.aload 5, 2) := by decide +kernel
theorem dL_act_416 : decode cL_act 416 = .ok (.iconst 4, 1) := by decide +kernel
theorem dL_act_417 : decode cL_act 417 = .ok (.iload 12, 2) := by decide +kernel
theorem dL_act_419 : decode cL_act 419 = .ok (.imul, 1) := by decide +kernel
theorem dL_act_420 : decode cL_act 420 = .ok (.iaload, 1) := by decide +kernel
theorem dL_act_421 : decode cL_act 421 = .ok (.ifCond .ge 44, 3) := by decide +kernel
theorem dL_act_424 : decode cL_act 424 = .ok (.aload 4, 2) := by decide +kernel
theorem dL_act_426 : decode cL_act 426 = .ok (.iconst 4, 1) := by decide +kernel
theorem dL_act_427 : decode cL_act 427 = .ok (.iload 12, 2) := by decide +kernel
theorem dL_act_429 : decode cL_act 429 = .ok (.imul, 1) := by decide +kernel
theorem dL_act_430 : decode cL_act 430 = .ok (.iconst 3, 1) := by decide +kernel
theorem dL_act_431 : decode cL_act 431 = .ok (.iadd, 1) := by decide +kernel
theorem dL_act_432 : decode cL_act 432 = .ok (.iaload, 1) := by decide +kernel
theorem dL_act_433 : decode cL_act 433 = .ok (.iload 16, 2) := by decide +kernel
theorem dL_act_435 : decode cL_act 435 = .ok (.if_icmp .lt 30, 3) := by decide +kernel
theorem dL_act_438 : decode cL_act 438 = .ok (.aload 7, 2) := by decide +kernel
theorem dL_act_440 : decode cL_act 440 = .ok (.iconst 3, 1) := by decide +kernel
theorem dL_act_441 : decode cL_act 441 = .ok (.iload 18, 2) := by decide +kernel
theorem dL_act_443 : decode cL_act 443 = .ok (.imul, 1) := by decide +kernel
theorem dL_act_444 : decode cL_act 444 = .ok (.iaload, 1) := by decide +kernel
theorem dL_act_445 : decode cL_act 445 = .ok (.iload 17, 2) := by decide +kernel
theorem dL_act_447 : decode cL_act 447 = .ok (.if_icmp .lt 18, 3) := by decide +kernel
theorem dL_act_450 : decode cL_act 450 = .ok (.aload 8, 2) := by decide +kernel
theorem dL_act_452 : decode cL_act 452 = .ok (.bipush 6, 2) := by decide +kernel
theorem dL_act_454 : decode cL_act 454 = .ok (.iload 15, 2) := by decide +kernel
theorem dL_act_456 : decode cL_act 456 = .ok (.imul, 1) := by decide +kernel
theorem dL_act_457 : decode cL_act 457 = .ok (.iconst 5, 1) := by decide +kernel
theorem dL_act_458 : decode cL_act 458 = .ok (.iadd, 1) := by decide +kernel
theorem dL_act_459 : decode cL_act 459 = .ok (.iaload, 1) := by decide +kernel
theorem dL_act_460 : decode cL_act 460 = .ok (.bipush 7, 2) := by decide +kernel
theorem dL_act_462 : decode cL_act 462 = .ok (.if_icmp .le 5, 3) := by decide +kernel
theorem dL_act_465 : decode cL_act 465 = .ok (.iconst 1, 1) := by decide +kernel
theorem dL_act_466 : decode cL_act 466 = .ok (.ireturn, 1) := by decide +kernel
theorem dL_act_467 : decode cL_act 467 = .ok (.aload 7, 2) := by decide +kernel
theorem dL_act_469 : decode cL_act 469 = .ok (.iconst 3, 1) := by decide +kernel
theorem dL_act_470 : decode cL_act 470 = .ok (.iload 18, 2) := by decide +kernel
theorem dL_act_472 : decode cL_act 472 = .ok (.imul, 1) := by decide +kernel
theorem dL_act_473 : decode cL_act 473 = .ok (.dup2, 1) := by decide +kernel
theorem dL_act_474 : decode cL_act 474 = .ok (.iaload, 1) := by decide +kernel
theorem dL_act_475 : decode cL_act 475 = .ok (.iload 17, 2) := by decide +kernel
theorem dL_act_477 : decode cL_act 477 = .ok (.isub, 1) := by decide +kernel
theorem dL_act_478 : decode cL_act 478 = .ok (.iastore, 1) := by decide +kernel
theorem dL_act_479 : decode cL_act 479 = .ok (.aload 8, 2) := by decide +kernel
theorem dL_act_481 : decode cL_act 481 = .ok (.bipush 6, 2) := by decide +kernel
theorem dL_act_483 : decode cL_act 483 = .ok (.iload 15, 2) := by decide +kernel
theorem dL_act_485 : decode cL_act 485 = .ok (.imul, 1) := by decide +kernel
theorem dL_act_486 : decode cL_act 486 = .ok (.dup2, 1) := by decide +kernel
theorem dL_act_487 : decode cL_act 487 = .ok (.iaload, 1) := by decide +kernel
theorem dL_act_488 : decode cL_act 488 = .ok (.iload 17, 2) := by decide +kernel
theorem dL_act_490 : decode cL_act 490 = .ok (.iadd, 1) := by decide +kernel
theorem dL_act_491 : decode cL_act 491 = .ok (.iastore, 1) := by decide +kernel
theorem dL_act_492 : decode cL_act 492 = .ok (.aload 8, 2) := by decide +kernel
theorem dL_act_494 : decode cL_act 494 = .ok (.bipush 6, 2) := by decide +kernel
theorem dL_act_496 : decode cL_act 496 = .ok (.iload 15, 2) := by decide +kernel
theorem dL_act_498 : decode cL_act 498 = .ok (.imul, 1) := by decide +kernel
theorem dL_act_499 : decode cL_act 499 = .ok (.iconst 4, 1) := by decide +kernel
theorem dL_act_500 : decode cL_act 500 = .ok (.iadd, 1) := by decide +kernel
theorem dL_act_501 : decode cL_act 501 = .ok (.dup2, 1) := by decide +kernel
theorem dL_act_502 : decode cL_act 502 = .ok (.iaload, 1) := by decide +kernel
theorem dL_act_503 : decode cL_act 503 = .ok (.iload 17, 2) := by decide +kernel
theorem dL_act_505 : decode cL_act 505 = .ok (.iadd, 1) := by decide +kernel
theorem dL_act_506 : decode cL_act 506 = .ok (.iastore, 1) := by decide +kernel
theorem dL_act_507 : decode cL_act 507 = .ok (.aload 5, 2) := by decide +kernel
theorem dL_act_509 : decode cL_act 509 = .ok (.iconst 4, 1) := by decide +kernel
theorem dL_act_510 : decode cL_act 510 = .ok (.iload 12, 2) := by decide +kernel
theorem dL_act_512 : decode cL_act 512 = .ok (.imul, 1) := by decide +kernel
theorem dL_act_513 : decode cL_act 513 = .ok (.iload 15, 2) := by decide +kernel
theorem dL_act_515 : decode cL_act 515 = .ok (.iastore, 1) := by decide +kernel
theorem dL_act_516 : decode cL_act 516 = .ok (.aload 5, 2) := by decide +kernel
theorem dL_act_518 : decode cL_act 518 = .ok (.iconst 4, 1) := by decide +kernel
theorem dL_act_519 : decode cL_act 519 = .ok (.iload 12, 2) := by decide +kernel
theorem dL_act_521 : decode cL_act 521 = .ok (.imul, 1) := by decide +kernel
theorem dL_act_522 : decode cL_act 522 = .ok (.iconst 1, 1) := by decide +kernel
theorem dL_act_523 : decode cL_act 523 = .ok (.iadd, 1) := by decide +kernel
theorem dL_act_524 : decode cL_act 524 = .ok (.iload 16, 2) := by decide +kernel
theorem dL_act_526 : decode cL_act 526 = .ok (.iastore, 1) := by decide +kernel
theorem dL_act_527 : decode cL_act 527 = .ok (.iload 15, 2) := by decide +kernel
theorem dL_act_529 : decode cL_act 529 = .ok (.aload 7, 2) := by decide +kernel
theorem dL_act_531 : decode cL_act 531 = .ok (.aload 8, 2) := by decide +kernel
theorem dL_act_533 : decode cL_act 533 = .ok (.aload 9, 2) := by decide +kernel
theorem dL_act_535 : decode cL_act 535 = .ok (.invokestatic 8, 3) := by decide +kernel
theorem dL_act_538 : decode cL_act 538 = .ok (.aload_n 0, 1) := by decide +kernel
theorem dL_act_539 : decode cL_act 539 = .ok (.iload 13, 2) := by decide +kernel
theorem dL_act_541 : decode cL_act 541 = .ok (.iload 15, 2) := by decide +kernel
theorem dL_act_543 : decode cL_act 543 = .ok (.iload 16, 2) := by decide +kernel
theorem dL_act_545 : decode cL_act 545 = .ok (.invokevirtual 137, 3) := by decide +kernel
theorem dL_act_548 : decode cL_act 548 = .ok (.iload 17, 2) := by decide +kernel
theorem dL_act_550 : decode cL_act 550 = .ok (.if_icmp .ne 7, 3) := by decide +kernel
theorem dL_act_553 : decode cL_act 553 = .ok (.iconst 1, 1) := by decide +kernel
theorem dL_act_554 : decode cL_act 554 = .ok (.goto 4, 3) := by decide +kernel
theorem dL_act_557 : decode cL_act 557 = .ok (.iconst 0, 1) := by decide +kernel
theorem dL_act_558 : decode cL_act 558 = .ok (.ireturn, 1) := by decide +kernel
theorem dL_act_559 : decode cL_act 559 = .ok (.iload_n 1, 1) := by decide +kernel
theorem dL_act_560 : decode cL_act 560 = .ok (.bipush 8, 2) := by decide +kernel
theorem dL_act_562 : decode cL_act 562 = .ok (.if_icmp .ne 103, 3) := by decide +kernel
theorem dL_act_565 : decode cL_act 565 = .ok (.aload 4, 2) := by decide +kernel
theorem dL_act_567 : decode cL_act 567 = .ok (.iconst 4, 1) := by decide +kernel
theorem dL_act_568 : decode cL_act 568 = .ok (.iload 12, 2) := by decide +kernel
theorem dL_act_570 : decode cL_act 570 = .ok (.imul, 1) := by decide +kernel
theorem dL_act_571 : decode cL_act 571 = .ok (.iconst 2, 1) := by decide +kernel
theorem dL_act_572 : decode cL_act 572 = .ok (.iadd, 1) := by decide +kernel
theorem dL_act_573 : decode cL_act 573 = .ok (.iaload, 1) := by decide +kernel
theorem dL_act_574 : decode cL_act 574 = .ok (.ifCond .ge 16, 3) := by decide +kernel
theorem dL_act_577 : decode cL_act 577 = .ok (.aload 11, 2) := by decide +kernel
theorem dL_act_579 : decode cL_act 579 = .ok (.bipush 12, 2) := by decide +kernel
theorem dL_act_581 : decode cL_act 581 = .ok (.iaload, 1) := by decide +kernel
theorem dL_act_582 : decode cL_act 582 = .ok (.aload 10, 2) := by decide +kernel
theorem dL_act_584 : decode cL_act 584 = .ok (.bipush 7, 2) := by decide +kernel
theorem dL_act_586 : decode cL_act 586 = .ok (.iaload, 1) := by decide +kernel
theorem dL_act_587 : decode cL_act 587 = .ok (.if_icmp .ge 5, 3) := by decide +kernel
theorem dL_act_590 : decode cL_act 590 = .ok (.iconst 1, 1) := by decide +kernel
theorem dL_act_591 : decode cL_act 591 = .ok (.ireturn, 1) := by decide +kernel
theorem dL_act_592 : decode cL_act 592 = .ok (.aload 4, 2) := by decide +kernel
theorem dL_act_594 : decode cL_act 594 = .ok (.iconst 4, 1) := by decide +kernel
theorem dL_act_595 : decode cL_act 595 = .ok (.iload 12, 2) := by decide +kernel
theorem dL_act_597 : decode cL_act 597 = .ok (.imul, 1) := by decide +kernel
theorem dL_act_598 : decode cL_act 598 = .ok (.iconst 1, 1) := by decide +kernel
theorem dL_act_599 : decode cL_act 599 = .ok (.iadd, 1) := by decide +kernel
theorem dL_act_600 : decode cL_act 600 = .ok (.iaload, 1) := by decide +kernel
theorem dL_act_601 : decode cL_act 601 = .ok (.istore 15, 2) := by decide +kernel
theorem dL_act_603 : decode cL_act 603 = .ok (.aload 4, 2) := by decide +kernel
theorem dL_act_605 : decode cL_act 605 = .ok (.iconst 4, 1) := by decide +kernel
theorem dL_act_606 : decode cL_act 606 = .ok (.iload 12, 2) := by decide +kernel
theorem dL_act_608 : decode cL_act 608 = .ok (.imul, 1) := by decide +kernel
theorem dL_act_609 : decode cL_act 609 = .ok (.iconst 1, 1) := by decide +kernel
theorem dL_act_610 : decode cL_act 610 = .ok (.iadd, 1) := by decide +kernel
theorem dL_act_611 : decode cL_act 611 = .ok (.bipush 100, 2) := by decide +kernel
theorem dL_act_613 : decode cL_act 613 = .ok (.iastore, 1) := by decide +kernel
theorem dL_act_614 : decode cL_act 614 = .ok (.aload 4, 2) := by decide +kernel
theorem dL_act_616 : decode cL_act 616 = .ok (.iconst 4, 1) := by decide +kernel
theorem dL_act_617 : decode cL_act 617 = .ok (.iload 12, 2) := by decide +kernel
theorem dL_act_619 : decode cL_act 619 = .ok (.imul, 1) := by decide +kernel
theorem dL_act_620 : decode cL_act 620 = .ok (.iconst 0, 1) := by decide +kernel
theorem dL_act_621 : decode cL_act 621 = .ok (.iastore, 1) := by decide +kernel
theorem dL_act_622 : decode cL_act 622 = .ok (.aload 11, 2) := by decide +kernel
theorem dL_act_624 : decode cL_act 624 = .ok (.bipush 12, 2) := by decide +kernel
theorem dL_act_626 : decode cL_act 626 = .ok (.dup2, 1) := by decide +kernel
theorem dL_act_627 : decode cL_act 627 = .ok (.iaload, 1) := by decide +kernel
theorem dL_act_628 : decode cL_act 628 = .ok (.aload 10, 2) := by decide +kernel
theorem dL_act_630 : decode cL_act 630 = .ok (.bipush 7, 2) := by decide +kernel
theorem dL_act_632 : decode cL_act 632 = .ok (.iaload, 1) := by decide +kernel
theorem dL_act_633 : decode cL_act 633 = .ok (.isub, 1) := by decide +kernel
theorem dL_act_634 : decode cL_act 634 = .ok (.iastore, 1) := by decide +kernel
theorem dL_act_635 : decode cL_act 635 = .ok (.aload 11, 2) := by decide +kernel
theorem dL_act_637 : decode cL_act 637 = .ok (.bipush 13, 2) := by decide +kernel
theorem dL_act_639 : decode cL_act 639 = .ok (.dup2, 1) := by decide +kernel
theorem dL_act_640 : decode cL_act 640 = .ok (.iaload, 1) := by decide +kernel
theorem dL_act_641 : decode cL_act 641 = .ok (.aload 10, 2) := by decide +kernel
theorem dL_act_643 : decode cL_act 643 = .ok (.bipush 7, 2) := by decide +kernel
theorem dL_act_645 : decode cL_act 645 = .ok (.iaload, 1) := by decide +kernel
theorem dL_act_646 : decode cL_act 646 = .ok (.iadd, 1) := by decide +kernel
theorem dL_act_647 : decode cL_act 647 = .ok (.iastore, 1) := by decide +kernel
theorem dL_act_648 : decode cL_act 648 = .ok (.aload_n 0, 1) := by decide +kernel
theorem dL_act_649 : decode cL_act 649 = .ok (.iload 13, 2) := by decide +kernel
theorem dL_act_651 : decode cL_act 651 = .ok (.invokevirtual 140, 3) := by decide +kernel
theorem dL_act_654 : decode cL_act 654 = .ok (.iload 15, 2) := by decide +kernel
theorem dL_act_656 : decode cL_act 656 = .ok (.if_icmp .ne 7, 3) := by decide +kernel
theorem dL_act_659 : decode cL_act 659 = .ok (.iconst 1, 1) := by decide +kernel
theorem dL_act_660 : decode cL_act 660 = .ok (.goto 4, 3) := by decide +kernel
theorem dL_act_663 : decode cL_act 663 = .ok (.iconst 0, 1) := by decide +kernel
theorem dL_act_664 : decode cL_act 664 = .ok (.ireturn, 1) := by decide +kernel
theorem dL_act_665 : decode cL_act 665 = .ok (.iload_n 1, 1) := by decide +kernel
theorem dL_act_666 : decode cL_act 666 = .ok (.bipush 15, 2) := by decide +kernel
theorem dL_act_668 : decode cL_act 668 = .ok (.if_icmp .ge 77, 3) := by decide +kernel
theorem dL_act_671 : decode cL_act 671 = .ok (.aload 4, 2) := by decide +kernel
theorem dL_act_673 : decode cL_act 673 = .ok (.iconst 4, 1) := by decide +kernel
theorem dL_act_674 : decode cL_act 674 = .ok (.iload 12, 2) := by decide +kernel
theorem dL_act_676 : decode cL_act 676 = .ok (.imul, 1) := by decide +kernel
theorem dL_act_677 : decode cL_act 677 = .ok (.iconst 2, 1) := by decide +kernel
theorem dL_act_678 : decode cL_act 678 = .ok (.iadd, 1) := by decide +kernel
theorem dL_act_679 : decode cL_act 679 = .ok (.iaload, 1) := by decide +kernel
theorem dL_act_680 : decode cL_act 680 = .ok (.ifCond .lt 59, 3) := by decide +kernel
theorem dL_act_683 : decode cL_act 683 = .ok (.aload_n 0, 1) := by decide +kernel
theorem dL_act_684 : decode cL_act 684 = .ok (.iload 13, 2) := by decide +kernel
theorem dL_act_686 : decode cL_act 686 = .ok (.iload_n 3, 1) := by decide +kernel
theorem dL_act_687 : decode cL_act 687 = .ok (.iconst 3, 1) := by decide +kernel
theorem dL_act_688 : decode cL_act 688 = .ok (.invokestatic 46, 3) := by decide +kernel
theorem dL_act_691 : decode cL_act 691 = .ok (.ifCond .le 7, 3) := by decide +kernel
theorem dL_act_694 : decode cL_act 694 = .ok (.iconst 1, 1) := by decide +kernel
theorem dL_act_695 : decode cL_act 695 = .ok (.goto 4, 3) := by decide +kernel
theorem dL_act_698 : decode cL_act 698 = .ok (.iconst 0, 1) := by decide +kernel
theorem dL_act_699 : decode cL_act 699 = .ok (.invokevirtual 143, 3) := by decide +kernel
theorem dL_act_702 : decode cL_act 702 = .ok (.iload 12, 2) := by decide +kernel
theorem dL_act_704 : decode cL_act 704 = .ok (.iload_n 3, 1) := by decide +kernel
theorem dL_act_705 : decode cL_act 705 = .ok (.iconst 3, 1) := by decide +kernel
theorem dL_act_706 : decode cL_act 706 = .ok (.invokestatic 46, 3) := by decide +kernel
theorem dL_act_709 : decode cL_act 709 = .ok (.ifCond .le 7, 3) := by decide +kernel
theorem dL_act_712 : decode cL_act 712 = .ok (.iconst 1, 1) := by decide +kernel
theorem dL_act_713 : decode cL_act 713 = .ok (.goto 4, 3) := by decide +kernel
theorem dL_act_716 : decode cL_act 716 = .ok (.iconst 0, 1) := by decide +kernel
theorem dL_act_717 : decode cL_act 717 = .ok (.aload 4, 2) := by decide +kernel
theorem dL_act_719 : decode cL_act 719 = .ok (.aload 5, 2) := by decide +kernel
theorem dL_act_721 : decode cL_act 721 = .ok (.aload 6, 2) := by decide +kernel
theorem dL_act_723 : decode cL_act 723 = .ok (.aload 7, 2) := by decide +kernel
theorem dL_act_725 : decode cL_act 725 = .ok (.aload 8, 2) := by decide +kernel
theorem dL_act_727 : decode cL_act 727 = .ok (.aload 9, 2) := by decide +kernel
theorem dL_act_729 : decode cL_act 729 = .ok (.aload 10, 2) := by decide +kernel
theorem dL_act_731 : decode cL_act 731 = .ok (.aload 11, 2) := by decide +kernel
theorem dL_act_733 : decode cL_act 733 = .ok (.invokestatic 121, 3) := by decide +kernel
theorem dL_act_736 : decode cL_act 736 = .ok (.if_icmp .ne 7, 3) := by decide +kernel
theorem dL_act_739 : decode cL_act 739 = .ok (.iconst 1, 1) := by decide +kernel
theorem dL_act_740 : decode cL_act 740 = .ok (.goto 4, 3) := by decide +kernel
theorem dL_act_743 : decode cL_act 743 = .ok (.iconst 0, 1) := by decide +kernel
theorem dL_act_744 : decode cL_act 744 = .ok (.ireturn, 1) := by decide +kernel
theorem dL_act_745 : decode cL_act 745 = .ok (.iload_n 1, 1) := by decide +kernel
theorem dL_act_746 : decode cL_act 746 = .ok (.bipush 18, 2) := by decide +kernel
theorem dL_act_748 : decode cL_act 748 = .ok (.if_icmp .ge 63, 3) := by decide +kernel
theorem dL_act_751 : decode cL_act 751 = .ok (.aload 4, 2) := by decide +kernel
theorem dL_act_753 : decode cL_act 753 = .ok (.iconst 4, 1) := by decide +kernel
theorem dL_act_754 : decode cL_act 754 = .ok (.iload 12, 2) := by decide +kernel
theorem dL_act_756 : decode cL_act 756 = .ok (.imul, 1) := by decide +kernel
theorem dL_act_757 : decode cL_act 757 = .ok (.iconst 2, 1) := by decide +kernel
theorem dL_act_758 : decode cL_act 758 = .ok (.iadd, 1) := by decide +kernel
theorem dL_act_759 : decode cL_act 759 = .ok (.iaload, 1) := by decide +kernel
theorem dL_act_760 : decode cL_act 760 = .ok (.ifCond .lt 45, 3) := by decide +kernel
theorem dL_act_763 : decode cL_act 763 = .ok (.aload 5, 2) := by decide +kernel
theorem dL_act_765 : decode cL_act 765 = .ok (.iconst 4, 1) := by decide +kernel
theorem dL_act_766 : decode cL_act 766 = .ok (.iload 12, 2) := by decide +kernel
theorem dL_act_768 : decode cL_act 768 = .ok (.imul, 1) := by decide +kernel
theorem dL_act_769 : decode cL_act 769 = .ok (.iconst 2, 1) := by decide +kernel
theorem dL_act_770 : decode cL_act 770 = .ok (.iadd, 1) := by decide +kernel
theorem dL_act_771 : decode cL_act 771 = .ok (.iaload, 1) := by decide +kernel
theorem dL_act_772 : decode cL_act 772 = .ok (.ifCond .ge 33, 3) := by decide +kernel
theorem dL_act_775 : decode cL_act 775 = .ok (.aload_n 0, 1) := by decide +kernel
theorem dL_act_776 : decode cL_act 776 = .ok (.iload 13, 2) := by decide +kernel
theorem dL_act_778 : decode cL_act 778 = .ok (.invokevirtual 146, 3) := by decide +kernel
theorem dL_act_781 : decode cL_act 781 = .ok (.iload 12, 2) := by decide +kernel
theorem dL_act_783 : decode cL_act 783 = .ok (.aload 4, 2) := by decide +kernel
theorem dL_act_785 : decode cL_act 785 = .ok (.aload 5, 2) := by decide +kernel
theorem dL_act_787 : decode cL_act 787 = .ok (.aload 6, 2) := by decide +kernel
theorem dL_act_789 : decode cL_act 789 = .ok (.aload 7, 2) := by decide +kernel
theorem dL_act_791 : decode cL_act 791 = .ok (.aload 8, 2) := by decide +kernel
theorem dL_act_793 : decode cL_act 793 = .ok (.aload 9, 2) := by decide +kernel
theorem dL_act_795 : decode cL_act 795 = .ok (.aload 10, 2) := by decide +kernel
theorem dL_act_797 : decode cL_act 797 = .ok (.aload 11, 2) := by decide +kernel
theorem dL_act_799 : decode cL_act 799 = .ok (.invokestatic 117, 3) := by decide +kernel
theorem dL_act_802 : decode cL_act 802 = .ok (.if_icmp .ne 7, 3) := by decide +kernel
theorem dL_act_805 : decode cL_act 805 = .ok (.iconst 1, 1) := by decide +kernel
theorem dL_act_806 : decode cL_act 806 = .ok (.goto 4, 3) := by decide +kernel
theorem dL_act_809 : decode cL_act 809 = .ok (.iconst 0, 1) := by decide +kernel
theorem dL_act_810 : decode cL_act 810 = .ok (.ireturn, 1) := by decide +kernel
theorem dL_act_811 : decode cL_act 811 = .ok (.iload_n 1, 1) := by decide +kernel
theorem dL_act_812 : decode cL_act 812 = .ok (.bipush 20, 2) := by decide +kernel
theorem dL_act_814 : decode cL_act 814 = .ok (.if_icmp .ge 44, 3) := by decide +kernel
theorem dL_act_817 : decode cL_act 817 = .ok (.iconst 0, 1) := by decide +kernel
theorem dL_act_818 : decode cL_act 818 = .ok (.aload 5, 2) := by decide +kernel
theorem dL_act_820 : decode cL_act 820 = .ok (.invokestatic 26, 3) := by decide +kernel
theorem dL_act_823 : decode cL_act 823 = .ok (.ifCond .lt 29, 3) := by decide +kernel
theorem dL_act_826 : decode cL_act 826 = .ok (.aload_n 0, 1) := by decide +kernel
theorem dL_act_827 : decode cL_act 827 = .ok (.invokevirtual 148, 3) := by decide +kernel
theorem dL_act_830 : decode cL_act 830 = .ok (.aload 4, 2) := by decide +kernel
theorem dL_act_832 : decode cL_act 832 = .ok (.aload 5, 2) := by decide +kernel
theorem dL_act_834 : decode cL_act 834 = .ok (.aload 6, 2) := by decide +kernel
theorem dL_act_836 : decode cL_act 836 = .ok (.aload 7, 2) := by decide +kernel
theorem dL_act_838 : decode cL_act 838 = .ok (.aload 8, 2) := by decide +kernel
theorem dL_act_840 : decode cL_act 840 = .ok (.aload 9, 2) := by decide +kernel
theorem dL_act_842 : decode cL_act 842 = .ok (.aload 10, 2) := by decide +kernel
theorem dL_act_844 : decode cL_act 844 = .ok (.aload 11, 2) := by decide +kernel
theorem dL_act_846 : decode cL_act 846 = .ok (.invokestatic 82, 3) := by decide +kernel
theorem dL_act_849 : decode cL_act 849 = .ok (.if_icmp .ne 7, 3) := by decide +kernel
theorem dL_act_852 : decode cL_act 852 = .ok (.iconst 1, 1) := by decide +kernel
theorem dL_act_853 : decode cL_act 853 = .ok (.goto 4, 3) := by decide +kernel
theorem dL_act_856 : decode cL_act 856 = .ok (.iconst 0, 1) := by decide +kernel
theorem dL_act_857 : decode cL_act 857 = .ok (.ireturn, 1) := by decide +kernel
theorem dL_act_858 : decode cL_act 858 = .ok (.iload_n 1, 1) := by decide +kernel
theorem dL_act_859 : decode cL_act 859 = .ok (.bipush 22, 2) := by decide +kernel
theorem dL_act_861 : decode cL_act 861 = .ok (.if_icmp .ge 67, 3) := by decide +kernel
theorem dL_act_864 : decode cL_act 864 = .ok (.iconst 1, 1) := by decide +kernel
theorem dL_act_865 : decode cL_act 865 = .ok (.iload_n 3, 1) := by decide +kernel
theorem dL_act_866 : decode cL_act 866 = .ok (.bipush 9, 2) := by decide +kernel
theorem dL_act_868 : decode cL_act 868 = .ok (.invokestatic 46, 3) := by decide +kernel
theorem dL_act_871 : decode cL_act 871 = .ok (.iadd, 1) := by decide +kernel
theorem dL_act_872 : decode cL_act 872 = .ok (.istore 15, 2) := by decide +kernel
theorem dL_act_874 : decode cL_act 874 = .ok (.iconst 0, 1) := by decide +kernel
theorem dL_act_875 : decode cL_act 875 = .ok (.istore 16, 2) := by decide +kernel
theorem dL_act_877 : decode cL_act 877 = .ok (.iload 16, 2) := by decide +kernel
theorem dL_act_879 : decode cL_act 879 = .ok (.iload 15, 2) := by decide +kernel
theorem dL_act_881 : decode cL_act 881 = .ok (.if_icmp .ge 28, 3) := by decide +kernel
theorem dL_act_884 : decode cL_act 884 = .ok (.aload 4, 2) := by decide +kernel
theorem dL_act_886 : decode cL_act 886 = .ok (.aload 5, 2) := by decide +kernel
theorem dL_act_888 : decode cL_act 888 = .ok (.aload 6, 2) := by decide +kernel
theorem dL_act_890 : decode cL_act 890 = .ok (.aload 7, 2) := by decide +kernel
theorem dL_act_892 : decode cL_act 892 = .ok (.aload 8, 2) := by decide +kernel
theorem dL_act_894 : decode cL_act 894 = .ok (.aload 9, 2) := by decide +kernel
theorem dL_act_896 : decode cL_act 896 = .ok (.aload 10, 2) := by decide +kernel
theorem dL_act_898 : decode cL_act 898 = .ok (.aload 11, 2) := by decide +kernel
theorem dL_act_900 : decode cL_act 900 = .ok (.invokestatic 86, 3) := by decide +kernel
theorem dL_act_903 : decode cL_act 903 = .ok (.iinc 16 1, 3) := by decide +kernel
theorem dL_act_906 : decode cL_act 906 = .ok (.goto (-29), 3) := by decide +kernel
theorem dL_act_909 : decode cL_act 909 = .ok (.aload_n 0, 1) := by decide +kernel
theorem dL_act_910 : decode cL_act 910 = .ok (.iload 15, 2) := by decide +kernel
theorem dL_act_912 : decode cL_act 912 = .ok (.invokevirtual 151, 3) := by decide +kernel
theorem dL_act_915 : decode cL_act 915 = .ok (.aload 11, 2) := by decide +kernel
theorem dL_act_917 : decode cL_act 917 = .ok (.iconst 1, 1) := by decide +kernel
theorem dL_act_918 : decode cL_act 918 = .ok (.iaload, 1) := by decide +kernel
theorem dL_act_919 : decode cL_act 919 = .ok (.if_icmp .ne 7, 3) := by decide +kernel
theorem dL_act_922 : decode cL_act 922 = .ok (.iconst 1, 1) := by decide +kernel
theorem dL_act_923 : decode cL_act 923 = .ok (.goto 4, 3) := by decide +kernel
theorem dL_act_926 : decode cL_act 926 = .ok (.iconst 0, 1) := by decide +kernel
theorem dL_act_927 : decode cL_act 927 = .ok (.ireturn, 1) := by decide +kernel
theorem dL_act_928 : decode cL_act 928 = .ok (.iload_n 1, 1) := by decide +kernel
theorem dL_act_929 : decode cL_act 929 = .ok (.bipush 24, 2) := by decide +kernel
theorem dL_act_931 : decode cL_act 931 = .ok (.if_icmp .ge 28, 3) := by decide +kernel
theorem dL_act_934 : decode cL_act 934 = .ok (.aload_n 0, 1) := by decide +kernel
theorem dL_act_935 : decode cL_act 935 = .ok (.iload 14, 2) := by decide +kernel
theorem dL_act_937 : decode cL_act 937 = .ok (.iload_n 2, 1) := by decide +kernel
theorem dL_act_938 : decode cL_act 938 = .ok (.iload_n 3, 1) := by decide +kernel
theorem dL_act_939 : decode cL_act 939 = .ok (.aload 4, 2) := by decide +kernel
theorem dL_act_941 : decode cL_act 941 = .ok (.aload 5, 2) := by decide +kernel
theorem dL_act_943 : decode cL_act 943 = .ok (.aload 6, 2) := by decide +kernel
theorem dL_act_945 : decode cL_act 945 = .ok (.aload 7, 2) := by decide +kernel
theorem dL_act_947 : decode cL_act 947 = .ok (.aload 8, 2) := by decide +kernel
theorem dL_act_949 : decode cL_act 949 = .ok (.aload 9, 2) := by decide +kernel
theorem dL_act_951 : decode cL_act 951 = .ok (.aload 10, 2) := by decide +kernel
theorem dL_act_953 : decode cL_act 953 = .ok (.aload 11, 2) := by decide +kernel
theorem dL_act_955 : decode cL_act 955 = .ok (.invokestatic 154, 3) := by decide +kernel
theorem dL_act_958 : decode cL_act 958 = .ok (.ireturn, 1) := by decide +kernel
theorem dL_act_959 : decode cL_act 959 = .ok (.iload_n 2, 1) := by decide +kernel
theorem dL_act_960 : decode cL_act 960 = .ok (.bipush 8, 2) := by decide +kernel
theorem dL_act_962 : decode cL_act 962 = .ok (.invokestatic 46, 3) := by decide +kernel
theorem dL_act_965 : decode cL_act 965 = .ok (.istore 15, 2) := by decide +kernel
theorem dL_act_967 : decode cL_act 967 = .ok (.aload 10, 2) := by decide +kernel
theorem dL_act_969 : decode cL_act 969 = .ok (.iload 15, 2) := by decide +kernel
theorem dL_act_971 : decode cL_act 971 = .ok (.iaload, 1) := by decide +kernel
theorem dL_act_972 : decode cL_act 972 = .ok (.istore 16, 2) := by decide +kernel
theorem dL_act_974 : decode cL_act 974 = .ok (.aload 10, 2) := by decide +kernel
theorem dL_act_976 : decode cL_act 976 = .ok (.iload 15, 2) := by decide +kernel
theorem dL_act_978 : decode cL_act 978 = .ok (.iload 15, 2) := by decide +kernel
theorem dL_act_980 : decode cL_act 980 = .ok (.iconst 3, 1) := by decide +kernel
theorem dL_act_981 : decode cL_act 981 = .ok (.if_icmp .ge 12, 3) := by decide +kernel
theorem dL_act_984 : decode cL_act 984 = .ok (.iload_n 3, 1) := by decide +kernel
theorem dL_act_985 : decode cL_act 985 = .ok (.bipush 21, 2) := by decide +kernel
theorem dL_act_987 : decode cL_act 987 = .ok (.invokestatic 46, 3) := by decide +kernel
theorem dL_act_990 : decode cL_act 990 = .ok (.goto 61, 3) := by decide +kernel
theorem dL_act_993 : decode cL_act 993 = .ok (.iload 15, 2) := by decide +kernel
theorem dL_act_995 : decode cL_act 995 = .ok (.iconst 3, 1) := by decide +kernel
theorem dL_act_996 : decode cL_act 996 = .ok (.if_icmp .ne 12, 3) := by decide +kernel
theorem dL_act_999 : decode cL_act 999 = .ok (.iload_n 3, 1) := by decide +kernel
theorem dL_act_1000 : decode cL_act 1000 = .ok (.bipush 9, 2) := by decide +kernel
theorem dL_act_1002 : decode cL_act 1002 = .ok (.invokestatic 46, 3) := by decide +kernel
theorem dL_act_1005 : decode cL_act 1005 = .ok (.goto 46, 3) := by decide +kernel
theorem dL_act_1008 : decode cL_act 1008 = .ok (.iload 15, 2) := by decide +kernel
theorem dL_act_1010 : decode cL_act 1010 = .ok (.iconst 4, 1) := by decide +kernel
theorem dL_act_1011 : decode cL_act 1011 = .ok (.if_icmp .eq 9, 3) := by decide +kernel
theorem dL_act_1014 : decode cL_act 1014 = .ok (.iload 15, 2) := by decide +kernel
theorem dL_act_1016 : decode cL_act 1016 = .ok (.iconst 5, 1) := by decide +kernel
theorem dL_act_1017 : decode cL_act 1017 = .ok (.if_icmp .ne 12, 3) := by decide +kernel
theorem dL_act_1020 : decode cL_act 1020 = .ok (.iload_n 3, 1) := by decide +kernel
theorem dL_act_1021 : decode cL_act 1021 = .ok (.bipush 101, 2) := by decide +kernel
theorem dL_act_1023 : decode cL_act 1023 = .ok (.invokestatic 46, 3) := by decide +kernel
theorem dL_act_1026 : decode cL_act 1026 = .ok (.goto 25, 3) := by decide +kernel
theorem dL_act_1029 : decode cL_act 1029 = .ok (.iload 15, 2) := by decide +kernel
theorem dL_act_1031 : decode cL_act 1031 = .ok (.bipush 6, 2) := by decide +kernel
theorem dL_act_1033 : decode cL_act 1033 = .ok (.if_icmp .ne 12, 3) := by decide +kernel
theorem dL_act_1036 : decode cL_act 1036 = .ok (.iload_n 3, 1) := by decide +kernel
theorem dL_act_1037 : decode cL_act 1037 = .ok (.bipush 11, 2) := by decide +kernel
theorem dL_act_1039 : decode cL_act 1039 = .ok (.invokestatic 46, 3) := by decide +kernel
theorem dL_act_1042 : decode cL_act 1042 = .ok (.goto 9, 3) := by decide +kernel
theorem dL_act_1045 : decode cL_act 1045 = .ok (.iload_n 3, 1) := by decide +kernel
theorem dL_act_1046 : decode cL_act 1046 = .ok (.bipush 51, 2) := by decide +kernel
theorem dL_act_1048 : decode cL_act 1048 = .ok (.invokestatic 46, 3) := by decide +kernel
theorem dL_act_1051 : decode cL_act 1051 = .ok (.iastore, 1) := by decide +kernel
theorem dL_act_1052 : decode cL_act 1052 = .ok (.aload_n 0, 1) := by decide +kernel
theorem dL_act_1053 : decode cL_act 1053 = .ok (.iload 15, 2) := by decide +kernel
theorem dL_act_1055 : decode cL_act 1055 = .ok (.aload 10, 2) := by decide +kernel
theorem dL_act_1057 : decode cL_act 1057 = .ok (.iload 15, 2) := by decide +kernel
theorem dL_act_1059 : decode cL_act 1059 = .ok (.iaload, 1) := by decide +kernel
theorem dL_act_1060 : decode cL_act 1060 = .ok (.invokevirtual 158, 3) := by decide +kernel
theorem dL_act_1063 : decode cL_act 1063 = .ok (.iload 16, 2) := by decide +kernel
theorem dL_act_1065 : decode cL_act 1065 = .ok (.if_icmp .ne 7, 3) := by decide +kernel
theorem dL_act_1068 : decode cL_act 1068 = .ok (.iconst 1, 1) := by decide +kernel
theorem dL_act_1069 : decode cL_act 1069 = .ok (.goto 4, 3) := by decide +kernel
theorem dL_act_1072 : decode cL_act 1072 = .ok (.iconst 0, 1) := by decide +kernel
theorem dL_act_1073 : decode cL_act 1073 = .ok (.ireturn, 1) := by decide +kernel
theorem dL_law_0 : decode cL_law 0 = .ok (.new 35, 3) := by decide +kernel
theorem dL_law_3 : decode cL_law 3 = .ok (.dup, 1) := by decide +kernel
theorem dL_law_4 : decode cL_law 4 = .ok (.invokespecial 161, 3) := by decide +kernel
theorem dL_law_7 : decode cL_law 7 = .ok (.astore_n 1, 1) := by decide +kernel
theorem dL_law_8 : decode cL_law 8 = .ok (.bipush 64, 2) := by decide +kernel
theorem dL_law_10 : decode cL_law 10 = .ok (.newarray .int, 2) := by decide +kernel
theorem dL_law_12 : decode cL_law 12 = .ok (.astore_n 2, 1) := by decide +kernel
theorem dL_law_13 : decode cL_law 13 = .ok (.bipush 64, 2) := by decide +kernel
theorem dL_law_15 : decode cL_law 15 = .ok (.newarray .int, 2) := by decide +kernel
theorem dL_law_17 : decode cL_law 17 = .ok (.astore_n 3, 1) := by decide +kernel
theorem dL_law_18 : decode cL_law 18 = .ok (.bipush 16, 2) := by decide +kernel
theorem dL_law_20 : decode cL_law 20 = .ok (.newarray .int, 2) := by decide +kernel
theorem dL_law_22 : decode cL_law 22 = .ok (.astore 4, 2) := by decide +kernel
theorem dL_law_24 : decode cL_law 24 = .ok (.bipush 9, 2) := by decide +kernel
theorem dL_law_26 : decode cL_law 26 = .ok (.newarray .int, 2) := by decide +kernel
theorem dL_law_28 : decode cL_law 28 = .ok (.astore 5, 2) := by decide +kernel
theorem dL_law_30 : decode cL_law 30 = .ok (.bipush 12, 2) := by decide +kernel
theorem dL_law_32 : decode cL_law 32 = .ok (.newarray .int, 2) := by decide +kernel
theorem dL_law_34 : decode cL_law 34 = .ok (.astore 6, 2) := by decide +kernel
theorem dL_law_36 : decode cL_law 36 = .ok (.bipush 48, 2) := by decide +kernel
theorem dL_law_38 : decode cL_law 38 = .ok (.newarray .int, 2) := by decide +kernel
theorem dL_law_40 : decode cL_law 40 = .ok (.astore 7, 2) := by decide +kernel
theorem dL_law_42 : decode cL_law 42 = .ok (.bipush 8, 2) := by decide +kernel
theorem dL_law_44 : decode cL_law 44 = .ok (.newarray .int, 2) := by decide +kernel
theorem dL_law_46 : decode cL_law 46 = .ok (.astore 8, 2) := by decide +kernel
theorem dL_law_48 : decode cL_law 48 = .ok (.bipush 15, 2) := by decide +kernel
theorem dL_law_50 : decode cL_law 50 = .ok (.newarray .int, 2) := by decide +kernel
theorem dL_law_52 : decode cL_law 52 = .ok (.astore 9, 2) := by decide +kernel
theorem dL_law_54 : decode cL_law 54 = .ok (.iconst 0, 1) := by decide +kernel
theorem dL_law_55 : decode cL_law 55 = .ok (.istore 10, 2) := by decide +kernel
theorem dL_law_57 : decode cL_law 57 = .ok (.iload 10, 2) := by decide +kernel
theorem dL_law_59 : decode cL_law 59 = .ok (.bipush 16, 2) := by decide +kernel
theorem dL_law_61 : decode cL_law 61 = .ok (.if_icmp .ge 44, 3) := by decide +kernel
theorem dL_law_64 : decode cL_law 64 = .ok (.aload_n 2, 1) := by decide +kernel
theorem dL_law_65 : decode cL_law 65 = .ok (.iconst 4, 1) := by decide +kernel
theorem dL_law_66 : decode cL_law 66 = .ok (.iload 10, 2) := by decide +kernel
theorem dL_law_68 : decode cL_law 68 = .ok (.imul, 1) := by decide +kernel
theorem dL_law_69 : decode cL_law 69 = .ok (.iconst 1, 1) := by decide +kernel
theorem dL_law_70 : decode cL_law 70 = .ok (.iadd, 1) := by decide +kernel
theorem dL_law_71 : decode cL_law 71 = .ok (.bipush 100, 2) := by decide +kernel
theorem dL_law_73 : decode cL_law 73 = .ok (.iastore, 1) := by decide +kernel
theorem dL_law_74 : decode cL_law 74 = .ok (.aload_n 2, 1) := by decide +kernel
theorem dL_law_75 : decode cL_law 75 = .ok (.iconst 4, 1) := by decide +kernel
theorem dL_law_76 : decode cL_law 76 = .ok (.iload 10, 2) := by decide +kernel
theorem dL_law_78 : decode cL_law 78 = .ok (.imul, 1) := by decide +kernel
theorem dL_law_79 : decode cL_law 79 = .ok (.iconst 2, 1) := by decide +kernel
theorem dL_law_80 : decode cL_law 80 = .ok (.iadd, 1) := by decide +kernel
theorem dL_law_81 : decode cL_law 81 = .ok (.iconst (-1), 1) := by decide +kernel
theorem dL_law_82 : decode cL_law 82 = .ok (.iastore, 1) := by decide +kernel
theorem dL_law_83 : decode cL_law 83 = .ok (.aload_n 3, 1) := by decide +kernel
theorem dL_law_84 : decode cL_law 84 = .ok (.iconst 4, 1) := by decide +kernel
theorem dL_law_85 : decode cL_law 85 = .ok (.iload 10, 2) := by decide +kernel
theorem dL_law_87 : decode cL_law 87 = .ok (.imul, 1) := by decide +kernel
theorem dL_law_88 : decode cL_law 88 = .ok (.iconst (-1), 1) := by decide +kernel
theorem dL_law_89 : decode cL_law 89 = .ok (.iastore, 1) := by decide +kernel
theorem dL_law_90 : decode cL_law 90 = .ok (.aload_n 3, 1) := by decide +kernel
theorem dL_law_91 : decode cL_law 91 = .ok (.iconst 4, 1) := by decide +kernel
theorem dL_law_92 : decode cL_law 92 = .ok (.iload 10, 2) := by decide +kernel
theorem dL_law_94 : decode cL_law 94 = .ok (.imul, 1) := by decide +kernel
theorem dL_law_95 : decode cL_law 95 = .ok (.iconst 2, 1) := by decide +kernel
theorem dL_law_96 : decode cL_law 96 = .ok (.iadd, 1) := by decide +kernel
theorem dL_law_97 : decode cL_law 97 = .ok (.iconst (-1), 1) := by decide +kernel
theorem dL_law_98 : decode cL_law 98 = .ok (.iastore, 1) := by decide +kernel
theorem dL_law_99 : decode cL_law 99 = .ok (.iinc 10 1, 3) := by decide +kernel
theorem dL_law_102 : decode cL_law 102 = .ok (.goto (-45), 3) := by decide +kernel
theorem dL_law_105 : decode cL_law 105 = .ok (.aload 8, 2) := by decide +kernel
theorem dL_law_107 : decode cL_law 107 = .ok (.iconst 0, 1) := by decide +kernel
theorem dL_law_108 : decode cL_law 108 = .ok (.iconst 2, 1) := by decide +kernel
theorem dL_law_109 : decode cL_law 109 = .ok (.iastore, 1) := by decide +kernel
theorem dL_law_110 : decode cL_law 110 = .ok (.aload 8, 2) := by decide +kernel
theorem dL_law_112 : decode cL_law 112 = .ok (.iconst 1, 1) := by decide +kernel
theorem dL_law_113 : decode cL_law 113 = .ok (.iconst 4, 1) := by decide +kernel
theorem dL_law_114 : decode cL_law 114 = .ok (.iastore, 1) := by decide +kernel
theorem dL_law_115 : decode cL_law 115 = .ok (.aload 8, 2) := by decide +kernel
theorem dL_law_117 : decode cL_law 117 = .ok (.iconst 2, 1) := by decide +kernel
theorem dL_law_118 : decode cL_law 118 = .ok (.iconst 3, 1) := by decide +kernel
theorem dL_law_119 : decode cL_law 119 = .ok (.iastore, 1) := by decide +kernel
theorem dL_law_120 : decode cL_law 120 = .ok (.aload 8, 2) := by decide +kernel
theorem dL_law_122 : decode cL_law 122 = .ok (.iconst 3, 1) := by decide +kernel
theorem dL_law_123 : decode cL_law 123 = .ok (.iconst 5, 1) := by decide +kernel
theorem dL_law_124 : decode cL_law 124 = .ok (.iastore, 1) := by decide +kernel
theorem dL_law_125 : decode cL_law 125 = .ok (.aload 8, 2) := by decide +kernel
theorem dL_law_127 : decode cL_law 127 = .ok (.iconst 4, 1) := by decide +kernel
theorem dL_law_128 : decode cL_law 128 = .ok (.bipush 20, 2) := by decide +kernel
theorem dL_law_130 : decode cL_law 130 = .ok (.iastore, 1) := by decide +kernel
theorem dL_law_131 : decode cL_law 131 = .ok (.aload 8, 2) := by decide +kernel
theorem dL_law_133 : decode cL_law 133 = .ok (.iconst 5, 1) := by decide +kernel
theorem dL_law_134 : decode cL_law 134 = .ok (.bipush 60, 2) := by decide +kernel
theorem dL_law_136 : decode cL_law 136 = .ok (.iastore, 1) := by decide +kernel
theorem dL_law_137 : decode cL_law 137 = .ok (.aload 8, 2) := by decide +kernel
theorem dL_law_139 : decode cL_law 139 = .ok (.bipush 6, 2) := by decide +kernel
theorem dL_law_141 : decode cL_law 141 = .ok (.iconst 2, 1) := by decide +kernel
theorem dL_law_142 : decode cL_law 142 = .ok (.iastore, 1) := by decide +kernel
theorem dL_law_143 : decode cL_law 143 = .ok (.aload 8, 2) := by decide +kernel
theorem dL_law_145 : decode cL_law 145 = .ok (.bipush 7, 2) := by decide +kernel
theorem dL_law_147 : decode cL_law 147 = .ok (.bipush 10, 2) := by decide +kernel
theorem dL_law_149 : decode cL_law 149 = .ok (.iastore, 1) := by decide +kernel
theorem dL_law_150 : decode cL_law 150 = .ok (.aload_n 1, 1) := by decide +kernel
theorem dL_law_151 : decode cL_law 151 = .ok (.bipush 7, 2) := by decide +kernel
theorem dL_law_153 : decode cL_law 153 = .ok (.aload_n 2, 1) := by decide +kernel
theorem dL_law_154 : decode cL_law 154 = .ok (.aload_n 3, 1) := by decide +kernel
theorem dL_law_155 : decode cL_law 155 = .ok (.aload 4, 2) := by decide +kernel
theorem dL_law_157 : decode cL_law 157 = .ok (.aload 5, 2) := by decide +kernel
theorem dL_law_159 : decode cL_law 159 = .ok (.aload 6, 2) := by decide +kernel
theorem dL_law_161 : decode cL_law 161 = .ok (.aload 7, 2) := by decide +kernel
theorem dL_law_163 : decode cL_law 163 = .ok (.aload 8, 2) := by decide +kernel
theorem dL_law_165 : decode cL_law 165 = .ok (.aload 9, 2) := by decide +kernel
theorem dL_law_167 : decode cL_law 167 = .ok (.invokestatic 162, 3) := by decide +kernel
theorem dL_law_170 : decode cL_law 170 = .ok (.ifCond .ne 5, 3) := by decide +kernel
theorem dL_law_173 : decode cL_law 173 = .ok (.iconst 0, 1) := by decide +kernel
theorem dL_law_174 : decode cL_law 174 = .ok (.ireturn, 1) := by decide +kernel
theorem dL_law_175 : decode cL_law 175 = .ok (.aload_n 1, 1) := by decide +kernel
theorem dL_law_176 : decode cL_law 176 = .ok (.iconst 5, 1) := by decide +kernel
theorem dL_law_177 : decode cL_law 177 = .ok (.bipush 100, 2) := by decide +kernel
theorem dL_law_179 : decode cL_law 179 = .ok (.invokevirtual 158, 3) := by decide +kernel
theorem dL_law_182 : decode cL_law 182 = .ok (.bipush 60, 2) := by decide +kernel
theorem dL_law_184 : decode cL_law 184 = .ok (.if_icmp .eq 5, 3) := by decide +kernel
theorem dL_law_187 : decode cL_law 187 = .ok (.iconst 0, 1) := by decide +kernel
theorem dL_law_188 : decode cL_law 188 = .ok (.ireturn, 1) := by decide +kernel
theorem dL_law_189 : decode cL_law 189 = .ok (.aload 8, 2) := by decide +kernel
theorem dL_law_191 : decode cL_law 191 = .ok (.iconst 5, 1) := by decide +kernel
theorem dL_law_192 : decode cL_law 192 = .ok (.bipush 100, 2) := by decide +kernel
theorem dL_law_194 : decode cL_law 194 = .ok (.iastore, 1) := by decide +kernel
theorem dL_law_195 : decode cL_law 195 = .ok (.iconst 0, 1) := by decide +kernel
theorem dL_law_196 : decode cL_law 196 = .ok (.istore 10, 2) := by decide +kernel
theorem dL_law_198 : decode cL_law 198 = .ok (.iload 10, 2) := by decide +kernel
theorem dL_law_200 : decode cL_law 200 = .ok (.bipush 44, 2) := by decide +kernel
theorem dL_law_202 : decode cL_law 202 = .ok (.if_icmp .ge 181, 3) := by decide +kernel
theorem dL_law_205 : decode cL_law 205 = .ok (.aload_n 0, 1) := by decide +kernel
theorem dL_law_206 : decode cL_law 206 = .ok (.iconst 2, 1) := by decide +kernel
theorem dL_law_207 : decode cL_law 207 = .ok (.iload 10, 2) := by decide +kernel
theorem dL_law_209 : decode cL_law 209 = .ok (.imul, 1) := by decide +kernel
theorem dL_law_210 : decode cL_law 210 = .ok (.invokestatic 166, 3) := by decide +kernel
theorem dL_law_213 : decode cL_law 213 = .ok (.ldc 170, 2) := by decide +kernel
theorem dL_law_215 : decode cL_law 215 = .ok (.iand, 1) := by decide +kernel
theorem dL_law_216 : decode cL_law 216 = .ok (.istore 11, 2) := by decide +kernel
theorem dL_law_218 : decode cL_law 218 = .ok (.aload_n 0, 1) := by decide +kernel
theorem dL_law_219 : decode cL_law 219 = .ok (.iconst 2, 1) := by decide +kernel
theorem dL_law_220 : decode cL_law 220 = .ok (.iload 10, 2) := by decide +kernel
theorem dL_law_222 : decode cL_law 222 = .ok (.imul, 1) := by decide +kernel
theorem dL_law_223 : decode cL_law 223 = .ok (.iconst 1, 1) := by decide +kernel
theorem dL_law_224 : decode cL_law 224 = .ok (.iadd, 1) := by decide +kernel
theorem dL_law_225 : decode cL_law 225 = .ok (.invokestatic 166, 3) := by decide +kernel
theorem dL_law_228 : decode cL_law 228 = .ok (.ldc 170, 2) := by decide +kernel
theorem dL_law_230 : decode cL_law 230 = .ok (.iand, 1) := by decide +kernel
theorem dL_law_231 : decode cL_law 231 = .ok (.istore 12, 2) := by decide +kernel
theorem dL_law_233 : decode cL_law 233 = .ok (.iload 10, 2) := by decide +kernel
theorem dL_law_235 : decode cL_law 235 = .ok (.iconst 2, 1) := by decide +kernel
theorem dL_law_236 : decode cL_law 236 = .ok (.if_icmp .ge 7, 3) := by decide +kernel
theorem dL_law_239 : decode cL_law 239 = .ok (.iconst 0, 1) := by decide +kernel
theorem dL_law_240 : decode cL_law 240 = .ok (.goto 46, 3) := by decide +kernel
theorem dL_law_243 : decode cL_law 243 = .ok (.iload 10, 2) := by decide +kernel
theorem dL_law_245 : decode cL_law 245 = .ok (.iconst 4, 1) := by decide +kernel
theorem dL_law_246 : decode cL_law 246 = .ok (.if_icmp .ge 7, 3) := by decide +kernel
theorem dL_law_249 : decode cL_law 249 = .ok (.iconst 1, 1) := by decide +kernel
theorem dL_law_250 : decode cL_law 250 = .ok (.goto 36, 3) := by decide +kernel
theorem dL_law_253 : decode cL_law 253 = .ok (.iload 10, 2) := by decide +kernel
theorem dL_law_255 : decode cL_law 255 = .ok (.bipush 9, 2) := by decide +kernel
theorem dL_law_257 : decode cL_law 257 = .ok (.if_icmp .ge 7, 3) := by decide +kernel
theorem dL_law_260 : decode cL_law 260 = .ok (.iconst 3, 1) := by decide +kernel
theorem dL_law_261 : decode cL_law 261 = .ok (.goto 25, 3) := by decide +kernel
theorem dL_law_264 : decode cL_law 264 = .ok (.iload 10, 2) := by decide +kernel
theorem dL_law_266 : decode cL_law 266 = .ok (.bipush 11, 2) := by decide +kernel
theorem dL_law_268 : decode cL_law 268 = .ok (.if_icmp .ge 8, 3) := by decide +kernel
theorem dL_law_271 : decode cL_law 271 = .ok (.bipush 6, 2) := by decide +kernel
theorem dL_law_273 : decode cL_law 273 = .ok (.goto 13, 3) := by decide +kernel
theorem dL_law_276 : decode cL_law 276 = .ok (.iload 11, 2) := by decide +kernel
theorem dL_law_278 : decode cL_law 278 = .ok (.bipush 13, 2) := by decide +kernel
theorem dL_law_280 : decode cL_law 280 = .ok (.ishr, 1) := by decide +kernel
theorem dL_law_281 : decode cL_law 281 = .ok (.bipush 25, 2) := by decide +kernel
theorem dL_law_283 : decode cL_law 283 = .ok (.invokestatic 46, 3) := by decide +kernel
theorem dL_law_286 : decode cL_law 286 = .ok (.istore 13, 2) := by decide +kernel
theorem dL_law_288 : decode cL_law 288 = .ok (.aload_n 1, 1) := by decide +kernel
theorem dL_law_289 : decode cL_law 289 = .ok (.iload 13, 2) := by decide +kernel
theorem dL_law_291 : decode cL_law 291 = .ok (.iload 11, 2) := by decide +kernel
theorem dL_law_293 : decode cL_law 293 = .ok (.iload 12, 2) := by decide +kernel
theorem dL_law_295 : decode cL_law 295 = .ok (.aload_n 2, 1) := by decide +kernel
theorem dL_law_296 : decode cL_law 296 = .ok (.aload_n 3, 1) := by decide +kernel
theorem dL_law_297 : decode cL_law 297 = .ok (.aload 4, 2) := by decide +kernel
theorem dL_law_299 : decode cL_law 299 = .ok (.aload 5, 2) := by decide +kernel
theorem dL_law_301 : decode cL_law 301 = .ok (.aload 6, 2) := by decide +kernel
theorem dL_law_303 : decode cL_law 303 = .ok (.aload 7, 2) := by decide +kernel
theorem dL_law_305 : decode cL_law 305 = .ok (.aload 8, 2) := by decide +kernel
theorem dL_law_307 : decode cL_law 307 = .ok (.aload 9, 2) := by decide +kernel
theorem dL_law_309 : decode cL_law 309 = .ok (.invokestatic 171, 3) := by decide +kernel
theorem dL_law_312 : decode cL_law 312 = .ok (.ifCond .eq 28, 3) := by decide +kernel
theorem dL_law_315 : decode cL_law 315 = .ok (.aload_n 1, 1) := by decide +kernel
theorem dL_law_316 : decode cL_law 316 = .ok (.iload 12, 2) := by decide +kernel
theorem dL_law_318 : decode cL_law 318 = .ok (.iconst 3, 1) := by decide +kernel
theorem dL_law_319 : decode cL_law 319 = .ok (.ishr, 1) := by decide +kernel
theorem dL_law_320 : decode cL_law 320 = .ok (.aload_n 2, 1) := by decide +kernel
theorem dL_law_321 : decode cL_law 321 = .ok (.aload_n 3, 1) := by decide +kernel
theorem dL_law_322 : decode cL_law 322 = .ok (.aload 4, 2) := by decide +kernel
theorem dL_law_324 : decode cL_law 324 = .ok (.aload 5, 2) := by decide +kernel
theorem dL_law_326 : decode cL_law 326 = .ok (.aload 6, 2) := by decide +kernel
theorem dL_law_328 : decode cL_law 328 = .ok (.aload 7, 2) := by decide +kernel
theorem dL_law_330 : decode cL_law 330 = .ok (.aload 8, 2) := by decide +kernel
theorem dL_law_332 : decode cL_law 332 = .ok (.aload 9, 2) := by decide +kernel
theorem dL_law_334 : decode cL_law 334 = .ok (.invokestatic 162, 3) := by decide +kernel
theorem dL_law_337 : decode cL_law 337 = .ok (.ifCond .ne 5, 3) := by decide +kernel
theorem dL_law_340 : decode cL_law 340 = .ok (.iconst 0, 1) := by decide +kernel
theorem dL_law_341 : decode cL_law 341 = .ok (.ireturn, 1) := by decide +kernel
theorem dL_law_342 : decode cL_law 342 = .ok (.iload 10, 2) := by decide +kernel
theorem dL_law_344 : decode cL_law 344 = .ok (.iconst 5, 1) := by decide +kernel
theorem dL_law_345 : decode cL_law 345 = .ok (.irem, 1) := by decide +kernel
theorem dL_law_346 : decode cL_law 346 = .ok (.iconst 4, 1) := by decide +kernel
theorem dL_law_347 : decode cL_law 347 = .ok (.if_icmp .ne 30, 3) := by decide +kernel
theorem dL_law_350 : decode cL_law 350 = .ok (.aload_n 1, 1) := by decide +kernel
theorem dL_law_351 : decode cL_law 351 = .ok (.iload 12, 2) := by decide +kernel
theorem dL_law_353 : decode cL_law 353 = .ok (.iconst 2, 1) := by decide +kernel
theorem dL_law_354 : decode cL_law 354 = .ok (.ishr, 1) := by decide +kernel
theorem dL_law_355 : decode cL_law 355 = .ok (.aload_n 2, 1) := by decide +kernel
theorem dL_law_356 : decode cL_law 356 = .ok (.aload_n 3, 1) := by decide +kernel
theorem dL_law_357 : decode cL_law 357 = .ok (.aload 4, 2) := by decide +kernel
theorem dL_law_359 : decode cL_law 359 = .ok (.aload 5, 2) := by decide +kernel
theorem dL_law_361 : decode cL_law 361 = .ok (.aload 6, 2) := by decide +kernel
theorem dL_law_363 : decode cL_law 363 = .ok (.aload 7, 2) := by decide +kernel
theorem dL_law_365 : decode cL_law 365 = .ok (.aload 8, 2) := by decide +kernel
theorem dL_law_367 : decode cL_law 367 = .ok (.aload 9, 2) := by decide +kernel
theorem dL_law_369 : decode cL_law 369 = .ok (.invokestatic 174, 3) := by decide +kernel
theorem dL_law_372 : decode cL_law 372 = .ok (.ifCond .ne 5, 3) := by decide +kernel
theorem dL_law_375 : decode cL_law 375 = .ok (.iconst 0, 1) := by decide +kernel
theorem dL_law_376 : decode cL_law 376 = .ok (.ireturn, 1) := by decide +kernel
theorem dL_law_377 : decode cL_law 377 = .ok (.iinc 10 1, 3) := by decide +kernel
theorem dL_law_380 : decode cL_law 380 = .ok (.goto (-182), 3) := by decide +kernel
theorem dL_law_383 : decode cL_law 383 = .ok (.aload_n 1, 1) := by decide +kernel
theorem dL_law_384 : decode cL_law 384 = .ok (.bipush 18, 2) := by decide +kernel
theorem dL_law_386 : decode cL_law 386 = .ok (.invokevirtual 69, 3) := by decide +kernel
theorem dL_law_389 : decode cL_law 389 = .ok (.ifCond .le 7, 3) := by decide +kernel
theorem dL_law_392 : decode cL_law 392 = .ok (.iconst 1, 1) := by decide +kernel
theorem dL_law_393 : decode cL_law 393 = .ok (.goto 4, 3) := by decide +kernel
theorem dL_law_396 : decode cL_law 396 = .ok (.iconst 0, 1) := by decide +kernel
theorem dL_law_397 : decode cL_law 397 = .ok (.ireturn, 1) := by decide +kernel
