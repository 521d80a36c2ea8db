theorem dL_fits_664 : decode cL_fits 664 = .ok (.iload 9, 2) := by decide +kernel
theorem dL_fits_666 : decode cL_fits 666 = .ok (.iconst 1, 1) := by decide +kernel
theorem dL_fits_667 : decode cL_fits 667 = .ok (.if_icmp .eq 7, 3) := by decide +kernel
theorem dL_fits_670 : decode cL_fits 670 = .ok (.iconst 1, 1) := by decide +kernel
theorem dL_fits_671 : decode cL_fits 671 = .ok (.goto 4, 3) := by decide +kernel
theorem dL_fits_674 : decode cL_fits 674 = .ok (.iconst 0, 1) := by decide +kernel
theorem dL_fits_675 : decode cL_fits 675 = .ok (.if_icmp .ne 98, 3) := by decide +kernel
theorem dL_fits_678 : decode cL_fits 678 = .ok (.iload 9, 2) := by decide +kernel
theorem dL_fits_680 : decode cL_fits 680 = .ok (.ifCond .ne 36, 3) := by decide +kernel
theorem dL_fits_683 : decode cL_fits 683 = .ok (.aload_n 0, 1) := by decide +kernel
theorem dL_fits_684 : decode cL_fits 684 = .ok (.iload 8, 2) := by decide +kernel
theorem dL_fits_686 : decode cL_fits 686 = .ok (.iconst 1, 1) := by decide +kernel
theorem dL_fits_687 : decode cL_fits 687 = .ok (.invokevirtual 18, 3) := by decide +kernel
theorem dL_fits_690 : decode cL_fits 690 = .ok (.iconst 1, 1) := by decide +kernel
theorem dL_fits_691 : decode cL_fits 691 = .ok (.if_icmp .eq 82, 3) := by decide +kernel
theorem dL_fits_694 : decode cL_fits 694 = .ok (.aload_n 0, 1) := by decide +kernel
theorem dL_fits_695 : decode cL_fits 695 = .ok (.iload 8, 2) := by decide +kernel
theorem dL_fits_697 : decode cL_fits 697 = .ok (.iconst 4, 1) := by decide +kernel
theorem dL_fits_698 : decode cL_fits 698 = .ok (.invokevirtual 18, 3) := by decide +kernel
theorem dL_fits_701 : decode cL_fits 701 = .ok (.ifCond .gt 72, 3) := by decide +kernel
theorem dL_fits_704 : decode cL_fits 704 = .ok (.aload_n 0, 1) := by decide +kernel
theorem dL_fits_705 : decode cL_fits 705 = .ok (.iload 8, 2) := by decide +kernel
theorem dL_fits_707 : decode cL_fits 707 = .ok (.iconst 2, 1) := by decide +kernel
theorem dL_fits_708 : decode cL_fits 708 = .ok (.invokevirtual 18, 3) := by decide +kernel
theorem dL_fits_711 : decode cL_fits 711 = .ok (.bipush (-6), 2) := by decide +kernel
theorem dL_fits_713 : decode cL_fits 713 = .ok (.if_icmp .ne 60, 3) := by decide +kernel
theorem dL_fits_716 : decode cL_fits 716 = .ok (.iload 9, 2) := by decide +kernel
theorem dL_fits_718 : decode cL_fits 718 = .ok (.bipush 9, 2) := by decide +kernel
theorem dL_fits_720 : decode cL_fits 720 = .ok (.if_icmp .le 15, 3) := by decide +kernel
theorem dL_fits_723 : decode cL_fits 723 = .ok (.aload_n 0, 1) := by decide +kernel
theorem dL_fits_724 : decode cL_fits 724 = .ok (.iload 8, 2) := by decide +kernel
theorem dL_fits_726 : decode cL_fits 726 = .ok (.iconst 2, 1) := by decide +kernel
theorem dL_fits_727 : decode cL_fits 727 = .ok (.invokevirtual 18, 3) := by decide +kernel
theorem dL_fits_730 : decode cL_fits 730 = .ok (.bipush (-6), 2) := by decide +kernel
theorem dL_fits_732 : decode cL_fits 732 = .ok (.if_icmp .ne 41, 3) := by decide +kernel
theorem dL_fits_735 : decode cL_fits 735 = .ok (.iload 9, 2) := by decide +kernel
theorem dL_fits_737 : decode cL_fits 737 = .ok (.iconst 5, 1) := by decide +kernel
theorem dL_fits_738 : decode cL_fits 738 = .ok (.if_icmp .eq 10, 3) := by decide +kernel
theorem dL_fits_741 : decode cL_fits 741 = .ok (.iload 9, 2) := by decide +kernel
theorem dL_fits_743 : decode cL_fits 743 = .ok (.bipush 7, 2) := by decide +kernel
theorem dL_fits_745 : decode cL_fits 745 = .ok (.if_icmp .ne 7, 3) := by decide +kernel
theorem dL_fits_748 : decode cL_fits 748 = .ok (.iconst 1, 1) := by decide +kernel
theorem dL_fits_749 : decode cL_fits 749 = .ok (.goto 4, 3) := by decide +kernel
theorem dL_fits_752 : decode cL_fits 752 = .ok (.iconst 0, 1) := by decide +kernel
theorem dL_fits_753 : decode cL_fits 753 = .ok (.aload_n 0, 1) := by decide +kernel
theorem dL_fits_754 : decode cL_fits 754 = .ok (.iload 8, 2) := by decide +kernel
theorem dL_fits_756 : decode cL_fits 756 = .ok (.iconst 2, 1) := by decide +kernel
theorem dL_fits_757 : decode cL_fits 757 = .ok (.invokevirtual 24, 3) := by decide +kernel
theorem dL_fits_760 : decode cL_fits 760 = .ok (.bipush (-6), 2) := by decide +kernel
theorem dL_fits_762 : decode cL_fits 762 = .ok (.if_icmp .ne 7, 3) := by decide +kernel
theorem dL_fits_765 : decode cL_fits 765 = .ok (.iconst 1, 1) := by decide +kernel
theorem dL_fits_766 : decode cL_fits 766 = .ok (.goto 4, 3) := by decide +kernel
theorem dL_fits_769 : decode cL_fits 769 = .ok (.iconst 0, 1) := by decide +kernel
theorem dL_fits_770 : decode cL_fits 770 = .ok (.if_icmp .ne 5, 3) := by decide +kernel
theorem dL_fits_773 : decode cL_fits 773 = .ok (.iconst 0, 1) := by decide +kernel
theorem dL_fits_774 : decode cL_fits 774 = .ok (.ireturn, 1) := by decide +kernel
theorem dL_fits_775 : decode cL_fits 775 = .ok (.iload 9, 2) := by decide +kernel
theorem dL_fits_777 : decode cL_fits 777 = .ok (.iconst 1, 1) := by decide +kernel
theorem dL_fits_778 : decode cL_fits 778 = .ok (.if_icmp .ne 15, 3) := by decide +kernel
theorem dL_fits_781 : decode cL_fits 781 = .ok (.aload 5, 2) := by decide +kernel
theorem dL_fits_783 : decode cL_fits 783 = .ok (.iload 8, 2) := by decide +kernel
theorem dL_fits_785 : decode cL_fits 785 = .ok (.iaload, 1) := by decide +kernel
theorem dL_fits_786 : decode cL_fits 786 = .ok (.ifCond .ne 7, 3) := by decide +kernel
theorem dL_fits_789 : decode cL_fits 789 = .ok (.iconst 1, 1) := by decide +kernel
theorem dL_fits_790 : decode cL_fits 790 = .ok (.goto 4, 3) := by decide +kernel
theorem dL_fits_793 : decode cL_fits 793 = .ok (.iconst 0, 1) := by decide +kernel
theorem dL_fits_794 : decode cL_fits 794 = .ok (.istore 11, 2) := by decide +kernel
theorem dL_fits_796 : decode cL_fits 796 = .ok (.iload 11, 2) := by decide +kernel
theorem dL_fits_798 : decode cL_fits 798 = .ok (.aload_n 0, 1) := by decide +kernel
theorem dL_fits_799 : decode cL_fits 799 = .ok (.iload 8, 2) := by decide +kernel
theorem dL_fits_801 : decode cL_fits 801 = .ok (.bipush 7, 2) := by decide +kernel
theorem dL_fits_803 : decode cL_fits 803 = .ok (.invokevirtual 18, 3) := by decide +kernel
theorem dL_fits_806 : decode cL_fits 806 = .ok (.ifCond .lt 7, 3) := by decide +kernel
theorem dL_fits_809 : decode cL_fits 809 = .ok (.iconst 1, 1) := by decide +kernel
theorem dL_fits_810 : decode cL_fits 810 = .ok (.goto 4, 3) := by decide +kernel
theorem dL_fits_813 : decode cL_fits 813 = .ok (.iconst 0, 1) := by decide +kernel
theorem dL_fits_814 : decode cL_fits 814 = .ok (.if_icmp .eq 5, 3) := by decide +kernel
theorem dL_fits_817 : decode cL_fits 817 = .ok (.iconst 0, 1) := by decide +kernel
theorem dL_fits_818 : decode cL_fits 818 = .ok (.ireturn, 1) := by decide +kernel
theorem dL_fits_819 : decode cL_fits 819 = .ok (.iload 7, 2) := by decide +kernel
theorem dL_fits_821 : decode cL_fits 821 = .ok (.iload 11, 2) := by decide +kernel
theorem dL_fits_823 : decode cL_fits 823 = .ok (.ifCond .eq 16, 3) := by decide +kernel
theorem dL_fits_826 : decode cL_fits 826 = .ok (.iconst 1, 1) := by decide +kernel
theorem dL_fits_827 : decode cL_fits 827 = .ok (.aload_n 0, 1) := by decide +kernel
theorem dL_fits_828 : decode cL_fits 828 = .ok (.iload 8, 2) := by decide +kernel
theorem dL_fits_830 : decode cL_fits 830 = .ok (.bipush 7, 2) := by decide +kernel
theorem dL_fits_832 : decode cL_fits 832 = .ok (.invokevirtual 18, 3) := by decide +kernel
theorem dL_fits_835 : decode cL_fits 835 = .ok (.ishl, 1) := by decide +kernel
theorem dL_fits_836 : decode cL_fits 836 = .ok (.goto 4, 3) := by decide +kernel
theorem dL_fits_839 : decode cL_fits 839 = .ok (.iconst 0, 1) := by decide +kernel
theorem dL_fits_840 : decode cL_fits 840 = .ok (.iadd, 1) := by decide +kernel
theorem dL_fits_841 : decode cL_fits 841 = .ok (.istore 7, 2) := by decide +kernel
theorem dL_fits_843 : decode cL_fits 843 = .ok (.iinc 8 1, 3) := by decide +kernel
theorem dL_fits_846 : decode cL_fits 846 = .ok (.goto (-323), 3) := by decide +kernel
theorem dL_fits_849 : decode cL_fits 849 = .ok (.iload 6, 2) := by decide +kernel
theorem dL_fits_851 : decode cL_fits 851 = .ok (.ifCond .ne 119, 3) := by decide +kernel
theorem dL_fits_854 : decode cL_fits 854 = .ok (.iload 7, 2) := by decide +kernel
theorem dL_fits_856 : decode cL_fits 856 = .ok (.iload 7, 2) := by decide +kernel
theorem dL_fits_858 : decode cL_fits 858 = .ok (.iconst 1, 1) := by decide +kernel
theorem dL_fits_859 : decode cL_fits 859 = .ok (.iadd, 1) := by decide +kernel
theorem dL_fits_860 : decode cL_fits 860 = .ok (.iand, 1) := by decide +kernel
theorem dL_fits_861 : decode cL_fits 861 = .ok (.ifCond .ne 109, 3) := by decide +kernel
theorem dL_fits_864 : decode cL_fits 864 = .ok (.aload_n 0, 1) := by decide +kernel
theorem dL_fits_865 : decode cL_fits 865 = .ok (.iconst 3, 1) := by decide +kernel
theorem dL_fits_866 : decode cL_fits 866 = .ok (.invokevirtual 8, 3) := by decide +kernel
theorem dL_fits_869 : decode cL_fits 869 = .ok (.iload_n 1, 1) := by decide +kernel
theorem dL_fits_870 : decode cL_fits 870 = .ok (.if_icmp .ne 100, 3) := by decide +kernel
theorem dL_fits_873 : decode cL_fits 873 = .ok (.aload_n 0, 1) := by decide +kernel
theorem dL_fits_874 : decode cL_fits 874 = .ok (.iconst 4, 1) := by decide +kernel
theorem dL_fits_875 : decode cL_fits 875 = .ok (.invokevirtual 8, 3) := by decide +kernel
theorem dL_fits_878 : decode cL_fits 878 = .ok (.iconst 4, 1) := by decide +kernel
theorem dL_fits_879 : decode cL_fits 879 = .ok (.aload_n 0, 1) := by decide +kernel
theorem dL_fits_880 : decode cL_fits 880 = .ok (.iconst 2, 1) := by decide +kernel
theorem dL_fits_881 : decode cL_fits 881 = .ok (.invokevirtual 8, 3) := by decide +kernel
theorem dL_fits_884 : decode cL_fits 884 = .ok (.imul, 1) := by decide +kernel
theorem dL_fits_885 : decode cL_fits 885 = .ok (.iload_n 2, 1) := by decide +kernel
theorem dL_fits_886 : decode cL_fits 886 = .ok (.isub, 1) := by decide +kernel
theorem dL_fits_887 : decode cL_fits 887 = .ok (.if_icmp .ne 83, 3) := by decide +kernel
theorem dL_fits_890 : decode cL_fits 890 = .ok (.aload_n 0, 1) := by decide +kernel
theorem dL_fits_891 : decode cL_fits 891 = .ok (.iconst 5, 1) := by decide +kernel
theorem dL_fits_892 : decode cL_fits 892 = .ok (.invokevirtual 8, 3) := by decide +kernel
theorem dL_fits_895 : decode cL_fits 895 = .ok (.iload 4, 2) := by decide +kernel
theorem dL_fits_897 : decode cL_fits 897 = .ok (.if_icmp .ne 73, 3) := by decide +kernel
theorem dL_fits_900 : decode cL_fits 900 = .ok (.aload_n 0, 1) := by decide +kernel
theorem dL_fits_901 : decode cL_fits 901 = .ok (.bipush 13, 2) := by decide +kernel
theorem dL_fits_903 : decode cL_fits 903 = .ok (.invokevirtual 8, 3) := by decide +kernel
theorem dL_fits_906 : decode cL_fits 906 = .ok (.iload_n 3, 1) := by decide +kernel
theorem dL_fits_907 : decode cL_fits 907 = .ok (.if_icmp .ne 63, 3) := by decide +kernel
theorem dL_fits_910 : decode cL_fits 910 = .ok (.aload_n 0, 1) := by decide +kernel
theorem dL_fits_911 : decode cL_fits 911 = .ok (.bipush 7, 2) := by decide +kernel
theorem dL_fits_913 : decode cL_fits 913 = .ok (.invokevirtual 8, 3) := by decide +kernel
theorem dL_fits_916 : decode cL_fits 916 = .ok (.aload_n 0, 1) := by decide +kernel
theorem dL_fits_917 : decode cL_fits 917 = .ok (.bipush 6, 2) := by decide +kernel
theorem dL_fits_919 : decode cL_fits 919 = .ok (.invokevirtual 8, 3) := by decide +kernel
theorem dL_fits_922 : decode cL_fits 922 = .ok (.if_icmp .gt 48, 3) := by decide +kernel
theorem dL_fits_925 : decode cL_fits 925 = .ok (.aload_n 0, 1) := by decide +kernel
theorem dL_fits_926 : decode cL_fits 926 = .ok (.bipush 8, 2) := by decide +kernel
theorem dL_fits_928 : decode cL_fits 928 = .ok (.invokevirtual 8, 3) := by decide +kernel
theorem dL_fits_931 : decode cL_fits 931 = .ok (.aload_n 0, 1) := by decide +kernel
theorem dL_fits_932 : decode cL_fits 932 = .ok (.bipush 7, 2) := by decide +kernel
theorem dL_fits_934 : decode cL_fits 934 = .ok (.invokevirtual 8, 3) := by decide +kernel
theorem dL_fits_937 : decode cL_fits 937 = .ok (.if_icmp .gt 33, 3) := by decide +kernel
theorem dL_fits_940 : decode cL_fits 940 = .ok (.aload_n 0, 1) := by decide +kernel
theorem dL_fits_941 : decode cL_fits 941 = .ok (.bipush 9, 2) := by decide +kernel
theorem dL_fits_943 : decode cL_fits 943 = .ok (.invokevirtual 8, 3) := by decide +kernel
theorem dL_fits_946 : decode cL_fits 946 = .ok (.aload_n 0, 1) := by decide +kernel
theorem dL_fits_947 : decode cL_fits 947 = .ok (.bipush 8, 2) := by decide +kernel
theorem dL_fits_949 : decode cL_fits 949 = .ok (.invokevirtual 8, 3) := by decide +kernel
theorem dL_fits_952 : decode cL_fits 952 = .ok (.if_icmp .gt 18, 3) := by decide +kernel
theorem dL_fits_955 : decode cL_fits 955 = .ok (.iload 4, 2) := by decide +kernel
theorem dL_fits_957 : decode cL_fits 957 = .ok (.aload_n 0, 1) := by decide +kernel
theorem dL_fits_958 : decode cL_fits 958 = .ok (.bipush 9, 2) := by decide +kernel
theorem dL_fits_960 : decode cL_fits 960 = .ok (.invokevirtual 8, 3) := by decide +kernel
theorem dL_fits_963 : decode cL_fits 963 = .ok (.if_icmp .lt 7, 3) := by decide +kernel
theorem dL_fits_966 : decode cL_fits 966 = .ok (.iconst 1, 1) := by decide +kernel
theorem dL_fits_967 : decode cL_fits 967 = .ok (.goto 4, 3) := by decide +kernel
theorem dL_fits_970 : decode cL_fits 970 = .ok (.iconst 0, 1) := by decide +kernel
theorem dL_fits_971 : decode cL_fits 971 = .ok (.ireturn, 1) := by decide +kernel
theorem dL_next_0 : decode cL_next 0 = .ok (.aload_n 0, 1) := by decide +kernel
theorem dL_next_1 : decode cL_next 1 = .ok (.iload_n 1, 1) := by decide +kernel
theorem dL_next_2 : decode cL_next 2 = .ok (.iconst 2, 1) := by decide +kernel
theorem dL_next_3 : decode cL_next 3 = .ok (.invokevirtual 14, 3) := by decide +kernel
theorem dL_next_6 : decode cL_next 6 = .ok (.istore_n 2, 1) := by decide +kernel
theorem dL_next_7 : decode cL_next 7 = .ok (.iload_n 2, 1) := by decide +kernel
theorem dL_next_8 : decode cL_next 8 = .ok (.ifCond .lt 16, 3) := by decide +kernel
theorem dL_next_11 : decode cL_next 11 = .ok (.aload_n 0, 1) := by decide +kernel
theorem dL_next_12 : decode cL_next 12 = .ok (.iload_n 2, 1) := by decide +kernel
theorem dL_next_13 : decode cL_next 13 = .ok (.iconst 4, 1) := by decide +kernel
theorem dL_next_14 : decode cL_next 14 = .ok (.invokevirtual 18, 3) := by decide +kernel
theorem dL_next_17 : decode cL_next 17 = .ok (.ifCond .le 7, 3) := by decide +kernel
theorem dL_next_20 : decode cL_next 20 = .ok (.iconst 1, 1) := by decide +kernel
theorem dL_next_21 : decode cL_next 21 = .ok (.goto 4, 3) := by decide +kernel
theorem dL_next_24 : decode cL_next 24 = .ok (.iconst 0, 1) := by decide +kernel
theorem dL_next_25 : decode cL_next 25 = .ok (.istore_n 3, 1) := by decide +kernel
theorem dL_next_26 : decode cL_next 26 = .ok (.aload_n 0, 1) := by decide +kernel
theorem dL_next_27 : decode cL_next 27 = .ok (.iload_n 1, 1) := by decide +kernel
theorem dL_next_28 : decode cL_next 28 = .ok (.bipush 6, 2) := by decide +kernel
theorem dL_next_30 : decode cL_next 30 = .ok (.invokevirtual 14, 3) := by decide +kernel
theorem dL_next_33 : decode cL_next 33 = .ok (.iconst 1, 1) := by decide +kernel
theorem dL_next_34 : decode cL_next 34 = .ok (.iadd, 1) := by decide +kernel
theorem dL_next_35 : decode cL_next 35 = .ok (.aload_n 0, 1) := by decide +kernel
theorem dL_next_36 : decode cL_next 36 = .ok (.bipush 15, 2) := by decide +kernel
theorem dL_next_38 : decode cL_next 38 = .ok (.invokevirtual 8, 3) := by decide +kernel
theorem dL_next_41 : decode cL_next 41 = .ok (.if_icmp .lt 7, 3) := by decide +kernel
theorem dL_next_44 : decode cL_next 44 = .ok (.iconst 1, 1) := by decide +kernel
theorem dL_next_45 : decode cL_next 45 = .ok (.goto 4, 3) := by decide +kernel
theorem dL_next_48 : decode cL_next 48 = .ok (.iconst 0, 1) := by decide +kernel
theorem dL_next_49 : decode cL_next 49 = .ok (.istore 4, 2) := by decide +kernel
theorem dL_next_51 : decode cL_next 51 = .ok (.aload_n 0, 1) := by decide +kernel
theorem dL_next_52 : decode cL_next 52 = .ok (.iload_n 1, 1) := by decide +kernel
theorem dL_next_53 : decode cL_next 53 = .ok (.iconst 0, 1) := by decide +kernel
theorem dL_next_54 : decode cL_next 54 = .ok (.invokevirtual 14, 3) := by decide +kernel
theorem dL_next_57 : decode cL_next 57 = .ok (.tableswitch 251 1 9 #[51, 67, 86, 251, 117, 137, 154, 200, 239], 51) := by decide +kernel
theorem dL_next_108 : decode cL_next 108 = .ok (.aload_n 0, 1) := by decide +kernel
theorem dL_next_109 : decode cL_next 109 = .ok (.iload_n 1, 1) := by decide +kernel
theorem dL_next_110 : decode cL_next 110 = .ok (.iconst 1, 1) := by decide +kernel
theorem dL_next_111 : decode cL_next 111 = .ok (.invokevirtual 14, 3) := by decide +kernel
theorem dL_next_114 : decode cL_next 114 = .ok (.iload_n 2, 1) := by decide +kernel
theorem dL_next_115 : decode cL_next 115 = .ok (.if_icmp .ne 7, 3) := by decide +kernel
theorem dL_next_118 : decode cL_next 118 = .ok (.iconst 2, 1) := by decide +kernel
theorem dL_next_119 : decode cL_next 119 = .ok (.goto 4, 3) := by decide +kernel
theorem dL_next_122 : decode cL_next 122 = .ok (.iconst 1, 1) := by decide +kernel
theorem dL_next_123 : decode cL_next 123 = .ok (.ireturn, 1) := by decide +kernel
theorem dL_next_124 : decode cL_next 124 = .ok (.iload_n 3, 1) := by decide +kernel
theorem dL_next_125 : decode cL_next 125 = .ok (.ifCond .eq 7, 3) := by decide +kernel
theorem dL_next_128 : decode cL_next 128 = .ok (.iconst 3, 1) := by decide +kernel
theorem dL_next_129 : decode cL_next 129 = .ok (.goto 13, 3) := by decide +kernel
theorem dL_next_132 : decode cL_next 132 = .ok (.iload 4, 2) := by decide +kernel
theorem dL_next_134 : decode cL_next 134 = .ok (.ifCond .eq 7, 3) := by decide +kernel
theorem dL_next_137 : decode cL_next 137 = .ok (.iconst 0, 1) := by decide +kernel
theorem dL_next_138 : decode cL_next 138 = .ok (.goto 4, 3) := by decide +kernel
theorem dL_next_141 : decode cL_next 141 = .ok (.iconst 2, 1) := by decide +kernel
theorem dL_next_142 : decode cL_next 142 = .ok (.ireturn, 1) := by decide +kernel
theorem dL_next_143 : decode cL_next 143 = .ok (.aload_n 0, 1) := by decide +kernel
theorem dL_next_144 : decode cL_next 144 = .ok (.iload_n 1, 1) := by decide +kernel
theorem dL_next_145 : decode cL_next 145 = .ok (.iconst 5, 1) := by decide +kernel
theorem dL_next_146 : decode cL_next 146 = .ok (.invokevirtual 14, 3) := by decide +kernel
theorem dL_next_149 : decode cL_next 149 = .ok (.iconst 1, 1) := by decide +kernel
theorem dL_next_150 : decode cL_next 150 = .ok (.if_icmp .le 7, 3) := by decide +kernel
theorem dL_next_153 : decode cL_next 153 = .ok (.iconst 3, 1) := by decide +kernel
theorem dL_next_154 : decode cL_next 154 = .ok (.goto 19, 3) := by decide +kernel
theorem dL_next_157 : decode cL_next 157 = .ok (.aload_n 0, 1) := by decide +kernel
theorem dL_next_158 : decode cL_next 158 = .ok (.iload_n 1, 1) := by decide +kernel
theorem dL_next_159 : decode cL_next 159 = .ok (.iconst 3, 1) := by decide +kernel
theorem dL_next_160 : decode cL_next 160 = .ok (.invokevirtual 14, 3) := by decide +kernel
theorem dL_next_163 : decode cL_next 163 = .ok (.iconst 4, 1) := by decide +kernel
theorem dL_next_164 : decode cL_next 164 = .ok (.if_icmp .ge 7, 3) := by decide +kernel
theorem dL_next_167 : decode cL_next 167 = .ok (.iconst 4, 1) := by decide +kernel
theorem dL_next_168 : decode cL_next 168 = .ok (.goto 5, 3) := by decide +kernel
theorem dL_next_171 : decode cL_next 171 = .ok (.bipush 9, 2) := by decide +kernel
theorem dL_next_173 : decode cL_next 173 = .ok (.ireturn, 1) := by decide +kernel
theorem dL_next_174 : decode cL_next 174 = .ok (.iload_n 3, 1) := by decide +kernel
theorem dL_next_175 : decode cL_next 175 = .ok (.ifCond .eq 8, 3) := by decide +kernel
theorem dL_next_178 : decode cL_next 178 = .ok (.bipush 6, 2) := by decide +kernel
theorem dL_next_180 : decode cL_next 180 = .ok (.goto 13, 3) := by decide +kernel
theorem dL_next_183 : decode cL_next 183 = .ok (.iload 4, 2) := by decide +kernel
theorem dL_next_185 : decode cL_next 185 = .ok (.ifCond .eq 7, 3) := by decide +kernel
theorem dL_next_188 : decode cL_next 188 = .ok (.iconst 0, 1) := by decide +kernel
theorem dL_next_189 : decode cL_next 189 = .ok (.goto 4, 3) := by decide +kernel
theorem dL_next_192 : decode cL_next 192 = .ok (.iconst 5, 1) := by decide +kernel
theorem dL_next_193 : decode cL_next 193 = .ok (.ireturn, 1) := by decide +kernel
theorem dL_next_194 : decode cL_next 194 = .ok (.aload_n 0, 1) := by decide +kernel
theorem dL_next_195 : decode cL_next 195 = .ok (.iload_n 1, 1) := by decide +kernel
theorem dL_next_196 : decode cL_next 196 = .ok (.iconst 5, 1) := by decide +kernel
theorem dL_next_197 : decode cL_next 197 = .ok (.invokevirtual 14, 3) := by decide +kernel
theorem dL_next_200 : decode cL_next 200 = .ok (.iconst 1, 1) := by decide +kernel
theorem dL_next_201 : decode cL_next 201 = .ok (.if_icmp .le 8, 3) := by decide +kernel
theorem dL_next_204 : decode cL_next 204 = .ok (.bipush 6, 2) := by decide +kernel
theorem dL_next_206 : decode cL_next 206 = .ok (.goto 4, 3) := by decide +kernel
theorem dL_next_209 : decode cL_next 209 = .ok (.iconst (-1), 1) := by decide +kernel
theorem dL_next_210 : decode cL_next 210 = .ok (.ireturn, 1) := by decide +kernel
theorem dL_next_211 : decode cL_next 211 = .ok (.aload_n 0, 1) := by decide +kernel
theorem dL_next_212 : decode cL_next 212 = .ok (.aload_n 0, 1) := by decide +kernel
theorem dL_next_213 : decode cL_next 213 = .ok (.iload_n 2, 1) := by decide +kernel
theorem dL_next_214 : decode cL_next 214 = .ok (.iconst 3, 1) := by decide +kernel
theorem dL_next_215 : decode cL_next 215 = .ok (.invokevirtual 18, 3) := by decide +kernel
theorem dL_next_218 : decode cL_next 218 = .ok (.iconst 1, 1) := by decide +kernel
theorem dL_next_219 : decode cL_next 219 = .ok (.invokevirtual 18, 3) := by decide +kernel
theorem dL_next_222 : decode cL_next 222 = .ok (.iconst 1, 1) := by decide +kernel
theorem dL_next_223 : decode cL_next 223 = .ok (.if_icmp .ne 8, 3) := by decide +kernel
theorem dL_next_226 : decode cL_next 226 = .ok (.bipush 8, 2) := by decide +kernel
theorem dL_next_228 : decode cL_next 228 = .ok (.goto 28, 3) := by decide +kernel
theorem dL_next_231 : decode cL_next 231 = .ok (.aload_n 0, 1) := by decide +kernel
theorem dL_next_232 : decode cL_next 232 = .ok (.iload_n 1, 1) := by decide +kernel
theorem dL_next_233 : decode cL_next 233 = .ok (.bipush 6, 2) := by decide +kernel
theorem dL_next_235 : decode cL_next 235 = .ok (.invokevirtual 14, 3) := by decide +kernel
theorem dL_next_238 : decode cL_next 238 = .ok (.iconst 1, 1) := by decide +kernel
theorem dL_next_239 : decode cL_next 239 = .ok (.iadd, 1) := by decide +kernel
theorem dL_next_240 : decode cL_next 240 = .ok (.aload_n 0, 1) := by decide +kernel
theorem dL_next_241 : decode cL_next 241 = .ok (.bipush 16, 2) := by decide +kernel
theorem dL_next_243 : decode cL_next 243 = .ok (.invokevirtual 8, 3) := by decide +kernel
theorem dL_next_246 : decode cL_next 246 = .ok (.if_icmp .lt 8, 3) := by decide +kernel
theorem dL_next_249 : decode cL_next 249 = .ok (.bipush 9, 2) := by decide +kernel
theorem dL_next_251 : decode cL_next 251 = .ok (.goto 5, 3) := by decide +kernel
theorem dL_next_254 : decode cL_next 254 = .ok (.bipush 7, 2) := by decide +kernel
theorem dL_next_256 : decode cL_next 256 = .ok (.ireturn, 1) := by decide +kernel
theorem dL_next_257 : decode cL_next 257 = .ok (.aload_n 0, 1) := by decide +kernel
theorem dL_next_258 : decode cL_next 258 = .ok (.aload_n 0, 1) := by decide +kernel
theorem dL_next_259 : decode cL_next 259 = .ok (.iload_n 2, 1) := by decide +kernel
theorem dL_next_260 : decode cL_next 260 = .ok (.iconst 3, 1) := by decide +kernel
theorem dL_next_261 : decode cL_next 261 = .ok (.invokevirtual 18, 3) := by decide +kernel
theorem dL_next_264 : decode cL_next 264 = .ok (.iconst 1, 1) := by decide +kernel
theorem dL_next_265 : decode cL_next 265 = .ok (.invokevirtual 18, 3) := by decide +kernel
theorem dL_next_268 : decode cL_next 268 = .ok (.ifCond .ne 25, 3) := by decide +kernel
theorem dL_next_271 : decode cL_next 271 = .ok (.aload_n 0, 1) := by decide +kernel
theorem dL_next_272 : decode cL_next 272 = .ok (.iload_n 1, 1) := by decide +kernel
theorem dL_next_273 : decode cL_next 273 = .ok (.bipush 7, 2) := by decide +kernel
theorem dL_next_275 : decode cL_next 275 = .ok (.invokevirtual 14, 3) := by decide +kernel
theorem dL_next_278 : decode cL_next 278 = .ok (.iconst 1, 1) := by decide +kernel
theorem dL_next_279 : decode cL_next 279 = .ok (.iadd, 1) := by decide +kernel
theorem dL_next_280 : decode cL_next 280 = .ok (.aload_n 0, 1) := by decide +kernel
theorem dL_next_281 : decode cL_next 281 = .ok (.bipush 18, 2) := by decide +kernel
theorem dL_next_283 : decode cL_next 283 = .ok (.invokevirtual 8, 3) := by decide +kernel
theorem dL_next_286 : decode cL_next 286 = .ok (.if_icmp .lt 7, 3) := by decide +kernel
theorem dL_next_289 : decode cL_next 289 = .ok (.iconst 0, 1) := by decide +kernel
theorem dL_next_290 : decode cL_next 290 = .ok (.goto 5, 3) := by decide +kernel
theorem dL_next_293 : decode cL_next 293 = .ok (.bipush 8, 2) := by decide +kernel
theorem dL_next_295 : decode cL_next 295 = .ok (.ireturn, 1) := by decide +kernel
theorem dL_next_296 : decode cL_next 296 = .ok (.iload 4, 2) := by decide +kernel
theorem dL_next_298 : decode cL_next 298 = .ok (.ifCond .eq 7, 3) := by decide +kernel
theorem dL_next_301 : decode cL_next 301 = .ok (.iconst 0, 1) := by decide +kernel
theorem dL_next_302 : decode cL_next 302 = .ok (.goto 5, 3) := by decide +kernel
theorem dL_next_305 : decode cL_next 305 = .ok (.bipush 9, 2) := by decide +kernel
theorem dL_next_307 : decode cL_next 307 = .ok (.ireturn, 1) := by decide +kernel
theorem dL_next_308 : decode cL_next 308 = .ok (.iconst (-1), 1) := by decide +kernel
theorem dL_next_309 : decode cL_next 309 = .ok (.ireturn, 1) := by decide +kernel
theorem dL_ticks_0 : decode cL_ticks 0 = .ok (.iconst 4, 1) := by decide +kernel
theorem dL_ticks_1 : decode cL_ticks 1 = .ok (.newarray .int, 2) := by decide +kernel
theorem dL_ticks_3 : decode cL_ticks 3 = .ok (.astore_n 2, 1) := by decide +kernel
theorem dL_ticks_4 : decode cL_ticks 4 = .ok (.bipush 16, 2) := by decide +kernel
theorem dL_ticks_6 : decode cL_ticks 6 = .ok (.newarray .int, 2) := by decide +kernel
theorem dL_ticks_8 : decode cL_ticks 8 = .ok (.astore_n 3, 1) := by decide +kernel
theorem dL_ticks_9 : decode cL_ticks 9 = .ok (.iconst 0, 1) := by decide +kernel
theorem dL_ticks_10 : decode cL_ticks 10 = .ok (.istore 4, 2) := by decide +kernel
theorem dL_ticks_12 : decode cL_ticks 12 = .ok (.iload 4, 2) := by decide +kernel
theorem dL_ticks_14 : decode cL_ticks 14 = .ok (.iload_n 1, 1) := by decide +kernel
theorem dL_ticks_15 : decode cL_ticks 15 = .ok (.if_icmp .ge 325, 3) := by decide +kernel
theorem dL_ticks_18 : decode cL_ticks 18 = .ok (.iconst 0, 1) := by decide +kernel
theorem dL_ticks_19 : decode cL_ticks 19 = .ok (.istore 5, 2) := by decide +kernel
theorem dL_ticks_21 : decode cL_ticks 21 = .ok (.iload 5, 2) := by decide +kernel
theorem dL_ticks_23 : decode cL_ticks 23 = .ok (.aload_n 0, 1) := by decide +kernel
theorem dL_ticks_24 : decode cL_ticks 24 = .ok (.iconst 1, 1) := by decide +kernel
theorem dL_ticks_25 : decode cL_ticks 25 = .ok (.invokevirtual 8, 3) := by decide +kernel
theorem dL_ticks_28 : decode cL_ticks 28 = .ok (.if_icmp .ge 31, 3) := by decide +kernel
theorem dL_ticks_31 : decode cL_ticks 31 = .ok (.aload_n 2, 1) := by decide +kernel
theorem dL_ticks_32 : decode cL_ticks 32 = .ok (.iload 5, 2) := by decide +kernel
theorem dL_ticks_34 : decode cL_ticks 34 = .ok (.aload_n 0, 1) := by decide +kernel
theorem dL_ticks_35 : decode cL_ticks 35 = .ok (.iload 5, 2) := by decide +kernel
theorem dL_ticks_37 : decode cL_ticks 37 = .ok (.invokestatic 27, 3) := by decide +kernel
theorem dL_ticks_40 : decode cL_ticks 40 = .ok (.iastore, 1) := by decide +kernel
theorem dL_ticks_41 : decode cL_ticks 41 = .ok (.aload_n 3, 1) := by decide +kernel
theorem dL_ticks_42 : decode cL_ticks 42 = .ok (.iload 5, 2) := by decide +kernel
theorem dL_ticks_44 : decode cL_ticks 44 = .ok (.aload_n 0, 1) := by decide +kernel
theorem dL_ticks_45 : decode cL_ticks 45 = .ok (.iload 5, 2) := by decide +kernel
theorem dL_ticks_47 : decode cL_ticks 47 = .ok (.bipush 6, 2) := by decide +kernel
theorem dL_ticks_49 : decode cL_ticks 49 = .ok (.invokevirtual 14, 3) := by decide +kernel
theorem dL_ticks_52 : decode cL_ticks 52 = .ok (.iastore, 1) := by decide +kernel
theorem dL_ticks_53 : decode cL_ticks 53 = .ok (.iinc 5 1, 3) := by decide +kernel
theorem dL_ticks_56 : decode cL_ticks 56 = .ok (.goto (-35), 3) := by decide +kernel
theorem dL_ticks_59 : decode cL_ticks 59 = .ok (.iconst 0, 1) := by decide +kernel
theorem dL_ticks_60 : decode cL_ticks 60 = .ok (.istore 5, 2) := by decide +kernel
theorem dL_ticks_62 : decode cL_ticks 62 = .ok (.iload 5, 2) := by decide +kernel
theorem dL_ticks_64 : decode cL_ticks 64 = .ok (.bipush 16, 2) := by decide +kernel
theorem dL_ticks_66 : decode cL_ticks 66 = .ok (.if_icmp .ge 20, 3) := by decide +kernel
theorem dL_ticks_69 : decode cL_ticks 69 = .ok (.aload_n 3, 1) := by decide +kernel
theorem dL_ticks_70 : decode cL_ticks 70 = .ok (.iload 5, 2) := by decide +kernel
theorem dL_ticks_72 : decode cL_ticks 72 = .ok (.aload_n 0, 1) := by decide +kernel
theorem dL_ticks_73 : decode cL_ticks 73 = .ok (.iload 5, 2) := by decide +kernel
theorem dL_ticks_75 : decode cL_ticks 75 = .ok (.iconst 5, 1) := by decide +kernel
theorem dL_ticks_76 : decode cL_ticks 76 = .ok (.invokevirtual 18, 3) := by decide +kernel
theorem dL_ticks_79 : decode cL_ticks 79 = .ok (.iastore, 1) := by decide +kernel
theorem dL_ticks_80 : decode cL_ticks 80 = .ok (.iinc 5 1, 3) := by decide +kernel
theorem dL_ticks_83 : decode cL_ticks 83 = .ok (.goto (-21), 3) := by decide +kernel
theorem dL_ticks_86 : decode cL_ticks 86 = .ok (.aload_n 0, 1) := by decide +kernel
theorem dL_ticks_87 : decode cL_ticks 87 = .ok (.iconst 3, 1) := by decide +kernel
theorem dL_ticks_88 : decode cL_ticks 88 = .ok (.invokevirtual 8, 3) := by decide +kernel
theorem dL_ticks_91 : decode cL_ticks 91 = .ok (.istore 5, 2) := by decide +kernel
theorem dL_ticks_93 : decode cL_ticks 93 = .ok (.bipush (-6), 2) := by decide +kernel
theorem dL_ticks_95 : decode cL_ticks 95 = .ok (.istore 6, 2) := by decide +kernel
theorem dL_ticks_97 : decode cL_ticks 97 = .ok (.iconst 0, 1) := by decide +kernel
theorem dL_ticks_98 : decode cL_ticks 98 = .ok (.istore 7, 2) := by decide +kernel
theorem dL_ticks_100 : decode cL_ticks 100 = .ok (.iload 7, 2) := by decide +kernel
theorem dL_ticks_102 : decode cL_ticks 102 = .ok (.bipush 16, 2) := by decide +kernel
theorem dL_ticks_104 : decode cL_ticks 104 = .ok (.if_icmp .ge 29, 3) := by decide +kernel
theorem dL_ticks_107 : decode cL_ticks 107 = .ok (.aload_n 0, 1) := by decide +kernel
theorem dL_ticks_108 : decode cL_ticks 108 = .ok (.iload 7, 2) := by decide +kernel
theorem dL_ticks_110 : decode cL_ticks 110 = .ok (.bipush 7, 2) := by decide +kernel
theorem dL_ticks_112 : decode cL_ticks 112 = .ok (.invokevirtual 18, 3) := by decide +kernel
theorem dL_ticks_115 : decode cL_ticks 115 = .ok (.ifCond .ne 8, 3) := by decide +kernel
theorem dL_ticks_118 : decode cL_ticks 118 = .ok (.iload 7, 2) := by decide +kernel
theorem dL_ticks_120 : decode cL_ticks 120 = .ok (.goto 5, 3) := by decide +kernel
theorem dL_ticks_123 : decode cL_ticks 123 = .ok (.iload 6, 2) := by decide +kernel
theorem dL_ticks_125 : decode cL_ticks 125 = .ok (.istore 6, 2) := by decide +kernel
theorem dL_ticks_127 : decode cL_ticks 127 = .ok (.iinc 7 1, 3) := by decide +kernel
theorem dL_ticks_130 : decode cL_ticks 130 = .ok (.goto (-30), 3) := by decide +kernel
theorem dL_ticks_133 : decode cL_ticks 133 = .ok (.aload_n 0, 1) := by decide +kernel
theorem dL_ticks_134 : decode cL_ticks 134 = .ok (.iconst 0, 1) := by decide +kernel
theorem dL_ticks_135 : decode cL_ticks 135 = .ok (.invokevirtual 8, 3) := by decide +kernel
theorem dL_ticks_138 : decode cL_ticks 138 = .ok (.istore 7, 2) := by decide +kernel
theorem dL_ticks_140 : decode cL_ticks 140 = .ok (.aload_n 0, 1) := by decide +kernel
theorem dL_ticks_141 : decode cL_ticks 141 = .ok (.iconst 1, 1) := by decide +kernel
theorem dL_ticks_142 : decode cL_ticks 142 = .ok (.invokevirtual 33, 3) := by decide +kernel
theorem dL_ticks_145 : decode cL_ticks 145 = .ok (.iload 7, 2) := by decide +kernel
theorem dL_ticks_147 : decode cL_ticks 147 = .ok (.iconst 1, 1) := by decide +kernel
theorem dL_ticks_148 : decode cL_ticks 148 = .ok (.iadd, 1) := by decide +kernel
theorem dL_ticks_149 : decode cL_ticks 149 = .ok (.if_icmp .ne 10, 3) := by decide +kernel
theorem dL_ticks_152 : decode cL_ticks 152 = .ok (.aload_n 0, 1) := by decide +kernel
theorem dL_ticks_153 : decode cL_ticks 153 = .ok (.invokestatic 36, 3) := by decide +kernel
theorem dL_ticks_156 : decode cL_ticks 156 = .ok (.ifCond .ne 5, 3) := by decide +kernel
theorem dL_ticks_159 : decode cL_ticks 159 = .ok (.iconst 0, 1) := by decide +kernel
theorem dL_ticks_160 : decode cL_ticks 160 = .ok (.ireturn, 1) := by decide +kernel
theorem dL_ticks_161 : decode cL_ticks 161 = .ok (.iconst 0, 1) := by decide +kernel
theorem dL_ticks_162 : decode cL_ticks 162 = .ok (.istore 8, 2) := by decide +kernel
theorem dL_ticks_164 : decode cL_ticks 164 = .ok (.iconst 0, 1) := by decide +kernel
theorem dL_ticks_165 : decode cL_ticks 165 = .ok (.istore 9, 2) := by decide +kernel
theorem dL_ticks_167 : decode cL_ticks 167 = .ok (.iload 9, 2) := by decide +kernel
theorem dL_ticks_169 : decode cL_ticks 169 = .ok (.aload_n 0, 1) := by decide +kernel
theorem dL_ticks_170 : decode cL_ticks 170 = .ok (.iconst 1, 1) := by decide +kernel
theorem dL_ticks_171 : decode cL_ticks 171 = .ok (.invokevirtual 8, 3) := by decide +kernel
theorem dL_ticks_174 : decode cL_ticks 174 = .ok (.if_icmp .ge 82, 3) := by decide +kernel
theorem dL_ticks_177 : decode cL_ticks 177 = .ok (.aload_n 0, 1) := by decide +kernel
theorem dL_ticks_178 : decode cL_ticks 178 = .ok (.iload 9, 2) := by decide +kernel
theorem dL_ticks_180 : decode cL_ticks 180 = .ok (.iconst 0, 1) := by decide +kernel
theorem dL_ticks_181 : decode cL_ticks 181 = .ok (.invokevirtual 14, 3) := by decide +kernel
theorem dL_ticks_184 : decode cL_ticks 184 = .ok (.istore 10, 2) := by decide +kernel
theorem dL_ticks_186 : decode cL_ticks 186 = .ok (.aload_n 2, 1) := by decide +kernel
theorem dL_ticks_187 : decode cL_ticks 187 = .ok (.iload 9, 2) := by decide +kernel
theorem dL_ticks_189 : decode cL_ticks 189 = .ok (.iaload, 1) := by decide +kernel
theorem dL_ticks_190 : decode cL_ticks 190 = .ok (.ifCond .lt 27, 3) := by decide +kernel
theorem dL_ticks_193 : decode cL_ticks 193 = .ok (.iload 10, 2) := by decide +kernel
theorem dL_ticks_195 : decode cL_ticks 195 = .ok (.aload_n 2, 1) := by decide +kernel
theorem dL_ticks_196 : decode cL_ticks 196 = .ok (.iload 9, 2) := by decide +kernel
theorem dL_ticks_198 : decode cL_ticks 198 = .ok (.iaload, 1) := by decide +kernel
theorem dL_ticks_199 : decode cL_ticks 199 = .ok (.if_icmp .eq 18, 3) := by decide +kernel
theorem dL_ticks_202 : decode cL_ticks 202 = .ok (.aload_n 2, 1) := by decide +kernel
theorem dL_ticks_203 : decode cL_ticks 203 = .ok (.iload 9, 2) := by decide +kernel
theorem dL_ticks_205 : decode cL_ticks 205 = .ok (.iaload, 1) := by decide +kernel
theorem dL_ticks_206 : decode cL_ticks 206 = .ok (.ifCond .ne 9, 3) := by decide +kernel
theorem dL_ticks_209 : decode cL_ticks 209 = .ok (.iload 10, 2) := by decide +kernel
theorem dL_ticks_211 : decode cL_ticks 211 = .ok (.iconst 1, 1) := by decide +kernel
theorem dL_ticks_212 : decode cL_ticks 212 = .ok (.if_icmp .eq 5, 3) := by decide +kernel
theorem dL_ticks_215 : decode cL_ticks 215 = .ok (.iconst 0, 1) := by decide +kernel
theorem dL_ticks_216 : decode cL_ticks 216 = .ok (.ireturn, 1) := by decide +kernel
theorem dL_ticks_217 : decode cL_ticks 217 = .ok (.iload 8, 2) := by decide +kernel
theorem dL_ticks_219 : decode cL_ticks 219 = .ok (.iload 6, 2) := by decide +kernel
theorem dL_ticks_221 : decode cL_ticks 221 = .ok (.ifCond .lt 25, 3) := by decide +kernel
theorem dL_ticks_224 : decode cL_ticks 224 = .ok (.iload 10, 2) := by decide +kernel
theorem dL_ticks_226 : decode cL_ticks 226 = .ok (.iconst 1, 1) := by decide +kernel
theorem dL_ticks_227 : decode cL_ticks 227 = .ok (.if_icmp .ne 19, 3) := by decide +kernel
theorem dL_ticks_230 : decode cL_ticks 230 = .ok (.aload_n 0, 1) := by decide +kernel
theorem dL_ticks_231 : decode cL_ticks 231 = .ok (.iload 9, 2) := by decide +kernel
theorem dL_ticks_233 : decode cL_ticks 233 = .ok (.iconst 2, 1) := by decide +kernel
theorem dL_ticks_234 : decode cL_ticks 234 = .ok (.invokevirtual 14, 3) := by decide +kernel
theorem dL_ticks_237 : decode cL_ticks 237 = .ok (.iload 6, 2) := by decide +kernel
theorem dL_ticks_239 : decode cL_ticks 239 = .ok (.if_icmp .ne 7, 3) := by decide +kernel
theorem dL_ticks_242 : decode cL_ticks 242 = .ok (.iconst 1, 1) := by decide +kernel
theorem dL_ticks_243 : decode cL_ticks 243 = .ok (.goto 4, 3) := by decide +kernel
theorem dL_ticks_246 : decode cL_ticks 246 = .ok (.iconst 0, 1) := by decide +kernel
theorem dL_ticks_247 : decode cL_ticks 247 = .ok (.iadd, 1) := by decide +kernel
theorem dL_ticks_248 : decode cL_ticks 248 = .ok (.istore 8, 2) := by decide +kernel
theorem dL_ticks_250 : decode cL_ticks 250 = .ok (.iinc 9 1, 3) := by decide +kernel
theorem dL_ticks_253 : decode cL_ticks 253 = .ok (.goto (-86), 3) := by decide +kernel
theorem dL_ticks_256 : decode cL_ticks 256 = .ok (.iload 6, 2) := by decide +kernel
theorem dL_ticks_258 : decode cL_ticks 258 = .ok (.ifCond .lt 16, 3) := by decide +kernel
theorem dL_ticks_261 : decode cL_ticks 261 = .ok (.iload 5, 2) := by decide +kernel
theorem dL_ticks_263 : decode cL_ticks 263 = .ok (.ifCond .le 11, 3) := by decide +kernel
theorem dL_ticks_266 : decode cL_ticks 266 = .ok (.iload 8, 2) := by decide +kernel
theorem dL_ticks_268 : decode cL_ticks 268 = .ok (.iconst 1, 1) := by decide +kernel
theorem dL_ticks_269 : decode cL_ticks 269 = .ok (.if_icmp .eq 5, 3) := by decide +kernel
theorem dL_ticks_272 : decode cL_ticks 272 = .ok (.iconst 0, 1) := by decide +kernel
theorem dL_ticks_273 : decode cL_ticks 273 = .ok (.ireturn, 1) := by decide +kernel
theorem dL_ticks_274 : decode cL_ticks 274 = .ok (.iconst 0, 1) := by decide +kernel
theorem dL_ticks_275 : decode cL_ticks 275 = .ok (.istore 9, 2) := by decide +kernel
theorem dL_ticks_277 : decode cL_ticks 277 = .ok (.iload 9, 2) := by decide +kernel
theorem dL_ticks_279 : decode cL_ticks 279 = .ok (.bipush 16, 2) := by decide +kernel
theorem dL_ticks_281 : decode cL_ticks 281 = .ok (.if_icmp .ge 53, 3) := by decide +kernel
theorem dL_ticks_284 : decode cL_ticks 284 = .ok (.aload_n 0, 1) := by decide +kernel
theorem dL_ticks_285 : decode cL_ticks 285 = .ok (.iload 9, 2) := by decide +kernel
theorem dL_ticks_287 : decode cL_ticks 287 = .ok (.iconst 5, 1) := by decide +kernel
theorem dL_ticks_288 : decode cL_ticks 288 = .ok (.invokevirtual 18, 3) := by decide +kernel
theorem dL_ticks_291 : decode cL_ticks 291 = .ok (.aload_n 3, 1) := by decide +kernel
theorem dL_ticks_292 : decode cL_ticks 292 = .ok (.iload 9, 2) := by decide +kernel
theorem dL_ticks_294 : decode cL_ticks 294 = .ok (.iaload, 1) := by decide +kernel
theorem dL_ticks_295 : decode cL_ticks 295 = .ok (.if_icmp .eq 33, 3) := by decide +kernel
theorem dL_ticks_298 : decode cL_ticks 298 = .ok (.aload_n 0, 1) := by decide +kernel
theorem dL_ticks_299 : decode cL_ticks 299 = .ok (.iload 9, 2) := by decide +kernel
theorem dL_ticks_301 : decode cL_ticks 301 = .ok (.iconst 5, 1) := by decide +kernel
theorem dL_ticks_302 : decode cL_ticks 302 = .ok (.invokevirtual 18, 3) := by decide +kernel
theorem dL_ticks_305 : decode cL_ticks 305 = .ok (.aload_n 3, 1) := by decide +kernel
theorem dL_ticks_306 : decode cL_ticks 306 = .ok (.iload 9, 2) := by decide +kernel
theorem dL_ticks_308 : decode cL_ticks 308 = .ok (.iaload, 1) := by decide +kernel
theorem dL_ticks_309 : decode cL_ticks 309 = .ok (.iconst 1, 1) := by decide +kernel
theorem dL_ticks_310 : decode cL_ticks 310 = .ok (.iadd, 1) := by decide +kernel
theorem dL_ticks_311 : decode cL_ticks 311 = .ok (.if_icmp .ne 15, 3) := by decide +kernel
theorem dL_ticks_314 : decode cL_ticks 314 = .ok (.aload_n 0, 1) := by decide +kernel
theorem dL_ticks_315 : decode cL_ticks 315 = .ok (.iload 9, 2) := by decide +kernel
theorem dL_ticks_317 : decode cL_ticks 317 = .ok (.iconst 0, 1) := by decide +kernel
theorem dL_ticks_318 : decode cL_ticks 318 = .ok (.invokevirtual 18, 3) := by decide +kernel
theorem dL_ticks_321 : decode cL_ticks 321 = .ok (.bipush 6, 2) := by decide +kernel
theorem dL_ticks_323 : decode cL_ticks 323 = .ok (.if_icmp .eq 5, 3) := by decide +kernel
theorem dL_ticks_326 : decode cL_ticks 326 = .ok (.iconst 0, 1) := by decide +kernel
theorem dL_ticks_327 : decode cL_ticks 327 = .ok (.ireturn, 1) := by decide +kernel
theorem dL_ticks_328 : decode cL_ticks 328 = .ok (.iinc 9 1, 3) := by decide +kernel
theorem dL_ticks_331 : decode cL_ticks 331 = .ok (.goto (-54), 3) := by decide +kernel
theorem dL_ticks_334 : decode cL_ticks 334 = .ok (.iinc 4 1, 3) := by decide +kernel
theorem dL_ticks_337 : decode cL_ticks 337 = .ok (.goto (-325), 3) := by decide +kernel
theorem dL_ticks_340 : decode cL_ticks 340 = .ok (.iconst 1, 1) := by decide +kernel
theorem dL_ticks_341 : decode cL_ticks 341 = .ok (.ireturn, 1) := by decide +kernel
theorem dL_law_0 : decode code 0 = .ok (.new 9, 3) := by decide +kernel
theorem dL_law_3 : decode code 3 = .ok (.dup, 1) := by decide +kernel
theorem dL_law_4 : decode code 4 = .ok (.invokespecial 40, 3) := by decide +kernel
theorem dL_law_7 : decode code 7 = .ok (.astore_n 1, 1) := by decide +kernel
theorem dL_law_8 : decode code 8 = .ok (.aload_n 1, 1) := by decide +kernel
theorem dL_law_9 : decode code 9 = .ok (.iconst 1, 1) := by decide +kernel
theorem dL_law_10 : decode code 10 = .ok (.aload_n 0, 1) := by decide +kernel
theorem dL_law_11 : decode code 11 = .ok (.iconst 0, 1) := by decide +kernel
theorem dL_law_12 : decode code 12 = .ok (.iconst 4, 1) := by decide +kernel
theorem dL_law_13 : decode code 13 = .ok (.invokestatic 41, 3) := by decide +kernel
theorem dL_law_16 : decode code 16 = .ok (.iadd, 1) := by decide +kernel
theorem dL_law_17 : decode code 17 = .ok (.iconst 1, 1) := by decide +kernel
theorem dL_law_18 : decode code 18 = .ok (.aload_n 0, 1) := by decide +kernel
theorem dL_law_19 : decode code 19 = .ok (.iconst 1, 1) := by decide +kernel
theorem dL_law_20 : decode code 20 = .ok (.iconst 3, 1) := by decide +kernel
theorem dL_law_21 : decode code 21 = .ok (.invokestatic 41, 3) := by decide +kernel
theorem dL_law_24 : decode code 24 = .ok (.iadd, 1) := by decide +kernel
theorem dL_law_25 : decode code 25 = .ok (.invokevirtual 45, 3) := by decide +kernel
theorem dL_law_28 : decode code 28 = .ok (.pop, 1) := by decide +kernel
theorem dL_law_29 : decode code 29 = .ok (.aload_n 1, 1) := by decide +kernel
theorem dL_law_30 : decode code 30 = .ok (.iconst 0, 1) := by decide +kernel
theorem dL_law_31 : decode code 31 = .ok (.iconst 3, 1) := by decide +kernel
theorem dL_law_32 : decode code 32 = .ok (.aload_n 0, 1) := by decide +kernel
theorem dL_law_33 : decode code 33 = .ok (.iconst 2, 1) := by decide +kernel
theorem dL_law_34 : decode code 34 = .ok (.bipush 20, 2) := by decide +kernel
theorem dL_law_36 : decode code 36 = .ok (.invokestatic 41, 3) := by decide +kernel
theorem dL_law_39 : decode code 39 = .ok (.iadd, 1) := by decide +kernel
theorem dL_law_40 : decode code 40 = .ok (.invokevirtual 48, 3) := by decide +kernel
theorem dL_law_43 : decode code 43 = .ok (.pop, 1) := by decide +kernel
theorem dL_law_44 : decode code 44 = .ok (.aload_n 1, 1) := by decide +kernel
theorem dL_law_45 : decode code 45 = .ok (.iconst 1, 1) := by decide +kernel
theorem dL_law_46 : decode code 46 = .ok (.iconst 3, 1) := by decide +kernel
theorem dL_law_47 : decode code 47 = .ok (.aload_n 0, 1) := by decide +kernel
theorem dL_law_48 : decode code 48 = .ok (.iconst 3, 1) := by decide +kernel
theorem dL_law_49 : decode code 49 = .ok (.bipush 20, 2) := by decide +kernel
theorem dL_law_51 : decode code 51 = .ok (.invokestatic 41, 3) := by decide +kernel
theorem dL_law_54 : decode code 54 = .ok (.iadd, 1) := by decide +kernel
theorem dL_law_55 : decode code 55 = .ok (.invokevirtual 48, 3) := by decide +kernel
theorem dL_law_58 : decode code 58 = .ok (.pop, 1) := by decide +kernel
theorem dL_law_59 : decode code 59 = .ok (.aload_n 1, 1) := by decide +kernel
theorem dL_law_60 : decode code 60 = .ok (.iconst 2, 1) := by decide +kernel
theorem dL_law_61 : decode code 61 = .ok (.iconst 1, 1) := by decide +kernel
theorem dL_law_62 : decode code 62 = .ok (.aload_n 0, 1) := by decide +kernel
theorem dL_law_63 : decode code 63 = .ok (.iconst 4, 1) := by decide +kernel
theorem dL_law_64 : decode code 64 = .ok (.bipush 9, 2) := by decide +kernel
theorem dL_law_66 : decode code 66 = .ok (.invokestatic 41, 3) := by decide +kernel
theorem dL_law_69 : decode code 69 = .ok (.iadd, 1) := by decide +kernel
theorem dL_law_70 : decode code 70 = .ok (.invokevirtual 48, 3) := by decide +kernel
theorem dL_law_73 : decode code 73 = .ok (.pop, 1) := by decide +kernel
theorem dL_law_74 : decode code 74 = .ok (.aload_n 1, 1) := by decide +kernel
theorem dL_law_75 : decode code 75 = .ok (.iconst 3, 1) := by decide +kernel
theorem dL_law_76 : decode code 76 = .ok (.iconst 1, 1) := by decide +kernel
theorem dL_law_77 : decode code 77 = .ok (.aload_n 0, 1) := by decide +kernel
theorem dL_law_78 : decode code 78 = .ok (.iconst 5, 1) := by decide +kernel
theorem dL_law_79 : decode code 79 = .ok (.bipush 6, 2) := by decide +kernel
theorem dL_law_81 : decode code 81 = .ok (.invokestatic 41, 3) := by decide +kernel
theorem dL_law_84 : decode code 84 = .ok (.iadd, 1) := by decide +kernel
theorem dL_law_85 : decode code 85 = .ok (.invokevirtual 48, 3) := by decide +kernel
theorem dL_law_88 : decode code 88 = .ok (.pop, 1) := by decide +kernel
theorem dL_law_89 : decode code 89 = .ok (.aload_n 1, 1) := by decide +kernel
theorem dL_law_90 : decode code 90 = .ok (.iconst 4, 1) := by decide +kernel
theorem dL_law_91 : decode code 91 = .ok (.iconst 1, 1) := by decide +kernel
theorem dL_law_92 : decode code 92 = .ok (.aload_n 0, 1) := by decide +kernel
theorem dL_law_93 : decode code 93 = .ok (.bipush 6, 2) := by decide +kernel
theorem dL_law_95 : decode code 95 = .ok (.bipush 9, 2) := by decide +kernel
theorem dL_law_97 : decode code 97 = .ok (.invokestatic 41, 3) := by decide +kernel
theorem dL_law_100 : decode code 100 = .ok (.iadd, 1) := by decide +kernel
theorem dL_law_101 : decode code 101 = .ok (.invokevirtual 48, 3) := by decide +kernel
theorem dL_law_104 : decode code 104 = .ok (.pop, 1) := by decide +kernel
theorem dL_law_105 : decode code 105 = .ok (.iconst 0, 1) := by decide +kernel
theorem dL_law_106 : decode code 106 = .ok (.istore_n 2, 1) := by decide +kernel
theorem dL_law_107 : decode code 107 = .ok (.iload_n 2, 1) := by decide +kernel
theorem dL_law_108 : decode code 108 = .ok (.bipush 26, 2) := by decide +kernel
theorem dL_law_110 : decode code 110 = .ok (.if_icmp .ge 278, 3) := by decide +kernel
theorem dL_law_113 : decode code 113 = .ok (.aload_n 0, 1) := by decide +kernel
theorem dL_law_114 : decode code 114 = .ok (.iconst 4, 1) := by decide +kernel
theorem dL_law_115 : decode code 115 = .ok (.iload_n 2, 1) := by decide +kernel
theorem dL_law_116 : decode code 116 = .ok (.imul, 1) := by decide +kernel
theorem dL_law_117 : decode code 117 = .ok (.bipush 7, 2) := by decide +kernel
theorem dL_law_119 : decode code 119 = .ok (.iadd, 1) := by decide +kernel
theorem dL_law_120 : decode code 120 = .ok (.bipush 8, 2) := by decide +kernel
theorem dL_law_122 : decode code 122 = .ok (.invokestatic 41, 3) := by decide +kernel
theorem dL_law_125 : decode code 125 = .ok (.istore_n 3, 1) := by decide +kernel
theorem dL_law_126 : decode code 126 = .ok (.aload_n 0, 1) := by decide +kernel
theorem dL_law_127 : decode code 127 = .ok (.iconst 4, 1) := by decide +kernel
theorem dL_law_128 : decode code 128 = .ok (.iload_n 2, 1) := by decide +kernel
theorem dL_law_129 : decode code 129 = .ok (.imul, 1) := by decide +kernel
theorem dL_law_130 : decode code 130 = .ok (.bipush 8, 2) := by decide +kernel
theorem dL_law_132 : decode code 132 = .ok (.iadd, 1) := by decide +kernel
theorem dL_law_133 : decode code 133 = .ok (.bipush 10, 2) := by decide +kernel
theorem dL_law_135 : decode code 135 = .ok (.invokestatic 41, 3) := by decide +kernel
theorem dL_law_138 : decode code 138 = .ok (.istore 4, 2) := by decide +kernel
theorem dL_law_140 : decode code 140 = .ok (.aload_n 1, 1) := by decide +kernel
theorem dL_law_141 : decode code 141 = .ok (.iload_n 3, 1) := by decide +kernel
theorem dL_law_142 : decode code 142 = .ok (.iconst 1, 1) := by decide +kernel
theorem dL_law_143 : decode code 143 = .ok (.invokevirtual 18, 3) := by decide +kernel
theorem dL_law_146 : decode code 146 = .ok (.istore 5, 2) := by decide +kernel
theorem dL_law_148 : decode code 148 = .ok (.aload_n 1, 1) := by decide +kernel
theorem dL_law_149 : decode code 149 = .ok (.iload_n 3, 1) := by decide +kernel
theorem dL_law_150 : decode code 150 = .ok (.iconst 0, 1) := by decide +kernel
theorem dL_law_151 : decode code 151 = .ok (.invokevirtual 18, 3) := by decide +kernel
theorem dL_law_154 : decode code 154 = .ok (.istore 6, 2) := by decide +kernel
theorem dL_law_156 : decode code 156 = .ok (.iload 4, 2) := by decide +kernel
theorem dL_law_158 : decode code 158 = .ok (.iconst 4, 1) := by decide +kernel
theorem dL_law_159 : decode code 159 = .ok (.if_icmp .ge 42, 3) := by decide +kernel
theorem dL_law_162 : decode code 162 = .ok (.iload 5, 2) := by decide +kernel
theorem dL_law_164 : decode code 164 = .ok (.iconst 1, 1) := by decide +kernel
theorem dL_law_165 : decode code 165 = .ok (.if_icmp .ne 8, 3) := by decide +kernel
theorem dL_law_168 : decode code 168 = .ok (.bipush (-5), 2) := by decide +kernel
theorem dL_law_170 : decode code 170 = .ok (.goto 14, 3) := by decide +kernel
theorem dL_law_173 : decode code 173 = .ok (.iload 6, 2) := by decide +kernel
theorem dL_law_175 : decode code 175 = .ok (.ifCond .ne 7, 3) := by decide +kernel
theorem dL_law_178 : decode code 178 = .ok (.iconst 1, 1) := by decide +kernel
theorem dL_law_179 : decode code 179 = .ok (.goto 5, 3) := by decide +kernel
theorem dL_law_182 : decode code 182 = .ok (.iload 6, 2) := by decide +kernel
theorem dL_law_184 : decode code 184 = .ok (.istore 7, 2) := by decide +kernel
theorem dL_law_186 : decode code 186 = .ok (.aload_n 1, 1) := by decide +kernel
theorem dL_law_187 : decode code 187 = .ok (.iload_n 3, 1) := by decide +kernel
theorem dL_law_188 : decode code 188 = .ok (.invokevirtual 51, 3) := by decide +kernel
theorem dL_law_191 : decode code 191 = .ok (.iload 7, 2) := by decide +kernel
theorem dL_law_193 : decode code 193 = .ok (.if_icmp .eq 5, 3) := by decide +kernel
theorem dL_law_196 : decode code 196 = .ok (.iconst 0, 1) := by decide +kernel
theorem dL_law_197 : decode code 197 = .ok (.ireturn, 1) := by decide +kernel
theorem dL_law_198 : decode code 198 = .ok (.goto 154, 3) := by decide +kernel
theorem dL_law_201 : decode code 201 = .ok (.iload 4, 2) := by decide +kernel
theorem dL_law_203 : decode code 203 = .ok (.bipush 6, 2) := by decide +kernel
theorem dL_law_205 : decode code 205 = .ok (.if_icmp .ge 59, 3) := by decide +kernel
theorem dL_law_208 : decode code 208 = .ok (.aload_n 1, 1) := by decide +kernel
theorem dL_law_209 : decode code 209 = .ok (.iload_n 3, 1) := by decide +kernel
theorem dL_law_210 : decode code 210 = .ok (.invokevirtual 54, 3) := by decide +kernel
theorem dL_law_213 : decode code 213 = .ok (.iload 5, 2) := by decide +kernel
theorem dL_law_215 : decode code 215 = .ok (.ifCond .ne 8, 3) := by decide +kernel
theorem dL_law_218 : decode code 218 = .ok (.bipush (-5), 2) := by decide +kernel
theorem dL_law_220 : decode code 220 = .ok (.goto 5, 3) := by decide +kernel
theorem dL_law_223 : decode code 223 = .ok (.iload 6, 2) := by decide +kernel
theorem dL_law_225 : decode code 225 = .ok (.if_icmp .ne 37, 3) := by decide +kernel
theorem dL_law_228 : decode code 228 = .ok (.iload 5, 2) := by decide +kernel
theorem dL_law_230 : decode code 230 = .ok (.iconst 1, 1) := by decide +kernel
theorem dL_law_231 : decode code 231 = .ok (.if_icmp .ne 121, 3) := by decide +kernel
theorem dL_law_234 : decode code 234 = .ok (.aload_n 1, 1) := by decide +kernel
theorem dL_law_235 : decode code 235 = .ok (.iload_n 3, 1) := by decide +kernel
theorem dL_law_236 : decode code 236 = .ok (.iconst 0, 1) := by decide +kernel
theorem dL_law_237 : decode code 237 = .ok (.invokevirtual 18, 3) := by decide +kernel
theorem dL_law_240 : decode code 240 = .ok (.iload 6, 2) := by decide +kernel
theorem dL_law_242 : decode code 242 = .ok (.iconst 5, 1) := by decide +kernel
theorem dL_law_243 : decode code 243 = .ok (.if_icmp .eq 10, 3) := by decide +kernel
theorem dL_law_246 : decode code 246 = .ok (.iload 6, 2) := by decide +kernel
theorem dL_law_248 : decode code 248 = .ok (.bipush 7, 2) := by decide +kernel
theorem dL_law_250 : decode code 250 = .ok (.if_icmp .ne 8, 3) := by decide +kernel
theorem dL_law_253 : decode code 253 = .ok (.iload 6, 2) := by decide +kernel
theorem dL_law_255 : decode code 255 = .ok (.goto 4, 3) := by decide +kernel
theorem dL_law_258 : decode code 258 = .ok (.iconst 0, 1) := by decide +kernel
theorem dL_law_259 : decode code 259 = .ok (.if_icmp .eq 93, 3) := by decide +kernel
theorem dL_law_262 : decode code 262 = .ok (.iconst 0, 1) := by decide +kernel
theorem dL_law_263 : decode code 263 = .ok (.ireturn, 1) := by decide +kernel
theorem dL_law_264 : decode code 264 = .ok (.iconst 0, 1) := by decide +kernel
theorem dL_law_265 : decode code 265 = .ok (.istore 7, 2) := by decide +kernel
theorem dL_law_267 : decode code 267 = .ok (.iload 7, 2) := by decide +kernel
theorem dL_law_269 : decode code 269 = .ok (.bipush 16, 2) := by decide +kernel
theorem dL_law_271 : decode code 271 = .ok (.if_icmp .ge 81, 3) := by decide +kernel
theorem dL_law_274 : decode code 274 = .ok (.aload_n 0, 1) := by decide +kernel
theorem dL_law_275 : decode code 275 = .ok (.iconst 4, 1) := by decide +kernel
theorem dL_law_276 : decode code 276 = .ok (.iload_n 2, 1) := by decide +kernel
theorem dL_law_277 : decode code 277 = .ok (.imul, 1) := by decide +kernel
theorem dL_law_278 : decode code 278 = .ok (.bipush 9, 2) := by decide +kernel
theorem dL_law_280 : decode code 280 = .ok (.iadd, 1) := by decide +kernel
theorem dL_law_281 : decode code 281 = .ok (.iload 7, 2) := by decide +kernel
theorem dL_law_283 : decode code 283 = .ok (.iadd, 1) := by decide +kernel
theorem dL_law_284 : decode code 284 = .ok (.bipush 16, 2) := by decide +kernel
theorem dL_law_286 : decode code 286 = .ok (.invokestatic 41, 3) := by decide +kernel
theorem dL_law_289 : decode code 289 = .ok (.istore 8, 2) := by decide +kernel
theorem dL_law_291 : decode code 291 = .ok (.aload_n 1, 1) := by decide +kernel
theorem dL_law_292 : decode code 292 = .ok (.iload 7, 2) := by decide +kernel
theorem dL_law_294 : decode code 294 = .ok (.iconst 0, 1) := by decide +kernel
theorem dL_law_295 : decode code 295 = .ok (.invokevirtual 18, 3) := by decide +kernel
theorem dL_law_298 : decode code 298 = .ok (.iconst 2, 1) := by decide +kernel
theorem dL_law_299 : decode code 299 = .ok (.if_icmp .ne 47, 3) := by decide +kernel
theorem dL_law_302 : decode code 302 = .ok (.aload_n 1, 1) := by decide +kernel
theorem dL_law_303 : decode code 303 = .ok (.iload 7, 2) := by decide +kernel
theorem dL_law_305 : decode code 305 = .ok (.iconst 4, 1) := by decide +kernel
theorem dL_law_306 : decode code 306 = .ok (.invokevirtual 18, 3) := by decide +kernel
theorem dL_law_309 : decode code 309 = .ok (.ifCond .ne 37, 3) := by decide +kernel
theorem dL_law_312 : decode code 312 = .ok (.aload_n 1, 1) := by decide +kernel
theorem dL_law_313 : decode code 313 = .ok (.iload 7, 2) := by decide +kernel
theorem dL_law_315 : decode code 315 = .ok (.iload 8, 2) := by decide +kernel
theorem dL_law_317 : decode code 317 = .ok (.iconst 4, 1) := by decide +kernel
theorem dL_law_318 : decode code 318 = .ok (.idiv, 1) := by decide +kernel
theorem dL_law_319 : decode code 319 = .ok (.iconst 1, 1) := by decide +kernel
theorem dL_law_320 : decode code 320 = .ok (.iadd, 1) := by decide +kernel
theorem dL_law_321 : decode code 321 = .ok (.invokevirtual 57, 3) := by decide +kernel
theorem dL_law_324 : decode code 324 = .ok (.iconst 1, 1) := by decide +kernel
theorem dL_law_325 : decode code 325 = .ok (.if_icmp .ne 19, 3) := by decide +kernel
theorem dL_law_328 : decode code 328 = .ok (.aload_n 1, 1) := by decide +kernel
theorem dL_law_329 : decode code 329 = .ok (.iload 7, 2) := by decide +kernel
theorem dL_law_331 : decode code 331 = .ok (.iload 8, 2) := by decide +kernel
theorem dL_law_333 : decode code 333 = .ok (.iconst 4, 1) := by decide +kernel
theorem dL_law_334 : decode code 334 = .ok (.irem, 1) := by decide +kernel
theorem dL_law_335 : decode code 335 = .ok (.iconst 1, 1) := by decide +kernel
theorem dL_law_336 : decode code 336 = .ok (.iadd, 1) := by decide +kernel
theorem dL_law_337 : decode code 337 = .ok (.invokevirtual 57, 3) := by decide +kernel
theorem dL_law_340 : decode code 340 = .ok (.iconst 2, 1) := by decide +kernel
theorem dL_law_341 : decode code 341 = .ok (.if_icmp .eq 5, 3) := by decide +kernel
theorem dL_law_344 : decode code 344 = .ok (.iconst 0, 1) := by decide +kernel
theorem dL_law_345 : decode code 345 = .ok (.ireturn, 1) := by decide +kernel
theorem dL_law_346 : decode code 346 = .ok (.iinc 7 1, 3) := by decide +kernel
theorem dL_law_349 : decode code 349 = .ok (.goto (-82), 3) := by decide +kernel
theorem dL_law_352 : decode code 352 = .ok (.aload_n 1, 1) := by decide +kernel
theorem dL_law_353 : decode code 353 = .ok (.invokestatic 36, 3) := by decide +kernel
theorem dL_law_356 : decode code 356 = .ok (.ifCond .eq 24, 3) := by decide +kernel
theorem dL_law_359 : decode code 359 = .ok (.aload_n 1, 1) := by decide +kernel
theorem dL_law_360 : decode code 360 = .ok (.iconst 1, 1) := by decide +kernel
theorem dL_law_361 : decode code 361 = .ok (.aload_n 0, 1) := by decide +kernel
theorem dL_law_362 : decode code 362 = .ok (.iconst 4, 1) := by decide +kernel
theorem dL_law_363 : decode code 363 = .ok (.iload_n 2, 1) := by decide +kernel
theorem dL_law_364 : decode code 364 = .ok (.imul, 1) := by decide +kernel
theorem dL_law_365 : decode code 365 = .ok (.bipush 10, 2) := by decide +kernel
theorem dL_law_367 : decode code 367 = .ok (.iadd, 1) := by decide +kernel
theorem dL_law_368 : decode code 368 = .ok (.bipush 7, 2) := by decide +kernel
theorem dL_law_370 : decode code 370 = .ok (.invokestatic 41, 3) := by decide +kernel
theorem dL_law_373 : decode code 373 = .ok (.iadd, 1) := by decide +kernel
theorem dL_law_374 : decode code 374 = .ok (.invokestatic 60, 3) := by decide +kernel
theorem dL_law_377 : decode code 377 = .ok (.ifCond .ne 5, 3) := by decide +kernel
theorem dL_law_380 : decode code 380 = .ok (.iconst 0, 1) := by decide +kernel
theorem dL_law_381 : decode code 381 = .ok (.ireturn, 1) := by decide +kernel
theorem dL_law_382 : decode code 382 = .ok (.iinc 2 1, 3) := by decide +kernel
theorem dL_law_385 : decode code 385 = .ok (.goto (-278), 3) := by decide +kernel
theorem dL_law_388 : decode code 388 = .ok (.aload_n 0, 1) := by decide +kernel
theorem dL_law_389 : decode code 389 = .ok (.bipush 120, 2) := by decide +kernel
theorem dL_law_391 : decode code 391 = .ok (.bipush 8, 2) := by decide +kernel
theorem dL_law_393 : decode code 393 = .ok (.invokestatic 41, 3) := by decide +kernel
theorem dL_law_396 : decode code 396 = .ok (.istore_n 2, 1) := by decide +kernel
theorem dL_law_397 : decode code 397 = .ok (.aload_n 0, 1) := by decide +kernel
theorem dL_law_398 : decode code 398 = .ok (.bipush 121, 2) := by decide +kernel
theorem dL_law_400 : decode code 400 = .ok (.bipush 12, 2) := by decide +kernel
theorem dL_law_402 : decode code 402 = .ok (.invokestatic 41, 3) := by decide +kernel
theorem dL_law_405 : decode code 405 = .ok (.istore_n 3, 1) := by decide +kernel
theorem dL_law_406 : decode code 406 = .ok (.aload_n 1, 1) := by decide +kernel
theorem dL_law_407 : decode code 407 = .ok (.iload_n 2, 1) := by decide +kernel
theorem dL_law_408 : decode code 408 = .ok (.iload_n 3, 1) := by decide +kernel
theorem dL_law_409 : decode code 409 = .ok (.bipush 60, 2) := by decide +kernel
theorem dL_law_411 : decode code 411 = .ok (.invokevirtual 64, 3) := by decide +kernel
theorem dL_law_414 : decode code 414 = .ok (.istore 4, 2) := by decide +kernel
theorem dL_law_416 : decode code 416 = .ok (.aload_n 1, 1) := by decide +kernel
theorem dL_law_417 : decode code 417 = .ok (.iconst 1, 1) := by decide +kernel
theorem dL_law_418 : decode code 418 = .ok (.invokevirtual 68, 3) := by decide +kernel
theorem dL_law_421 : decode code 421 = .ok (.pop, 1) := by decide +kernel
theorem dL_law_422 : decode code 422 = .ok (.iconst 0, 1) := by decide +kernel
theorem dL_law_423 : decode code 423 = .ok (.istore 5, 2) := by decide +kernel
theorem dL_law_425 : decode code 425 = .ok (.iload 5, 2) := by decide +kernel
theorem dL_law_427 : decode code 427 = .ok (.bipush 60, 2) := by decide +kernel
theorem dL_law_429 : decode code 429 = .ok (.if_icmp .gt 88, 3) := by decide +kernel
theorem dL_law_432 : decode code 432 = .ok (.aload_n 1, 1) := by decide +kernel
theorem dL_law_433 : decode code 433 = .ok (.iload_n 2, 1) := by decide +kernel
theorem dL_law_434 : decode code 434 = .ok (.iconst 0, 1) := by decide +kernel
theorem dL_law_435 : decode code 435 = .ok (.invokevirtual 18, 3) := by decide +kernel
theorem dL_law_438 : decode code 438 = .ok (.iload_n 3, 1) := by decide +kernel
theorem dL_law_439 : decode code 439 = .ok (.if_icmp .eq 10, 3) := by decide +kernel
theorem dL_law_442 : decode code 442 = .ok (.iload 5, 2) := by decide +kernel
theorem dL_law_444 : decode code 444 = .ok (.bipush 60, 2) := by decide +kernel
theorem dL_law_446 : decode code 446 = .ok (.if_icmp .ne 59, 3) := by decide +kernel
theorem dL_law_449 : decode code 449 = .ok (.iload 4, 2) := by decide +kernel
theorem dL_law_451 : decode code 451 = .ok (.aload_n 1, 1) := by decide +kernel
theorem dL_law_452 : decode code 452 = .ok (.iload_n 2, 1) := by decide +kernel
theorem dL_law_453 : decode code 453 = .ok (.iconst 0, 1) := by decide +kernel
theorem dL_law_454 : decode code 454 = .ok (.invokevirtual 18, 3) := by decide +kernel
theorem dL_law_457 : decode code 457 = .ok (.iload_n 3, 1) := by decide +kernel
theorem dL_law_458 : decode code 458 = .ok (.if_icmp .ne 8, 3) := by decide +kernel
theorem dL_law_461 : decode code 461 = .ok (.iload 5, 2) := by decide +kernel
theorem dL_law_463 : decode code 463 = .ok (.goto 5, 3) := by decide +kernel
theorem dL_law_466 : decode code 466 = .ok (.bipush (-6), 2) := by decide +kernel
theorem dL_law_468 : decode code 468 = .ok (.if_icmp .ne 35, 3) := by decide +kernel
theorem dL_law_471 : decode code 471 = .ok (.aload_n 1, 1) := by decide +kernel
theorem dL_law_472 : decode code 472 = .ok (.iconst 1, 1) := by decide +kernel
theorem dL_law_473 : decode code 473 = .ok (.invokevirtual 71, 3) := by decide +kernel
theorem dL_law_476 : decode code 476 = .ok (.ifCond .lt 27, 3) := by decide +kernel
theorem dL_law_479 : decode code 479 = .ok (.aload_n 1, 1) := by decide +kernel
theorem dL_law_480 : decode code 480 = .ok (.invokestatic 36, 3) := by decide +kernel
theorem dL_law_483 : decode code 483 = .ok (.ifCond .eq 20, 3) := by decide +kernel
theorem dL_law_486 : decode code 486 = .ok (.aload_n 1, 1) := by decide +kernel
theorem dL_law_487 : decode code 487 = .ok (.iload_n 2, 1) := by decide +kernel
theorem dL_law_488 : decode code 488 = .ok (.iload_n 3, 1) := by decide +kernel
theorem dL_law_489 : decode code 489 = .ok (.bipush 60, 2) := by decide +kernel
theorem dL_law_491 : decode code 491 = .ok (.invokevirtual 64, 3) := by decide +kernel
theorem dL_law_494 : decode code 494 = .ok (.iload 4, 2) := by decide +kernel
theorem dL_law_496 : decode code 496 = .ok (.if_icmp .ne 7, 3) := by decide +kernel
theorem dL_law_499 : decode code 499 = .ok (.iconst 1, 1) := by decide +kernel
theorem dL_law_500 : decode code 500 = .ok (.goto 4, 3) := by decide +kernel
theorem dL_law_503 : decode code 503 = .ok (.iconst 0, 1) := by decide +kernel
theorem dL_law_504 : decode code 504 = .ok (.ireturn, 1) := by decide +kernel
theorem dL_law_505 : decode code 505 = .ok (.aload_n 1, 1) := by decide +kernel
theorem dL_law_506 : decode code 506 = .ok (.iconst 1, 1) := by decide +kernel
theorem dL_law_507 : decode code 507 = .ok (.invokevirtual 33, 3) := by decide +kernel
theorem dL_law_510 : decode code 510 = .ok (.pop, 1) := by decide +kernel
theorem dL_law_511 : decode code 511 = .ok (.iinc 5 1, 3) := by decide +kernel
theorem dL_law_514 : decode code 514 = .ok (.goto (-89), 3) := by decide +kernel
theorem dL_law_517 : decode code 517 = .ok (.iconst 0, 1) := by decide +kernel
theorem dL_law_518 : decode code 518 = .ok (.ireturn, 1) := by decide +kernel
