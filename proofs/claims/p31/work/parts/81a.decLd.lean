theorem dL_law_698 : decode cL_law 698 = .ok (.if_icmp .ne 101, 3) := by decide +kernel
theorem dL_law_701 : decode cL_law 701 = .ok (.iload 8, 2) := by decide +kernel
theorem dL_law_703 : decode cL_law 703 = .ok (.bipush 11, 2) := by decide +kernel
theorem dL_law_705 : decode cL_law 705 = .ok (.ishr, 1) := by decide +kernel
theorem dL_law_706 : decode cL_law 706 = .ok (.iconst 2, 1) := by decide +kernel
theorem dL_law_707 : decode cL_law 707 = .ok (.invokestatic 65, 3) := by decide +kernel
theorem dL_law_710 : decode cL_law 710 = .ok (.ifCond .ne 89, 3) := by decide +kernel
theorem dL_law_713 : decode cL_law 713 = .ok (.iconst 0, 1) := by decide +kernel
theorem dL_law_714 : decode cL_law 714 = .ok (.istore 16, 2) := by decide +kernel
theorem dL_law_716 : decode cL_law 716 = .ok (.iconst 0, 1) := by decide +kernel
theorem dL_law_717 : decode cL_law 717 = .ok (.istore 17, 2) := by decide +kernel
theorem dL_law_719 : decode cL_law 719 = .ok (.iload 17, 2) := by decide +kernel
theorem dL_law_721 : decode cL_law 721 = .ok (.bipush 64, 2) := by decide +kernel
theorem dL_law_723 : decode cL_law 723 = .ok (.if_icmp .ge 57, 3) := by decide +kernel
theorem dL_law_726 : decode cL_law 726 = .ok (.aload 6, 2) := by decide +kernel
theorem dL_law_728 : decode cL_law 728 = .ok (.iload 17, 2) := by decide +kernel
theorem dL_law_730 : decode cL_law 730 = .ok (.bipush 8, 2) := by decide +kernel
theorem dL_law_732 : decode cL_law 732 = .ok (.idiv, 1) := by decide +kernel
theorem dL_law_733 : decode cL_law 733 = .ok (.iload 17, 2) := by decide +kernel
theorem dL_law_735 : decode cL_law 735 = .ok (.bipush 8, 2) := by decide +kernel
theorem dL_law_737 : decode cL_law 737 = .ok (.irem, 1) := by decide +kernel
theorem dL_law_738 : decode cL_law 738 = .ok (.ifCond .ne 7, 3) := by decide +kernel
theorem dL_law_741 : decode cL_law 741 = .ok (.iconst 0, 1) := by decide +kernel
theorem dL_law_742 : decode cL_law 742 = .ok (.goto 11, 3) := by decide +kernel
theorem dL_law_745 : decode cL_law 745 = .ok (.aload 6, 2) := by decide +kernel
theorem dL_law_747 : decode cL_law 747 = .ok (.iload 17, 2) := by decide +kernel
theorem dL_law_749 : decode cL_law 749 = .ok (.bipush 8, 2) := by decide +kernel
theorem dL_law_751 : decode cL_law 751 = .ok (.idiv, 1) := by decide +kernel
theorem dL_law_752 : decode cL_law 752 = .ok (.iaload, 1) := by decide +kernel
theorem dL_law_753 : decode cL_law 753 = .ok (.aload_n 3, 1) := by decide +kernel
theorem dL_law_754 : decode cL_law 754 = .ok (.iload 17, 2) := by decide +kernel
theorem dL_law_756 : decode cL_law 756 = .ok (.iaload, 1) := by decide +kernel
theorem dL_law_757 : decode cL_law 757 = .ok (.iload 17, 2) := by decide +kernel
theorem dL_law_759 : decode cL_law 759 = .ok (.bipush 8, 2) := by decide +kernel
theorem dL_law_761 : decode cL_law 761 = .ok (.irem, 1) := by decide +kernel
theorem dL_law_762 : decode cL_law 762 = .ok (.ishl, 1) := by decide +kernel
theorem dL_law_763 : decode cL_law 763 = .ok (.ior, 1) := by decide +kernel
theorem dL_law_764 : decode cL_law 764 = .ok (.iastore, 1) := by decide +kernel
theorem dL_law_765 : decode cL_law 765 = .ok (.iload 16, 2) := by decide +kernel
theorem dL_law_767 : decode cL_law 767 = .ok (.aload_n 3, 1) := by decide +kernel
theorem dL_law_768 : decode cL_law 768 = .ok (.iload 17, 2) := by decide +kernel
theorem dL_law_770 : decode cL_law 770 = .ok (.iaload, 1) := by decide +kernel
theorem dL_law_771 : decode cL_law 771 = .ok (.iadd, 1) := by decide +kernel
theorem dL_law_772 : decode cL_law 772 = .ok (.istore 16, 2) := by decide +kernel
theorem dL_law_774 : decode cL_law 774 = .ok (.iinc 17 1, 3) := by decide +kernel
theorem dL_law_777 : decode cL_law 777 = .ok (.goto (-58), 3) := by decide +kernel
theorem dL_law_780 : decode cL_law 780 = .ok (.aload_n 1, 1) := by decide +kernel
theorem dL_law_781 : decode cL_law 781 = .ok (.invokevirtual 92, 3) := by decide +kernel
theorem dL_law_784 : decode cL_law 784 = .ok (.iload 16, 2) := by decide +kernel
theorem dL_law_786 : decode cL_law 786 = .ok (.if_icmp .ne 7, 3) := by decide +kernel
theorem dL_law_789 : decode cL_law 789 = .ok (.iconst 1, 1) := by decide +kernel
theorem dL_law_790 : decode cL_law 790 = .ok (.goto 4, 3) := by decide +kernel
theorem dL_law_793 : decode cL_law 793 = .ok (.iconst 0, 1) := by decide +kernel
theorem dL_law_794 : decode cL_law 794 = .ok (.istore 15, 2) := by decide +kernel
theorem dL_law_796 : decode cL_law 796 = .ok (.goto 97, 3) := by decide +kernel
theorem dL_law_799 : decode cL_law 799 = .ok (.iload 8, 2) := by decide +kernel
theorem dL_law_801 : decode cL_law 801 = .ok (.bipush 11, 2) := by decide +kernel
theorem dL_law_803 : decode cL_law 803 = .ok (.ishr, 1) := by decide +kernel
theorem dL_law_804 : decode cL_law 804 = .ok (.bipush 8, 2) := by decide +kernel
theorem dL_law_806 : decode cL_law 806 = .ok (.invokestatic 65, 3) := by decide +kernel
theorem dL_law_809 : decode cL_law 809 = .ok (.istore 16, 2) := by decide +kernel
theorem dL_law_811 : decode cL_law 811 = .ok (.iload 8, 2) := by decide +kernel
theorem dL_law_813 : decode cL_law 813 = .ok (.bipush 14, 2) := by decide +kernel
theorem dL_law_815 : decode cL_law 815 = .ok (.ishr, 1) := by decide +kernel
theorem dL_law_816 : decode cL_law 816 = .ok (.iload 8, 2) := by decide +kernel
theorem dL_law_818 : decode cL_law 818 = .ok (.bipush 25, 2) := by decide +kernel
theorem dL_law_820 : decode cL_law 820 = .ok (.ishr, 1) := by decide +kernel
theorem dL_law_821 : decode cL_law 821 = .ok (.iconst 2, 1) := by decide +kernel
theorem dL_law_822 : decode cL_law 822 = .ok (.invokestatic 65, 3) := by decide +kernel
theorem dL_law_825 : decode cL_law 825 = .ok (.ifCond .ne 9, 3) := by decide +kernel
theorem dL_law_828 : decode cL_law 828 = .ok (.sipush 256, 3) := by decide +kernel
theorem dL_law_831 : decode cL_law 831 = .ok (.goto 4, 3) := by decide +kernel
theorem dL_law_834 : decode cL_law 834 = .ok (.iconst 4, 1) := by decide +kernel
theorem dL_law_835 : decode cL_law 835 = .ok (.invokestatic 65, 3) := by decide +kernel
theorem dL_law_838 : decode cL_law 838 = .ok (.iload 8, 2) := by decide +kernel
theorem dL_law_840 : decode cL_law 840 = .ok (.bipush 26, 2) := by decide +kernel
theorem dL_law_842 : decode cL_law 842 = .ok (.ishr, 1) := by decide +kernel
theorem dL_law_843 : decode cL_law 843 = .ok (.iconst 2, 1) := by decide +kernel
theorem dL_law_844 : decode cL_law 844 = .ok (.invokestatic 65, 3) := by decide +kernel
theorem dL_law_847 : decode cL_law 847 = .ok (.ifCond .ne 7, 3) := by decide +kernel
theorem dL_law_850 : decode cL_law 850 = .ok (.iconst 1, 1) := by decide +kernel
theorem dL_law_851 : decode cL_law 851 = .ok (.goto 5, 3) := by decide +kernel
theorem dL_law_854 : decode cL_law 854 = .ok (.bipush 85, 2) := by decide +kernel
theorem dL_law_856 : decode cL_law 856 = .ok (.imul, 1) := by decide +kernel
theorem dL_law_857 : decode cL_law 857 = .ok (.sipush 255, 3) := by decide +kernel
theorem dL_law_860 : decode cL_law 860 = .ok (.iand, 1) := by decide +kernel
theorem dL_law_861 : decode cL_law 861 = .ok (.istore 17, 2) := by decide +kernel
theorem dL_law_863 : decode cL_law 863 = .ok (.aload_n 1, 1) := by decide +kernel
theorem dL_law_864 : decode cL_law 864 = .ok (.iload 16, 2) := by decide +kernel
theorem dL_law_866 : decode cL_law 866 = .ok (.iload 17, 2) := by decide +kernel
theorem dL_law_868 : decode cL_law 868 = .ok (.invokevirtual 95, 3) := by decide +kernel
theorem dL_law_871 : decode cL_law 871 = .ok (.aload 6, 2) := by decide +kernel
theorem dL_law_873 : decode cL_law 873 = .ok (.iload 16, 2) := by decide +kernel
theorem dL_law_875 : decode cL_law 875 = .ok (.iaload, 1) := by decide +kernel
theorem dL_law_876 : decode cL_law 876 = .ok (.if_icmp .ne 7, 3) := by decide +kernel
theorem dL_law_879 : decode cL_law 879 = .ok (.iconst 1, 1) := by decide +kernel
theorem dL_law_880 : decode cL_law 880 = .ok (.goto 4, 3) := by decide +kernel
theorem dL_law_883 : decode cL_law 883 = .ok (.iconst 0, 1) := by decide +kernel
theorem dL_law_884 : decode cL_law 884 = .ok (.istore 15, 2) := by decide +kernel
theorem dL_law_886 : decode cL_law 886 = .ok (.aload 6, 2) := by decide +kernel
theorem dL_law_888 : decode cL_law 888 = .ok (.iload 16, 2) := by decide +kernel
theorem dL_law_890 : decode cL_law 890 = .ok (.iload 17, 2) := by decide +kernel
theorem dL_law_892 : decode cL_law 892 = .ok (.iastore, 1) := by decide +kernel
theorem dL_law_893 : decode cL_law 893 = .ok (.iload 15, 2) := by decide +kernel
theorem dL_law_895 : decode cL_law 895 = .ok (.ifCond .eq 18, 3) := by decide +kernel
theorem dL_law_898 : decode cL_law 898 = .ok (.aload_n 1, 1) := by decide +kernel
theorem dL_law_899 : decode cL_law 899 = .ok (.aload_n 2, 1) := by decide +kernel
theorem dL_law_900 : decode cL_law 900 = .ok (.aload_n 3, 1) := by decide +kernel
theorem dL_law_901 : decode cL_law 901 = .ok (.aload 4, 2) := by decide +kernel
theorem dL_law_903 : decode cL_law 903 = .ok (.aload 5, 2) := by decide +kernel
theorem dL_law_905 : decode cL_law 905 = .ok (.aload 6, 2) := by decide +kernel
theorem dL_law_907 : decode cL_law 907 = .ok (.invokestatic 98, 3) := by decide +kernel
theorem dL_law_910 : decode cL_law 910 = .ok (.ifCond .ne 5, 3) := by decide +kernel
theorem dL_law_913 : decode cL_law 913 = .ok (.iconst 0, 1) := by decide +kernel
theorem dL_law_914 : decode cL_law 914 = .ok (.ireturn, 1) := by decide +kernel
theorem dL_law_915 : decode cL_law 915 = .ok (.aload_n 0, 1) := by decide +kernel
theorem dL_law_916 : decode cL_law 916 = .ok (.bipush 40, 2) := by decide +kernel
theorem dL_law_918 : decode cL_law 918 = .ok (.iload 7, 2) := by decide +kernel
theorem dL_law_920 : decode cL_law 920 = .ok (.iadd, 1) := by decide +kernel
theorem dL_law_921 : decode cL_law 921 = .ok (.invokestatic 62, 3) := by decide +kernel
theorem dL_law_924 : decode cL_law 924 = .ok (.istore 16, 2) := by decide +kernel
theorem dL_law_926 : decode cL_law 926 = .ok (.iload 16, 2) := by decide +kernel
theorem dL_law_928 : decode cL_law 928 = .ok (.aload_n 2, 1) := by decide +kernel
theorem dL_law_929 : decode cL_law 929 = .ok (.aload_n 2, 1) := by decide +kernel
theorem dL_law_930 : decode cL_law 930 = .ok (.bipush 6, 2) := by decide +kernel
theorem dL_law_932 : decode cL_law 932 = .ok (.iaload, 1) := by decide +kernel
theorem dL_law_933 : decode cL_law 933 = .ok (.invokestatic 10, 3) := by decide +kernel
theorem dL_law_936 : decode cL_law 936 = .ok (.invokestatic 65, 3) := by decide +kernel
theorem dL_law_939 : decode cL_law 939 = .ok (.istore 17, 2) := by decide +kernel
theorem dL_law_941 : decode cL_law 941 = .ok (.iload 16, 2) := by decide +kernel
theorem dL_law_943 : decode cL_law 943 = .ok (.iconst 3, 1) := by decide +kernel
theorem dL_law_944 : decode cL_law 944 = .ok (.ishr, 1) := by decide +kernel
theorem dL_law_945 : decode cL_law 945 = .ok (.aload_n 2, 1) := by decide +kernel
theorem dL_law_946 : decode cL_law 946 = .ok (.aload_n 2, 1) := by decide +kernel
theorem dL_law_947 : decode cL_law 947 = .ok (.bipush 6, 2) := by decide +kernel
theorem dL_law_949 : decode cL_law 949 = .ok (.iaload, 1) := by decide +kernel
theorem dL_law_950 : decode cL_law 950 = .ok (.invokestatic 16, 3) := by decide +kernel
theorem dL_law_953 : decode cL_law 953 = .ok (.invokestatic 65, 3) := by decide +kernel
theorem dL_law_956 : decode cL_law 956 = .ok (.istore 18, 2) := by decide +kernel
theorem dL_law_958 : decode cL_law 958 = .ok (.aload_n 2, 1) := by decide +kernel
theorem dL_law_959 : decode cL_law 959 = .ok (.aload_n 3, 1) := by decide +kernel
theorem dL_law_960 : decode cL_law 960 = .ok (.iload 17, 2) := by decide +kernel
theorem dL_law_962 : decode cL_law 962 = .ok (.iload 18, 2) := by decide +kernel
theorem dL_law_964 : decode cL_law 964 = .ok (.invokestatic 82, 3) := by decide +kernel
theorem dL_law_967 : decode cL_law 967 = .ok (.istore 19, 2) := by decide +kernel
theorem dL_law_969 : decode cL_law 969 = .ok (.bipush (-6), 2) := by decide +kernel
theorem dL_law_971 : decode cL_law 971 = .ok (.istore 20, 2) := by decide +kernel
theorem dL_law_973 : decode cL_law 973 = .ok (.bipush 64, 2) := by decide +kernel
theorem dL_law_975 : decode cL_law 975 = .ok (.newarray .int, 2) := by decide +kernel
theorem dL_law_977 : decode cL_law 977 = .ok (.astore 21, 2) := by decide +kernel
theorem dL_law_979 : decode cL_law 979 = .ok (.iconst 0, 1) := by decide +kernel
theorem dL_law_980 : decode cL_law 980 = .ok (.istore 22, 2) := by decide +kernel
theorem dL_law_982 : decode cL_law 982 = .ok (.iload 22, 2) := by decide +kernel
theorem dL_law_984 : decode cL_law 984 = .ok (.bipush 64, 2) := by decide +kernel
theorem dL_law_986 : decode cL_law 986 = .ok (.if_icmp .ge 47, 3) := by decide +kernel
theorem dL_law_989 : decode cL_law 989 = .ok (.aload 21, 2) := by decide +kernel
theorem dL_law_991 : decode cL_law 991 = .ok (.iload 22, 2) := by decide +kernel
theorem dL_law_993 : decode cL_law 993 = .ok (.aload_n 3, 1) := by decide +kernel
theorem dL_law_994 : decode cL_law 994 = .ok (.iload 22, 2) := by decide +kernel
theorem dL_law_996 : decode cL_law 996 = .ok (.iaload, 1) := by decide +kernel
theorem dL_law_997 : decode cL_law 997 = .ok (.iconst 1, 1) := by decide +kernel
theorem dL_law_998 : decode cL_law 998 = .ok (.if_icmp .eq 23, 3) := by decide +kernel
theorem dL_law_1001 : decode cL_law 1001 = .ok (.aload_n 2, 1) := by decide +kernel
theorem dL_law_1002 : decode cL_law 1002 = .ok (.iload 22, 2) := by decide +kernel
theorem dL_law_1004 : decode cL_law 1004 = .ok (.invokestatic 19, 3) := by decide +kernel
theorem dL_law_1007 : decode cL_law 1007 = .ok (.bipush 64, 2) := by decide +kernel
theorem dL_law_1009 : decode cL_law 1009 = .ok (.irem, 1) := by decide +kernel
theorem dL_law_1010 : decode cL_law 1010 = .ok (.iload 17, 2) := by decide +kernel
theorem dL_law_1012 : decode cL_law 1012 = .ok (.bipush 8, 2) := by decide +kernel
theorem dL_law_1014 : decode cL_law 1014 = .ok (.iload 18, 2) := by decide +kernel
theorem dL_law_1016 : decode cL_law 1016 = .ok (.imul, 1) := by decide +kernel
theorem dL_law_1017 : decode cL_law 1017 = .ok (.iadd, 1) := by decide +kernel
theorem dL_law_1018 : decode cL_law 1018 = .ok (.if_icmp .ne 7, 3) := by decide +kernel
theorem dL_law_1021 : decode cL_law 1021 = .ok (.iconst 1, 1) := by decide +kernel
theorem dL_law_1022 : decode cL_law 1022 = .ok (.goto 4, 3) := by decide +kernel
theorem dL_law_1025 : decode cL_law 1025 = .ok (.iconst 0, 1) := by decide +kernel
theorem dL_law_1026 : decode cL_law 1026 = .ok (.iastore, 1) := by decide +kernel
theorem dL_law_1027 : decode cL_law 1027 = .ok (.iinc 22 1, 3) := by decide +kernel
theorem dL_law_1030 : decode cL_law 1030 = .ok (.goto (-48), 3) := by decide +kernel
theorem dL_law_1033 : decode cL_law 1033 = .ok (.iload 19, 2) := by decide +kernel
theorem dL_law_1035 : decode cL_law 1035 = .ok (.aload_n 2, 1) := by decide +kernel
theorem dL_law_1036 : decode cL_law 1036 = .ok (.invokestatic 22, 3) := by decide +kernel
theorem dL_law_1039 : decode cL_law 1039 = .ok (.if_icmp .ge 48, 3) := by decide +kernel
theorem dL_law_1042 : decode cL_law 1042 = .ok (.aload_n 2, 1) := by decide +kernel
theorem dL_law_1043 : decode cL_law 1043 = .ok (.iload 17, 2) := by decide +kernel
theorem dL_law_1045 : decode cL_law 1045 = .ok (.iload 18, 2) := by decide +kernel
theorem dL_law_1047 : decode cL_law 1047 = .ok (.iload 19, 2) := by decide +kernel
theorem dL_law_1049 : decode cL_law 1049 = .ok (.invokestatic 26, 3) := by decide +kernel
theorem dL_law_1052 : decode cL_law 1052 = .ok (.istore 22, 2) := by decide +kernel
theorem dL_law_1054 : decode cL_law 1054 = .ok (.bipush 10, 2) := by decide +kernel
theorem dL_law_1056 : decode cL_law 1056 = .ok (.iload 22, 2) := by decide +kernel
theorem dL_law_1058 : decode cL_law 1058 = .ok (.imul, 1) := by decide +kernel
theorem dL_law_1059 : decode cL_law 1059 = .ok (.aload_n 2, 1) := by decide +kernel
theorem dL_law_1060 : decode cL_law 1060 = .ok (.iload 22, 2) := by decide +kernel
theorem dL_law_1062 : decode cL_law 1062 = .ok (.invokestatic 19, 3) := by decide +kernel
theorem dL_law_1065 : decode cL_law 1065 = .ok (.sipush 4095, 3) := by decide +kernel
theorem dL_law_1068 : decode cL_law 1068 = .ok (.if_icmp .le 11, 3) := by decide +kernel
theorem dL_law_1071 : decode cL_law 1071 = .ok (.aload 5, 2) := by decide +kernel
theorem dL_law_1073 : decode cL_law 1073 = .ok (.iload 22, 2) := by decide +kernel
theorem dL_law_1075 : decode cL_law 1075 = .ok (.iaload, 1) := by decide +kernel
theorem dL_law_1076 : decode cL_law 1076 = .ok (.goto 8, 3) := by decide +kernel
theorem dL_law_1079 : decode cL_law 1079 = .ok (.aload 4, 2) := by decide +kernel
theorem dL_law_1081 : decode cL_law 1081 = .ok (.iload 22, 2) := by decide +kernel
theorem dL_law_1083 : decode cL_law 1083 = .ok (.iaload, 1) := by decide +kernel
theorem dL_law_1084 : decode cL_law 1084 = .ok (.iadd, 1) := by decide +kernel
theorem dL_law_1085 : decode cL_law 1085 = .ok (.istore 20, 2) := by decide +kernel
theorem dL_law_1087 : decode cL_law 1087 = .ok (.aload_n 3, 1) := by decide +kernel
theorem dL_law_1088 : decode cL_law 1088 = .ok (.iconst 0, 1) := by decide +kernel
theorem dL_law_1089 : decode cL_law 1089 = .ok (.invokestatic 102, 3) := by decide +kernel
theorem dL_law_1092 : decode cL_law 1092 = .ok (.ifCond .eq 7, 3) := by decide +kernel
theorem dL_law_1095 : decode cL_law 1095 = .ok (.iconst 1, 1) := by decide +kernel
theorem dL_law_1096 : decode cL_law 1096 = .ok (.goto 4, 3) := by decide +kernel
theorem dL_law_1099 : decode cL_law 1099 = .ok (.iconst 0, 1) := by decide +kernel
theorem dL_law_1100 : decode cL_law 1100 = .ok (.aload_n 3, 1) := by decide +kernel
theorem dL_law_1101 : decode cL_law 1101 = .ok (.iconst 1, 1) := by decide +kernel
theorem dL_law_1102 : decode cL_law 1102 = .ok (.invokestatic 102, 3) := by decide +kernel
theorem dL_law_1105 : decode cL_law 1105 = .ok (.ifCond .eq 7, 3) := by decide +kernel
theorem dL_law_1108 : decode cL_law 1108 = .ok (.iconst 2, 1) := by decide +kernel
theorem dL_law_1109 : decode cL_law 1109 = .ok (.goto 4, 3) := by decide +kernel
theorem dL_law_1112 : decode cL_law 1112 = .ok (.iconst 0, 1) := by decide +kernel
theorem dL_law_1113 : decode cL_law 1113 = .ok (.iadd, 1) := by decide +kernel
theorem dL_law_1114 : decode cL_law 1114 = .ok (.aload_n 3, 1) := by decide +kernel
theorem dL_law_1115 : decode cL_law 1115 = .ok (.iconst 2, 1) := by decide +kernel
theorem dL_law_1116 : decode cL_law 1116 = .ok (.invokestatic 102, 3) := by decide +kernel
theorem dL_law_1119 : decode cL_law 1119 = .ok (.ifCond .eq 7, 3) := by decide +kernel
theorem dL_law_1122 : decode cL_law 1122 = .ok (.iconst 4, 1) := by decide +kernel
theorem dL_law_1123 : decode cL_law 1123 = .ok (.goto 4, 3) := by decide +kernel
theorem dL_law_1126 : decode cL_law 1126 = .ok (.iconst 0, 1) := by decide +kernel
theorem dL_law_1127 : decode cL_law 1127 = .ok (.iadd, 1) := by decide +kernel
theorem dL_law_1128 : decode cL_law 1128 = .ok (.aload_n 3, 1) := by decide +kernel
theorem dL_law_1129 : decode cL_law 1129 = .ok (.iconst 3, 1) := by decide +kernel
theorem dL_law_1130 : decode cL_law 1130 = .ok (.invokestatic 102, 3) := by decide +kernel
theorem dL_law_1133 : decode cL_law 1133 = .ok (.ifCond .eq 8, 3) := by decide +kernel
theorem dL_law_1136 : decode cL_law 1136 = .ok (.bipush 8, 2) := by decide +kernel
theorem dL_law_1138 : decode cL_law 1138 = .ok (.goto 4, 3) := by decide +kernel
theorem dL_law_1141 : decode cL_law 1141 = .ok (.iconst 0, 1) := by decide +kernel
theorem dL_law_1142 : decode cL_law 1142 = .ok (.iadd, 1) := by decide +kernel
theorem dL_law_1143 : decode cL_law 1143 = .ok (.istore 22, 2) := by decide +kernel
theorem dL_law_1145 : decode cL_law 1145 = .ok (.aload_n 2, 1) := by decide +kernel
theorem dL_law_1146 : decode cL_law 1146 = .ok (.aload 6, 2) := by decide +kernel
theorem dL_law_1148 : decode cL_law 1148 = .ok (.invokestatic 106, 3) := by decide +kernel
theorem dL_law_1151 : decode cL_law 1151 = .ok (.istore 23, 2) := by decide +kernel
theorem dL_law_1153 : decode cL_law 1153 = .ok (.aload_n 1, 1) := by decide +kernel
theorem dL_law_1154 : decode cL_law 1154 = .ok (.iload 17, 2) := by decide +kernel
theorem dL_law_1156 : decode cL_law 1156 = .ok (.iload 18, 2) := by decide +kernel
theorem dL_law_1158 : decode cL_law 1158 = .ok (.invokevirtual 110, 3) := by decide +kernel
theorem dL_law_1161 : decode cL_law 1161 = .ok (.iload 20, 2) := by decide +kernel
theorem dL_law_1163 : decode cL_law 1163 = .ok (.if_icmp .ne 50, 3) := by decide +kernel
theorem dL_law_1166 : decode cL_law 1166 = .ok (.aload_n 1, 1) := by decide +kernel
theorem dL_law_1167 : decode cL_law 1167 = .ok (.iload 17, 2) := by decide +kernel
theorem dL_law_1169 : decode cL_law 1169 = .ok (.iload 18, 2) := by decide +kernel
theorem dL_law_1171 : decode cL_law 1171 = .ok (.invokevirtual 113, 3) := by decide +kernel
theorem dL_law_1174 : decode cL_law 1174 = .ok (.aload 21, 2) := by decide +kernel
theorem dL_law_1176 : decode cL_law 1176 = .ok (.invokestatic 52, 3) := by decide +kernel
theorem dL_law_1179 : decode cL_law 1179 = .ok (.bipush 100, 2) := by decide +kernel
theorem dL_law_1181 : decode cL_law 1181 = .ok (.irem, 1) := by decide +kernel
theorem dL_law_1182 : decode cL_law 1182 = .ok (.if_icmp .ne 31, 3) := by decide +kernel
theorem dL_law_1185 : decode cL_law 1185 = .ok (.aload_n 1, 1) := by decide +kernel
theorem dL_law_1186 : decode cL_law 1186 = .ok (.invokevirtual 116, 3) := by decide +kernel
theorem dL_law_1189 : decode cL_law 1189 = .ok (.iload 22, 2) := by decide +kernel
theorem dL_law_1191 : decode cL_law 1191 = .ok (.if_icmp .ne 22, 3) := by decide +kernel
theorem dL_law_1194 : decode cL_law 1194 = .ok (.aload_n 1, 1) := by decide +kernel
theorem dL_law_1195 : decode cL_law 1195 = .ok (.invokevirtual 119, 3) := by decide +kernel
theorem dL_law_1198 : decode cL_law 1198 = .ok (.iload 23, 2) := by decide +kernel
theorem dL_law_1200 : decode cL_law 1200 = .ok (.ifCond .ge 8, 3) := by decide +kernel
theorem dL_law_1203 : decode cL_law 1203 = .ok (.bipush (-6), 2) := by decide +kernel
theorem dL_law_1205 : decode cL_law 1205 = .ok (.goto 5, 3) := by decide +kernel
theorem dL_law_1208 : decode cL_law 1208 = .ok (.iload 23, 2) := by decide +kernel
theorem dL_law_1210 : decode cL_law 1210 = .ok (.if_icmp .eq 5, 3) := by decide +kernel
theorem dL_law_1213 : decode cL_law 1213 = .ok (.iconst 0, 1) := by decide +kernel
theorem dL_law_1214 : decode cL_law 1214 = .ok (.ireturn, 1) := by decide +kernel
theorem dL_law_1215 : decode cL_law 1215 = .ok (.iload 7, 2) := by decide +kernel
theorem dL_law_1217 : decode cL_law 1217 = .ok (.iconst 4, 1) := by decide +kernel
theorem dL_law_1218 : decode cL_law 1218 = .ok (.irem, 1) := by decide +kernel
theorem dL_law_1219 : decode cL_law 1219 = .ok (.iconst 3, 1) := by decide +kernel
theorem dL_law_1220 : decode cL_law 1220 = .ok (.if_icmp .ne 188, 3) := by decide +kernel
theorem dL_law_1223 : decode cL_law 1223 = .ok (.bipush 7, 2) := by decide +kernel
theorem dL_law_1225 : decode cL_law 1225 = .ok (.newarray .int, 2) := by decide +kernel
theorem dL_law_1227 : decode cL_law 1227 = .ok (.astore 24, 2) := by decide +kernel
theorem dL_law_1229 : decode cL_law 1229 = .ok (.iconst (-1), 1) := by decide +kernel
theorem dL_law_1230 : decode cL_law 1230 = .ok (.istore 25, 2) := by decide +kernel
theorem dL_law_1232 : decode cL_law 1232 = .ok (.iconst 0, 1) := by decide +kernel
theorem dL_law_1233 : decode cL_law 1233 = .ok (.istore 26, 2) := by decide +kernel
theorem dL_law_1235 : decode cL_law 1235 = .ok (.iconst 0, 1) := by decide +kernel
theorem dL_law_1236 : decode cL_law 1236 = .ok (.istore 27, 2) := by decide +kernel
theorem dL_law_1238 : decode cL_law 1238 = .ok (.iload 27, 2) := by decide +kernel
theorem dL_law_1240 : decode cL_law 1240 = .ok (.bipush 64, 2) := by decide +kernel
theorem dL_law_1242 : decode cL_law 1242 = .ok (.if_icmp .ge 155, 3) := by decide +kernel
theorem dL_law_1245 : decode cL_law 1245 = .ok (.iload 27, 2) := by decide +kernel
theorem dL_law_1247 : decode cL_law 1247 = .ok (.bipush 8, 2) := by decide +kernel
theorem dL_law_1249 : decode cL_law 1249 = .ok (.idiv, 1) := by decide +kernel
theorem dL_law_1250 : decode cL_law 1250 = .ok (.istore 28, 2) := by decide +kernel
theorem dL_law_1252 : decode cL_law 1252 = .ok (.iload 27, 2) := by decide +kernel
theorem dL_law_1254 : decode cL_law 1254 = .ok (.bipush 8, 2) := by decide +kernel
theorem dL_law_1256 : decode cL_law 1256 = .ok (.irem, 1) := by decide +kernel
theorem dL_law_1257 : decode cL_law 1257 = .ok (.istore 29, 2) := by decide +kernel
theorem dL_law_1259 : decode cL_law 1259 = .ok (.iload 29, 2) := by decide +kernel
theorem dL_law_1261 : decode cL_law 1261 = .ok (.iload 28, 2) := by decide +kernel
theorem dL_law_1263 : decode cL_law 1263 = .ok (.if_icmp .gt 128, 3) := by decide +kernel
theorem dL_law_1266 : decode cL_law 1266 = .ok (.iload 29, 2) := by decide +kernel
theorem dL_law_1268 : decode cL_law 1268 = .ok (.iconst 3, 1) := by decide +kernel
theorem dL_law_1269 : decode cL_law 1269 = .ok (.if_icmp .gt 122, 3) := by decide +kernel
theorem dL_law_1272 : decode cL_law 1272 = .ok (.iload 28, 2) := by decide +kernel
theorem dL_law_1274 : decode cL_law 1274 = .ok (.iload 29, 2) := by decide +kernel
theorem dL_law_1276 : decode cL_law 1276 = .ok (.isub, 1) := by decide +kernel
theorem dL_law_1277 : decode cL_law 1277 = .ok (.iconst 3, 1) := by decide +kernel
theorem dL_law_1278 : decode cL_law 1278 = .ok (.if_icmp .gt 113, 3) := by decide +kernel
theorem dL_law_1281 : decode cL_law 1281 = .ok (.iconst 0, 1) := by decide +kernel
theorem dL_law_1282 : decode cL_law 1282 = .ok (.istore 30, 2) := by decide +kernel
theorem dL_law_1284 : decode cL_law 1284 = .ok (.iload 30, 2) := by decide +kernel
theorem dL_law_1286 : decode cL_law 1286 = .ok (.bipush 6, 2) := by decide +kernel
theorem dL_law_1288 : decode cL_law 1288 = .ok (.if_icmp .ge 26, 3) := by decide +kernel
theorem dL_law_1291 : decode cL_law 1291 = .ok (.aload 24, 2) := by decide +kernel
theorem dL_law_1293 : decode cL_law 1293 = .ok (.iload 30, 2) := by decide +kernel
theorem dL_law_1295 : decode cL_law 1295 = .ok (.iload 30, 2) := by decide +kernel
theorem dL_law_1297 : decode cL_law 1297 = .ok (.iload 29, 2) := by decide +kernel
theorem dL_law_1299 : decode cL_law 1299 = .ok (.if_icmp .ge 7, 3) := by decide +kernel
theorem dL_law_1302 : decode cL_law 1302 = .ok (.iconst 1, 1) := by decide +kernel
theorem dL_law_1303 : decode cL_law 1303 = .ok (.goto 4, 3) := by decide +kernel
theorem dL_law_1306 : decode cL_law 1306 = .ok (.iconst 3, 1) := by decide +kernel
theorem dL_law_1307 : decode cL_law 1307 = .ok (.iastore, 1) := by decide +kernel
theorem dL_law_1308 : decode cL_law 1308 = .ok (.iinc 30 1, 3) := by decide +kernel
theorem dL_law_1311 : decode cL_law 1311 = .ok (.goto (-27), 3) := by decide +kernel
theorem dL_law_1314 : decode cL_law 1314 = .ok (.aload 24, 2) := by decide +kernel
theorem dL_law_1316 : decode cL_law 1316 = .ok (.bipush 6, 2) := by decide +kernel
theorem dL_law_1318 : decode cL_law 1318 = .ok (.iload 28, 2) := by decide +kernel
theorem dL_law_1320 : decode cL_law 1320 = .ok (.iastore, 1) := by decide +kernel
theorem dL_law_1321 : decode cL_law 1321 = .ok (.aload 24, 2) := by decide +kernel
theorem dL_law_1323 : decode cL_law 1323 = .ok (.aload 6, 2) := by decide +kernel
theorem dL_law_1325 : decode cL_law 1325 = .ok (.invokestatic 106, 3) := by decide +kernel
theorem dL_law_1328 : decode cL_law 1328 = .ok (.istore 30, 2) := by decide +kernel
theorem dL_law_1330 : decode cL_law 1330 = .ok (.iload 30, 2) := by decide +kernel
theorem dL_law_1332 : decode cL_law 1332 = .ok (.ifCond .lt 19, 3) := by decide +kernel
theorem dL_law_1335 : decode cL_law 1335 = .ok (.iload 25, 2) := by decide +kernel
theorem dL_law_1337 : decode cL_law 1337 = .ok (.ifCond .lt 10, 3) := by decide +kernel
theorem dL_law_1340 : decode cL_law 1340 = .ok (.iload 30, 2) := by decide +kernel
theorem dL_law_1342 : decode cL_law 1342 = .ok (.iload 26, 2) := by decide +kernel
theorem dL_law_1344 : decode cL_law 1344 = .ok (.if_icmp .ge 7, 3) := by decide +kernel
theorem dL_law_1347 : decode cL_law 1347 = .ok (.iconst 1, 1) := by decide +kernel
theorem dL_law_1348 : decode cL_law 1348 = .ok (.goto 4, 3) := by decide +kernel
theorem dL_law_1351 : decode cL_law 1351 = .ok (.iconst 0, 1) := by decide +kernel
theorem dL_law_1352 : decode cL_law 1352 = .ok (.istore 31, 2) := by decide +kernel
theorem dL_law_1354 : decode cL_law 1354 = .ok (.iload 31, 2) := by decide +kernel
theorem dL_law_1356 : decode cL_law 1356 = .ok (.ifCond .eq 17, 3) := by decide +kernel
theorem dL_law_1359 : decode cL_law 1359 = .ok (.bipush 10, 2) := by decide +kernel
theorem dL_law_1361 : decode cL_law 1361 = .ok (.iload 29, 2) := by decide +kernel
theorem dL_law_1363 : decode cL_law 1363 = .ok (.imul, 1) := by decide +kernel
theorem dL_law_1364 : decode cL_law 1364 = .ok (.iload 28, 2) := by decide +kernel
theorem dL_law_1366 : decode cL_law 1366 = .ok (.iadd, 1) := by decide +kernel
theorem dL_law_1367 : decode cL_law 1367 = .ok (.iload 29, 2) := by decide +kernel
theorem dL_law_1369 : decode cL_law 1369 = .ok (.isub, 1) := by decide +kernel
theorem dL_law_1370 : decode cL_law 1370 = .ok (.goto 5, 3) := by decide +kernel
theorem dL_law_1373 : decode cL_law 1373 = .ok (.iload 25, 2) := by decide +kernel
theorem dL_law_1375 : decode cL_law 1375 = .ok (.istore 25, 2) := by decide +kernel
theorem dL_law_1377 : decode cL_law 1377 = .ok (.iload 31, 2) := by decide +kernel
theorem dL_law_1379 : decode cL_law 1379 = .ok (.ifCond .eq 8, 3) := by decide +kernel
theorem dL_law_1382 : decode cL_law 1382 = .ok (.iload 30, 2) := by decide +kernel
theorem dL_law_1384 : decode cL_law 1384 = .ok (.goto 5, 3) := by decide +kernel
theorem dL_law_1387 : decode cL_law 1387 = .ok (.iload 26, 2) := by decide +kernel
theorem dL_law_1389 : decode cL_law 1389 = .ok (.istore 26, 2) := by decide +kernel
theorem dL_law_1391 : decode cL_law 1391 = .ok (.iinc 27 1, 3) := by decide +kernel
theorem dL_law_1394 : decode cL_law 1394 = .ok (.goto (-156), 3) := by decide +kernel
theorem dL_law_1397 : decode cL_law 1397 = .ok (.aload_n 1, 1) := by decide +kernel
theorem dL_law_1398 : decode cL_law 1398 = .ok (.invokevirtual 121, 3) := by decide +kernel
theorem dL_law_1401 : decode cL_law 1401 = .ok (.iload 25, 2) := by decide +kernel
theorem dL_law_1403 : decode cL_law 1403 = .ok (.if_icmp .eq 5, 3) := by decide +kernel
theorem dL_law_1406 : decode cL_law 1406 = .ok (.iconst 0, 1) := by decide +kernel
theorem dL_law_1407 : decode cL_law 1407 = .ok (.ireturn, 1) := by decide +kernel
theorem dL_law_1408 : decode cL_law 1408 = .ok (.iinc 7 1, 3) := by decide +kernel
theorem dL_law_1411 : decode cL_law 1411 = .ok (.goto (-1372), 3) := by decide +kernel
theorem dL_law_1414 : decode cL_law 1414 = .ok (.iconst 1, 1) := by decide +kernel
theorem dL_law_1415 : decode cL_law 1415 = .ok (.ireturn, 1) := by decide +kernel
