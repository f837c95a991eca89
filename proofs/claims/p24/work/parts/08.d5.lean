theorem dL_acts_785 : decode cL_acts 785 = .ok (.ireturn, 1) := by decide +kernel
theorem dL_acts_786 : decode cL_acts 786 = .ok (.aload_n 1, 1) := by decide +kernel
theorem dL_acts_787 : decode cL_acts 787 = .ok (.aload_n 3, 1) := by decide +kernel
theorem dL_acts_788 : decode cL_acts 788 = .ok (.iload 13, 2) := by decide +kernel
theorem dL_acts_790 : decode cL_acts 790 = .ok (.invokestatic 15, 3) := by decide +kernel
theorem dL_acts_793 : decode cL_acts 793 = .ok (.invokestatic 42, 3) := by decide +kernel
theorem dL_acts_796 : decode cL_acts 796 = .ok (.istore 14, 2) := by decide +kernel
theorem dL_acts_798 : decode cL_acts 798 = .ok (.aload_n 3, 1) := by decide +kernel
theorem dL_acts_799 : decode cL_acts 799 = .ok (.bipush 6, 2) := by decide +kernel
theorem dL_acts_801 : decode cL_acts 801 = .ok (.iload 13, 2) := by decide +kernel
theorem dL_acts_803 : decode cL_acts 803 = .ok (.imul, 1) := by decide +kernel
theorem dL_acts_804 : decode cL_acts 804 = .ok (.aload_n 3, 1) := by decide +kernel
theorem dL_acts_805 : decode cL_acts 805 = .ok (.bipush 6, 2) := by decide +kernel
theorem dL_acts_807 : decode cL_acts 807 = .ok (.iload 13, 2) := by decide +kernel
theorem dL_acts_809 : decode cL_acts 809 = .ok (.imul, 1) := by decide +kernel
theorem dL_acts_810 : decode cL_acts 810 = .ok (.iconst 3, 1) := by decide +kernel
theorem dL_acts_811 : decode cL_acts 811 = .ok (.iadd, 1) := by decide +kernel
theorem dL_acts_812 : decode cL_acts 812 = .ok (.iaload, 1) := by decide +kernel
theorem dL_acts_813 : decode cL_acts 813 = .ok (.iastore, 1) := by decide +kernel
theorem dL_acts_814 : decode cL_acts 814 = .ok (.aload_n 3, 1) := by decide +kernel
theorem dL_acts_815 : decode cL_acts 815 = .ok (.bipush 6, 2) := by decide +kernel
theorem dL_acts_817 : decode cL_acts 817 = .ok (.iload 13, 2) := by decide +kernel
theorem dL_acts_819 : decode cL_acts 819 = .ok (.imul, 1) := by decide +kernel
theorem dL_acts_820 : decode cL_acts 820 = .ok (.iconst 1, 1) := by decide +kernel
theorem dL_acts_821 : decode cL_acts 821 = .ok (.iadd, 1) := by decide +kernel
theorem dL_acts_822 : decode cL_acts 822 = .ok (.aload_n 3, 1) := by decide +kernel
theorem dL_acts_823 : decode cL_acts 823 = .ok (.bipush 6, 2) := by decide +kernel
theorem dL_acts_825 : decode cL_acts 825 = .ok (.iload 13, 2) := by decide +kernel
theorem dL_acts_827 : decode cL_acts 827 = .ok (.imul, 1) := by decide +kernel
theorem dL_acts_828 : decode cL_acts 828 = .ok (.iconst 4, 1) := by decide +kernel
theorem dL_acts_829 : decode cL_acts 829 = .ok (.iadd, 1) := by decide +kernel
theorem dL_acts_830 : decode cL_acts 830 = .ok (.iaload, 1) := by decide +kernel
theorem dL_acts_831 : decode cL_acts 831 = .ok (.iastore, 1) := by decide +kernel
theorem dL_acts_832 : decode cL_acts 832 = .ok (.aload_n 0, 1) := by decide +kernel
theorem dL_acts_833 : decode cL_acts 833 = .ok (.iload 13, 2) := by decide +kernel
theorem dL_acts_835 : decode cL_acts 835 = .ok (.invokevirtual 67, 3) := by decide +kernel
theorem dL_acts_838 : decode cL_acts 838 = .ok (.iload 14, 2) := by decide +kernel
theorem dL_acts_840 : decode cL_acts 840 = .ok (.if_icmp .ne 7, 3) := by decide +kernel
theorem dL_acts_843 : decode cL_acts 843 = .ok (.iconst 1, 1) := by decide +kernel
theorem dL_acts_844 : decode cL_acts 844 = .ok (.goto 4, 3) := by decide +kernel
theorem dL_acts_847 : decode cL_acts 847 = .ok (.iconst 0, 1) := by decide +kernel
theorem dL_acts_848 : decode cL_acts 848 = .ok (.ireturn, 1) := by decide +kernel
theorem dL_acts_849 : decode cL_acts 849 = .ok (.iload 8, 2) := by decide +kernel
theorem dL_acts_851 : decode cL_acts 851 = .ok (.bipush 22, 2) := by decide +kernel
theorem dL_acts_853 : decode cL_acts 853 = .ok (.if_icmp .ne 120, 3) := by decide +kernel
theorem dL_acts_856 : decode cL_acts 856 = .ok (.iload 12, 2) := by decide +kernel
theorem dL_acts_858 : decode cL_acts 858 = .ok (.ifCond .ne 115, 3) := by decide +kernel
theorem dL_acts_861 : decode cL_acts 861 = .ok (.aload 4, 2) := by decide +kernel
theorem dL_acts_863 : decode cL_acts 863 = .ok (.aload_n 1, 1) := by decide +kernel
theorem dL_acts_864 : decode cL_acts 864 = .ok (.iconst 5, 1) := by decide +kernel
theorem dL_acts_865 : decode cL_acts 865 = .ok (.iconst 0, 1) := by decide +kernel
theorem dL_acts_866 : decode cL_acts 866 = .ok (.iconst 0, 1) := by decide +kernel
theorem dL_acts_867 : decode cL_acts 867 = .ok (.iconst 0, 1) := by decide +kernel
theorem dL_acts_868 : decode cL_acts 868 = .ok (.iconst 0, 1) := by decide +kernel
theorem dL_acts_869 : decode cL_acts 869 = .ok (.iconst 0, 1) := by decide +kernel
theorem dL_acts_870 : decode cL_acts 870 = .ok (.invokestatic 23, 3) := by decide +kernel
theorem dL_acts_873 : decode cL_acts 873 = .ok (.istore 14, 2) := by decide +kernel
theorem dL_acts_875 : decode cL_acts 875 = .ok (.iconst 0, 1) := by decide +kernel
theorem dL_acts_876 : decode cL_acts 876 = .ok (.istore 15, 2) := by decide +kernel
theorem dL_acts_878 : decode cL_acts 878 = .ok (.iload 15, 2) := by decide +kernel
theorem dL_acts_880 : decode cL_acts 880 = .ok (.bipush 8, 2) := by decide +kernel
theorem dL_acts_882 : decode cL_acts 882 = .ok (.if_icmp .ge 40, 3) := by decide +kernel
theorem dL_acts_885 : decode cL_acts 885 = .ok (.aload 5, 2) := by decide +kernel
theorem dL_acts_887 : decode cL_acts 887 = .ok (.iload 15, 2) := by decide +kernel
theorem dL_acts_889 : decode cL_acts 889 = .ok (.aload_n 3, 1) := by decide +kernel
theorem dL_acts_890 : decode cL_acts 890 = .ok (.invokestatic 98, 3) := by decide +kernel
theorem dL_acts_893 : decode cL_acts 893 = .ok (.iload 15, 2) := by decide +kernel
theorem dL_acts_895 : decode cL_acts 895 = .ok (.ishr, 1) := by decide +kernel
theorem dL_acts_896 : decode cL_acts 896 = .ok (.iconst 1, 1) := by decide +kernel
theorem dL_acts_897 : decode cL_acts 897 = .ok (.iand, 1) := by decide +kernel
theorem dL_acts_898 : decode cL_acts 898 = .ok (.iconst 1, 1) := by decide +kernel
theorem dL_acts_899 : decode cL_acts 899 = .ok (.if_icmp .ne 15, 3) := by decide +kernel
theorem dL_acts_902 : decode cL_acts 902 = .ok (.aload_n 3, 1) := by decide +kernel
theorem dL_acts_903 : decode cL_acts 903 = .ok (.bipush 6, 2) := by decide +kernel
theorem dL_acts_905 : decode cL_acts 905 = .ok (.iload 15, 2) := by decide +kernel
theorem dL_acts_907 : decode cL_acts 907 = .ok (.imul, 1) := by decide +kernel
theorem dL_acts_908 : decode cL_acts 908 = .ok (.iconst 5, 1) := by decide +kernel
theorem dL_acts_909 : decode cL_acts 909 = .ok (.iadd, 1) := by decide +kernel
theorem dL_acts_910 : decode cL_acts 910 = .ok (.iaload, 1) := by decide +kernel
theorem dL_acts_911 : decode cL_acts 911 = .ok (.goto 4, 3) := by decide +kernel
theorem dL_acts_914 : decode cL_acts 914 = .ok (.iconst 0, 1) := by decide +kernel
theorem dL_acts_915 : decode cL_acts 915 = .ok (.iastore, 1) := by decide +kernel
theorem dL_acts_916 : decode cL_acts 916 = .ok (.iinc 15 1, 3) := by decide +kernel
theorem dL_acts_919 : decode cL_acts 919 = .ok (.goto (-41), 3) := by decide +kernel
theorem dL_acts_922 : decode cL_acts 922 = .ok (.aload 4, 2) := by decide +kernel
theorem dL_acts_924 : decode cL_acts 924 = .ok (.iload 14, 2) := by decide +kernel
theorem dL_acts_926 : decode cL_acts 926 = .ok (.aload_n 1, 1) := by decide +kernel
theorem dL_acts_927 : decode cL_acts 927 = .ok (.iconst 0, 1) := by decide +kernel
theorem dL_acts_928 : decode cL_acts 928 = .ok (.iaload, 1) := by decide +kernel
theorem dL_acts_929 : decode cL_acts 929 = .ok (.isub, 1) := by decide +kernel
theorem dL_acts_930 : decode cL_acts 930 = .ok (.dup2, 1) := by decide +kernel
theorem dL_acts_931 : decode cL_acts 931 = .ok (.laload, 1) := by decide +kernel
theorem dL_acts_932 : decode cL_acts 932 = .ok (.aload_n 2, 1) := by decide +kernel
theorem dL_acts_933 : decode cL_acts 933 = .ok (.invokestatic 101, 3) := by decide +kernel
theorem dL_acts_936 : decode cL_acts 936 = .ok (.i2l, 1) := by decide +kernel
theorem dL_acts_937 : decode cL_acts 937 = .ok (.bipush 31, 2) := by decide +kernel
theorem dL_acts_939 : decode cL_acts 939 = .ok (.lshl, 1) := by decide +kernel
theorem dL_acts_940 : decode cL_acts 940 = .ok (.aload_n 3, 1) := by decide +kernel
theorem dL_acts_941 : decode cL_acts 941 = .ok (.invokestatic 98, 3) := by decide +kernel
theorem dL_acts_944 : decode cL_acts 944 = .ok (.i2l, 1) := by decide +kernel
theorem dL_acts_945 : decode cL_acts 945 = .ok (.bipush 35, 2) := by decide +kernel
theorem dL_acts_947 : decode cL_acts 947 = .ok (.lshl, 1) := by decide +kernel
theorem dL_acts_948 : decode cL_acts 948 = .ok (.lor, 1) := by decide +kernel
theorem dL_acts_949 : decode cL_acts 949 = .ok (.lor, 1) := by decide +kernel
theorem dL_acts_950 : decode cL_acts 950 = .ok (.lastore, 1) := by decide +kernel
theorem dL_acts_951 : decode cL_acts 951 = .ok (.aload_n 1, 1) := by decide +kernel
theorem dL_acts_952 : decode cL_acts 952 = .ok (.iload 14, 2) := by decide +kernel
theorem dL_acts_954 : decode cL_acts 954 = .ok (.invokestatic 42, 3) := by decide +kernel
theorem dL_acts_957 : decode cL_acts 957 = .ok (.pop, 1) := by decide +kernel
theorem dL_acts_958 : decode cL_acts 958 = .ok (.aload_n 0, 1) := by decide +kernel
theorem dL_acts_959 : decode cL_acts 959 = .ok (.invokevirtual 73, 3) := by decide +kernel
theorem dL_acts_962 : decode cL_acts 962 = .ok (.iload 14, 2) := by decide +kernel
theorem dL_acts_964 : decode cL_acts 964 = .ok (.if_icmp .ne 7, 3) := by decide +kernel
theorem dL_acts_967 : decode cL_acts 967 = .ok (.iconst 1, 1) := by decide +kernel
theorem dL_acts_968 : decode cL_acts 968 = .ok (.goto 4, 3) := by decide +kernel
theorem dL_acts_971 : decode cL_acts 971 = .ok (.iconst 0, 1) := by decide +kernel
theorem dL_acts_972 : decode cL_acts 972 = .ok (.ireturn, 1) := by decide +kernel
theorem dL_acts_973 : decode cL_acts 973 = .ok (.iload 8, 2) := by decide +kernel
theorem dL_acts_975 : decode cL_acts 975 = .ok (.bipush 25, 2) := by decide +kernel
theorem dL_acts_977 : decode cL_acts 977 = .ok (.if_icmp .ge 99, 3) := by decide +kernel
theorem dL_acts_980 : decode cL_acts 980 = .ok (.aload_n 1, 1) := by decide +kernel
theorem dL_acts_981 : decode cL_acts 981 = .ok (.aload 4, 2) := by decide +kernel
theorem dL_acts_983 : decode cL_acts 983 = .ok (.invokestatic 34, 3) := by decide +kernel
theorem dL_acts_986 : decode cL_acts 986 = .ok (.ifCond .ne 18, 3) := by decide +kernel
theorem dL_acts_989 : decode cL_acts 989 = .ok (.aload_n 0, 1) := by decide +kernel
theorem dL_acts_990 : decode cL_acts 990 = .ok (.invokevirtual 77, 3) := by decide +kernel
theorem dL_acts_993 : decode cL_acts 993 = .ok (.iload 9, 2) := by decide +kernel
theorem dL_acts_995 : decode cL_acts 995 = .ok (.if_icmp .ne 7, 3) := by decide +kernel
theorem dL_acts_998 : decode cL_acts 998 = .ok (.iconst 1, 1) := by decide +kernel
theorem dL_acts_999 : decode cL_acts 999 = .ok (.goto 4, 3) := by decide +kernel
theorem dL_acts_1002 : decode cL_acts 1002 = .ok (.iconst 0, 1) := by decide +kernel
theorem dL_acts_1003 : decode cL_acts 1003 = .ok (.ireturn, 1) := by decide +kernel
theorem dL_acts_1004 : decode cL_acts 1004 = .ok (.aload_n 1, 1) := by decide +kernel
theorem dL_acts_1005 : decode cL_acts 1005 = .ok (.aload 4, 2) := by decide +kernel
theorem dL_acts_1007 : decode cL_acts 1007 = .ok (.aload 5, 2) := by decide +kernel
theorem dL_acts_1009 : decode cL_acts 1009 = .ok (.invokestatic 104, 3) := by decide +kernel
theorem dL_acts_1012 : decode cL_acts 1012 = .ok (.istore 14, 2) := by decide +kernel
theorem dL_acts_1014 : decode cL_acts 1014 = .ok (.iload 14, 2) := by decide +kernel
theorem dL_acts_1016 : decode cL_acts 1016 = .ok (.istore 15, 2) := by decide +kernel
theorem dL_acts_1018 : decode cL_acts 1018 = .ok (.iload 15, 2) := by decide +kernel
theorem dL_acts_1020 : decode cL_acts 1020 = .ok (.aload_n 1, 1) := by decide +kernel
theorem dL_acts_1021 : decode cL_acts 1021 = .ok (.iconst 1, 1) := by decide +kernel
theorem dL_acts_1022 : decode cL_acts 1022 = .ok (.iaload, 1) := by decide +kernel
theorem dL_acts_1023 : decode cL_acts 1023 = .ok (.if_icmp .ge 22, 3) := by decide +kernel
theorem dL_acts_1026 : decode cL_acts 1026 = .ok (.aload 4, 2) := by decide +kernel
theorem dL_acts_1028 : decode cL_acts 1028 = .ok (.iload 15, 2) := by decide +kernel
theorem dL_acts_1030 : decode cL_acts 1030 = .ok (.iload 14, 2) := by decide +kernel
theorem dL_acts_1032 : decode cL_acts 1032 = .ok (.isub, 1) := by decide +kernel
theorem dL_acts_1033 : decode cL_acts 1033 = .ok (.aload 4, 2) := by decide +kernel
theorem dL_acts_1035 : decode cL_acts 1035 = .ok (.iload 15, 2) := by decide +kernel
theorem dL_acts_1037 : decode cL_acts 1037 = .ok (.laload, 1) := by decide +kernel
theorem dL_acts_1038 : decode cL_acts 1038 = .ok (.lastore, 1) := by decide +kernel
theorem dL_acts_1039 : decode cL_acts 1039 = .ok (.iinc 15 1, 3) := by decide +kernel
theorem dL_acts_1042 : decode cL_acts 1042 = .ok (.goto (-24), 3) := by decide +kernel
theorem dL_acts_1045 : decode cL_acts 1045 = .ok (.aload_n 1, 1) := by decide +kernel
theorem dL_acts_1046 : decode cL_acts 1046 = .ok (.iconst 0, 1) := by decide +kernel
theorem dL_acts_1047 : decode cL_acts 1047 = .ok (.dup2, 1) := by decide +kernel
theorem dL_acts_1048 : decode cL_acts 1048 = .ok (.iaload, 1) := by decide +kernel
theorem dL_acts_1049 : decode cL_acts 1049 = .ok (.iload 14, 2) := by decide +kernel
theorem dL_acts_1051 : decode cL_acts 1051 = .ok (.iadd, 1) := by decide +kernel
theorem dL_acts_1052 : decode cL_acts 1052 = .ok (.iastore, 1) := by decide +kernel
theorem dL_acts_1053 : decode cL_acts 1053 = .ok (.aload_n 1, 1) := by decide +kernel
theorem dL_acts_1054 : decode cL_acts 1054 = .ok (.iconst 1, 1) := by decide +kernel
theorem dL_acts_1055 : decode cL_acts 1055 = .ok (.dup2, 1) := by decide +kernel
theorem dL_acts_1056 : decode cL_acts 1056 = .ok (.iaload, 1) := by decide +kernel
theorem dL_acts_1057 : decode cL_acts 1057 = .ok (.iload 14, 2) := by decide +kernel
theorem dL_acts_1059 : decode cL_acts 1059 = .ok (.isub, 1) := by decide +kernel
theorem dL_acts_1060 : decode cL_acts 1060 = .ok (.iastore, 1) := by decide +kernel
theorem dL_acts_1061 : decode cL_acts 1061 = .ok (.aload_n 0, 1) := by decide +kernel
theorem dL_acts_1062 : decode cL_acts 1062 = .ok (.invokevirtual 77, 3) := by decide +kernel
theorem dL_acts_1065 : decode cL_acts 1065 = .ok (.iload 14, 2) := by decide +kernel
theorem dL_acts_1067 : decode cL_acts 1067 = .ok (.if_icmp .ne 7, 3) := by decide +kernel
theorem dL_acts_1070 : decode cL_acts 1070 = .ok (.iconst 1, 1) := by decide +kernel
theorem dL_acts_1071 : decode cL_acts 1071 = .ok (.goto 4, 3) := by decide +kernel
theorem dL_acts_1074 : decode cL_acts 1074 = .ok (.iconst 0, 1) := by decide +kernel
theorem dL_acts_1075 : decode cL_acts 1075 = .ok (.ireturn, 1) := by decide +kernel
theorem dL_acts_1076 : decode cL_acts 1076 = .ok (.iload 8, 2) := by decide +kernel
theorem dL_acts_1078 : decode cL_acts 1078 = .ok (.bipush 25, 2) := by decide +kernel
theorem dL_acts_1080 : decode cL_acts 1080 = .ok (.if_icmp .ne 24, 3) := by decide +kernel
theorem dL_acts_1083 : decode cL_acts 1083 = .ok (.aload_n 0, 1) := by decide +kernel
theorem dL_acts_1084 : decode cL_acts 1084 = .ok (.invokevirtual 80, 3) := by decide +kernel
theorem dL_acts_1087 : decode cL_acts 1087 = .ok (.aload_n 1, 1) := by decide +kernel
theorem dL_acts_1088 : decode cL_acts 1088 = .ok (.aload_n 1, 1) := by decide +kernel
theorem dL_acts_1089 : decode cL_acts 1089 = .ok (.invokestatic 9, 3) := by decide +kernel
theorem dL_acts_1092 : decode cL_acts 1092 = .ok (.invokestatic 42, 3) := by decide +kernel
theorem dL_acts_1095 : decode cL_acts 1095 = .ok (.if_icmp .ne 7, 3) := by decide +kernel
theorem dL_acts_1098 : decode cL_acts 1098 = .ok (.iconst 1, 1) := by decide +kernel
theorem dL_acts_1099 : decode cL_acts 1099 = .ok (.goto 4, 3) := by decide +kernel
theorem dL_acts_1102 : decode cL_acts 1102 = .ok (.iconst 0, 1) := by decide +kernel
theorem dL_acts_1103 : decode cL_acts 1103 = .ok (.ireturn, 1) := by decide +kernel
theorem dL_acts_1104 : decode cL_acts 1104 = .ok (.iload 8, 2) := by decide +kernel
theorem dL_acts_1106 : decode cL_acts 1106 = .ok (.bipush 26, 2) := by decide +kernel
theorem dL_acts_1108 : decode cL_acts 1108 = .ok (.if_icmp .eq 15, 3) := by decide +kernel
theorem dL_acts_1111 : decode cL_acts 1111 = .ok (.iload 12, 2) := by decide +kernel
theorem dL_acts_1113 : decode cL_acts 1113 = .ok (.ifCond .eq 39, 3) := by decide +kernel
theorem dL_acts_1116 : decode cL_acts 1116 = .ok (.iload 7, 2) := by decide +kernel
theorem dL_acts_1118 : decode cL_acts 1118 = .ok (.iconst 2, 1) := by decide +kernel
theorem dL_acts_1119 : decode cL_acts 1119 = .ok (.irem, 1) := by decide +kernel
theorem dL_acts_1120 : decode cL_acts 1120 = .ok (.ifCond .ne 32, 3) := by decide +kernel
theorem dL_acts_1123 : decode cL_acts 1123 = .ok (.aload_n 0, 1) := by decide +kernel
theorem dL_acts_1124 : decode cL_acts 1124 = .ok (.iload 7, 2) := by decide +kernel
theorem dL_acts_1126 : decode cL_acts 1126 = .ok (.iconst 2, 1) := by decide +kernel
theorem dL_acts_1127 : decode cL_acts 1127 = .ok (.irem, 1) := by decide +kernel
theorem dL_acts_1128 : decode cL_acts 1128 = .ok (.invokevirtual 82, 3) := by decide +kernel
theorem dL_acts_1131 : decode cL_acts 1131 = .ok (.aload_n 1, 1) := by decide +kernel
theorem dL_acts_1132 : decode cL_acts 1132 = .ok (.aload_n 2, 1) := by decide +kernel
theorem dL_acts_1133 : decode cL_acts 1133 = .ok (.aload_n 3, 1) := by decide +kernel
theorem dL_acts_1134 : decode cL_acts 1134 = .ok (.aload 4, 2) := by decide +kernel
theorem dL_acts_1136 : decode cL_acts 1136 = .ok (.iload 7, 2) := by decide +kernel
theorem dL_acts_1138 : decode cL_acts 1138 = .ok (.iconst 2, 1) := by decide +kernel
theorem dL_acts_1139 : decode cL_acts 1139 = .ok (.irem, 1) := by decide +kernel
theorem dL_acts_1140 : decode cL_acts 1140 = .ok (.invokestatic 108, 3) := by decide +kernel
theorem dL_acts_1143 : decode cL_acts 1143 = .ok (.if_icmp .ne 7, 3) := by decide +kernel
theorem dL_acts_1146 : decode cL_acts 1146 = .ok (.iconst 1, 1) := by decide +kernel
theorem dL_acts_1147 : decode cL_acts 1147 = .ok (.goto 4, 3) := by decide +kernel
theorem dL_acts_1150 : decode cL_acts 1150 = .ok (.iconst 0, 1) := by decide +kernel
theorem dL_acts_1151 : decode cL_acts 1151 = .ok (.ireturn, 1) := by decide +kernel
theorem dL_acts_1152 : decode cL_acts 1152 = .ok (.iload 7, 2) := by decide +kernel
theorem dL_acts_1154 : decode cL_acts 1154 = .ok (.iconst 4, 1) := by decide +kernel
theorem dL_acts_1155 : decode cL_acts 1155 = .ok (.idiv, 1) := by decide +kernel
theorem dL_acts_1156 : decode cL_acts 1156 = .ok (.bipush 8, 2) := by decide +kernel
theorem dL_acts_1158 : decode cL_acts 1158 = .ok (.irem, 1) := by decide +kernel
theorem dL_acts_1159 : decode cL_acts 1159 = .ok (.istore 14, 2) := by decide +kernel
theorem dL_acts_1161 : decode cL_acts 1161 = .ok (.aload_n 3, 1) := by decide +kernel
theorem dL_acts_1162 : decode cL_acts 1162 = .ok (.bipush 6, 2) := by decide +kernel
theorem dL_acts_1164 : decode cL_acts 1164 = .ok (.iload 14, 2) := by decide +kernel
theorem dL_acts_1166 : decode cL_acts 1166 = .ok (.imul, 1) := by decide +kernel
theorem dL_acts_1167 : decode cL_acts 1167 = .ok (.iconst 2, 1) := by decide +kernel
theorem dL_acts_1168 : decode cL_acts 1168 = .ok (.iadd, 1) := by decide +kernel
theorem dL_acts_1169 : decode cL_acts 1169 = .ok (.iaload, 1) := by decide +kernel
theorem dL_acts_1170 : decode cL_acts 1170 = .ok (.ifCond .eq 21, 3) := by decide +kernel
theorem dL_acts_1173 : decode cL_acts 1173 = .ok (.aload_n 3, 1) := by decide +kernel
theorem dL_acts_1174 : decode cL_acts 1174 = .ok (.iload 14, 2) := by decide +kernel
theorem dL_acts_1176 : decode cL_acts 1176 = .ok (.invokestatic 15, 3) := by decide +kernel
theorem dL_acts_1179 : decode cL_acts 1179 = .ok (.aload_n 3, 1) := by decide +kernel
theorem dL_acts_1180 : decode cL_acts 1180 = .ok (.bipush 6, 2) := by decide +kernel
theorem dL_acts_1182 : decode cL_acts 1182 = .ok (.iload 14, 2) := by decide +kernel
theorem dL_acts_1184 : decode cL_acts 1184 = .ok (.imul, 1) := by decide +kernel
theorem dL_acts_1185 : decode cL_acts 1185 = .ok (.iconst 1, 1) := by decide +kernel
theorem dL_acts_1186 : decode cL_acts 1186 = .ok (.iadd, 1) := by decide +kernel
theorem dL_acts_1187 : decode cL_acts 1187 = .ok (.iaload, 1) := by decide +kernel
theorem dL_acts_1188 : decode cL_acts 1188 = .ok (.if_icmp .eq 20, 3) := by decide +kernel
theorem dL_acts_1191 : decode cL_acts 1191 = .ok (.aload_n 0, 1) := by decide +kernel
theorem dL_acts_1192 : decode cL_acts 1192 = .ok (.iload 14, 2) := by decide +kernel
theorem dL_acts_1194 : decode cL_acts 1194 = .ok (.invokevirtual 70, 3) := by decide +kernel
theorem dL_acts_1197 : decode cL_acts 1197 = .ok (.iload 9, 2) := by decide +kernel
theorem dL_acts_1199 : decode cL_acts 1199 = .ok (.if_icmp .ne 7, 3) := by decide +kernel
theorem dL_acts_1202 : decode cL_acts 1202 = .ok (.iconst 1, 1) := by decide +kernel
theorem dL_acts_1203 : decode cL_acts 1203 = .ok (.goto 4, 3) := by decide +kernel
theorem dL_acts_1206 : decode cL_acts 1206 = .ok (.iconst 0, 1) := by decide +kernel
theorem dL_acts_1207 : decode cL_acts 1207 = .ok (.ireturn, 1) := by decide +kernel
theorem dL_acts_1208 : decode cL_acts 1208 = .ok (.iconst (-1), 1) := by decide +kernel
theorem dL_acts_1209 : decode cL_acts 1209 = .ok (.istore 15, 2) := by decide +kernel
theorem dL_acts_1211 : decode cL_acts 1211 = .ok (.iconst 0, 1) := by decide +kernel
theorem dL_acts_1212 : decode cL_acts 1212 = .ok (.istore 16, 2) := by decide +kernel
theorem dL_acts_1214 : decode cL_acts 1214 = .ok (.iload 16, 2) := by decide +kernel
theorem dL_acts_1216 : decode cL_acts 1216 = .ok (.bipush 8, 2) := by decide +kernel
theorem dL_acts_1218 : decode cL_acts 1218 = .ok (.if_icmp .ge 23, 3) := by decide +kernel
theorem dL_acts_1221 : decode cL_acts 1221 = .ok (.iload 15, 2) := by decide +kernel
theorem dL_acts_1223 : decode cL_acts 1223 = .ok (.aload_n 3, 1) := by decide +kernel
theorem dL_acts_1224 : decode cL_acts 1224 = .ok (.bipush 6, 2) := by decide +kernel
theorem dL_acts_1226 : decode cL_acts 1226 = .ok (.iload 16, 2) := by decide +kernel
theorem dL_acts_1228 : decode cL_acts 1228 = .ok (.imul, 1) := by decide +kernel
theorem dL_acts_1229 : decode cL_acts 1229 = .ok (.iconst 2, 1) := by decide +kernel
theorem dL_acts_1230 : decode cL_acts 1230 = .ok (.iadd, 1) := by decide +kernel
theorem dL_acts_1231 : decode cL_acts 1231 = .ok (.iaload, 1) := by decide +kernel
theorem dL_acts_1232 : decode cL_acts 1232 = .ok (.iadd, 1) := by decide +kernel
theorem dL_acts_1233 : decode cL_acts 1233 = .ok (.istore 15, 2) := by decide +kernel
theorem dL_acts_1235 : decode cL_acts 1235 = .ok (.iinc 16 1, 3) := by decide +kernel
theorem dL_acts_1238 : decode cL_acts 1238 = .ok (.goto (-24), 3) := by decide +kernel
theorem dL_acts_1241 : decode cL_acts 1241 = .ok (.aload_n 3, 1) := by decide +kernel
theorem dL_acts_1242 : decode cL_acts 1242 = .ok (.bipush 6, 2) := by decide +kernel
theorem dL_acts_1244 : decode cL_acts 1244 = .ok (.iload 14, 2) := by decide +kernel
theorem dL_acts_1246 : decode cL_acts 1246 = .ok (.imul, 1) := by decide +kernel
theorem dL_acts_1247 : decode cL_acts 1247 = .ok (.iconst 2, 1) := by decide +kernel
theorem dL_acts_1248 : decode cL_acts 1248 = .ok (.iadd, 1) := by decide +kernel
theorem dL_acts_1249 : decode cL_acts 1249 = .ok (.iconst 0, 1) := by decide +kernel
theorem dL_acts_1250 : decode cL_acts 1250 = .ok (.iastore, 1) := by decide +kernel
theorem dL_acts_1251 : decode cL_acts 1251 = .ok (.aload_n 0, 1) := by decide +kernel
theorem dL_acts_1252 : decode cL_acts 1252 = .ok (.iload 14, 2) := by decide +kernel
theorem dL_acts_1254 : decode cL_acts 1254 = .ok (.invokevirtual 70, 3) := by decide +kernel
theorem dL_acts_1257 : decode cL_acts 1257 = .ok (.iload 15, 2) := by decide +kernel
theorem dL_acts_1259 : decode cL_acts 1259 = .ok (.if_icmp .ne 7, 3) := by decide +kernel
theorem dL_acts_1262 : decode cL_acts 1262 = .ok (.iconst 1, 1) := by decide +kernel
theorem dL_acts_1263 : decode cL_acts 1263 = .ok (.goto 4, 3) := by decide +kernel
theorem dL_acts_1266 : decode cL_acts 1266 = .ok (.iconst 0, 1) := by decide +kernel
theorem dL_acts_1267 : decode cL_acts 1267 = .ok (.ireturn, 1) := by decide +kernel
theorem dL_isRecord_0 : decode cL_isRecord 0 = .ok (.ldc 111, 2) := by decide +kernel
theorem dL_isRecord_2 : decode cL_isRecord 2 = .ok (.istore 4, 2) := by decide +kernel
theorem dL_isRecord_4 : decode cL_isRecord 4 = .ok (.aload_n 2, 1) := by decide +kernel
theorem dL_isRecord_5 : decode cL_isRecord 5 = .ok (.aload_n 1, 1) := by decide +kernel
theorem dL_isRecord_6 : decode cL_isRecord 6 = .ok (.iload_n 3, 1) := by decide +kernel
theorem dL_isRecord_7 : decode cL_isRecord 7 = .ok (.iconst 0, 1) := by decide +kernel
theorem dL_isRecord_8 : decode cL_isRecord 8 = .ok (.invokestatic 19, 3) := by decide +kernel
theorem dL_isRecord_11 : decode cL_isRecord 11 = .ok (.istore 5, 2) := by decide +kernel
theorem dL_isRecord_13 : decode cL_isRecord 13 = .ok (.iload 5, 2) := by decide +kernel
theorem dL_isRecord_15 : decode cL_isRecord 15 = .ok (.iconst 1, 1) := by decide +kernel
theorem dL_isRecord_16 : decode cL_isRecord 16 = .ok (.if_icmp .eq 9, 3) := by decide +kernel
theorem dL_isRecord_19 : decode cL_isRecord 19 = .ok (.iload 5, 2) := by decide +kernel
theorem dL_isRecord_21 : decode cL_isRecord 21 = .ok (.iconst 3, 1) := by decide +kernel
theorem dL_isRecord_22 : decode cL_isRecord 22 = .ok (.if_icmp .ne 7, 3) := by decide +kernel
theorem dL_isRecord_25 : decode cL_isRecord 25 = .ok (.iconst 1, 1) := by decide +kernel
theorem dL_isRecord_26 : decode cL_isRecord 26 = .ok (.goto 4, 3) := by decide +kernel
theorem dL_isRecord_29 : decode cL_isRecord 29 = .ok (.iconst 0, 1) := by decide +kernel
theorem dL_isRecord_30 : decode cL_isRecord 30 = .ok (.istore 6, 2) := by decide +kernel
theorem dL_isRecord_32 : decode cL_isRecord 32 = .ok (.aload_n 0, 1) := by decide +kernel
theorem dL_isRecord_33 : decode cL_isRecord 33 = .ok (.iload_n 3, 1) := by decide +kernel
theorem dL_isRecord_34 : decode cL_isRecord 34 = .ok (.iconst 0, 1) := by decide +kernel
theorem dL_isRecord_35 : decode cL_isRecord 35 = .ok (.invokevirtual 112, 3) := by decide +kernel
theorem dL_isRecord_38 : decode cL_isRecord 38 = .ok (.iload 5, 2) := by decide +kernel
theorem dL_isRecord_40 : decode cL_isRecord 40 = .ok (.if_icmp .ne 231, 3) := by decide +kernel
theorem dL_isRecord_43 : decode cL_isRecord 43 = .ok (.aload_n 0, 1) := by decide +kernel
theorem dL_isRecord_44 : decode cL_isRecord 44 = .ok (.iload_n 3, 1) := by decide +kernel
theorem dL_isRecord_45 : decode cL_isRecord 45 = .ok (.iconst 1, 1) := by decide +kernel
theorem dL_isRecord_46 : decode cL_isRecord 46 = .ok (.invokevirtual 112, 3) := by decide +kernel
theorem dL_isRecord_49 : decode cL_isRecord 49 = .ok (.iload 5, 2) := by decide +kernel
theorem dL_isRecord_51 : decode cL_isRecord 51 = .ok (.iconst 5, 1) := by decide +kernel
theorem dL_isRecord_52 : decode cL_isRecord 52 = .ok (.if_icmp .ne 8, 3) := by decide +kernel
theorem dL_isRecord_55 : decode cL_isRecord 55 = .ok (.iload 4, 2) := by decide +kernel
theorem dL_isRecord_57 : decode cL_isRecord 57 = .ok (.goto 10, 3) := by decide +kernel
theorem dL_isRecord_60 : decode cL_isRecord 60 = .ok (.aload_n 2, 1) := by decide +kernel
theorem dL_isRecord_61 : decode cL_isRecord 61 = .ok (.aload_n 1, 1) := by decide +kernel
theorem dL_isRecord_62 : decode cL_isRecord 62 = .ok (.iload_n 3, 1) := by decide +kernel
theorem dL_isRecord_63 : decode cL_isRecord 63 = .ok (.iconst 1, 1) := by decide +kernel
theorem dL_isRecord_64 : decode cL_isRecord 64 = .ok (.invokestatic 19, 3) := by decide +kernel
theorem dL_isRecord_67 : decode cL_isRecord 67 = .ok (.if_icmp .ne 204, 3) := by decide +kernel
theorem dL_isRecord_70 : decode cL_isRecord 70 = .ok (.aload_n 0, 1) := by decide +kernel
theorem dL_isRecord_71 : decode cL_isRecord 71 = .ok (.iload_n 3, 1) := by decide +kernel
theorem dL_isRecord_72 : decode cL_isRecord 72 = .ok (.iconst 2, 1) := by decide +kernel
theorem dL_isRecord_73 : decode cL_isRecord 73 = .ok (.invokevirtual 112, 3) := by decide +kernel
theorem dL_isRecord_76 : decode cL_isRecord 76 = .ok (.iload 6, 2) := by decide +kernel
theorem dL_isRecord_78 : decode cL_isRecord 78 = .ok (.ifCond .eq 13, 3) := by decide +kernel
theorem dL_isRecord_81 : decode cL_isRecord 81 = .ok (.aload_n 2, 1) := by decide +kernel
theorem dL_isRecord_82 : decode cL_isRecord 82 = .ok (.aload_n 1, 1) := by decide +kernel
theorem dL_isRecord_83 : decode cL_isRecord 83 = .ok (.iload_n 3, 1) := by decide +kernel
theorem dL_isRecord_84 : decode cL_isRecord 84 = .ok (.iconst 2, 1) := by decide +kernel
theorem dL_isRecord_85 : decode cL_isRecord 85 = .ok (.invokestatic 19, 3) := by decide +kernel
theorem dL_isRecord_88 : decode cL_isRecord 88 = .ok (.goto 5, 3) := by decide +kernel
theorem dL_isRecord_91 : decode cL_isRecord 91 = .ok (.iload 4, 2) := by decide +kernel
theorem dL_isRecord_93 : decode cL_isRecord 93 = .ok (.if_icmp .ne 178, 3) := by decide +kernel
theorem dL_isRecord_96 : decode cL_isRecord 96 = .ok (.aload_n 0, 1) := by decide +kernel
theorem dL_isRecord_97 : decode cL_isRecord 97 = .ok (.iload_n 3, 1) := by decide +kernel
theorem dL_isRecord_98 : decode cL_isRecord 98 = .ok (.iconst 3, 1) := by decide +kernel
theorem dL_isRecord_99 : decode cL_isRecord 99 = .ok (.invokevirtual 112, 3) := by decide +kernel
theorem dL_isRecord_102 : decode cL_isRecord 102 = .ok (.iload 6, 2) := by decide +kernel
theorem dL_isRecord_104 : decode cL_isRecord 104 = .ok (.ifCond .eq 13, 3) := by decide +kernel
theorem dL_isRecord_107 : decode cL_isRecord 107 = .ok (.aload_n 2, 1) := by decide +kernel
theorem dL_isRecord_108 : decode cL_isRecord 108 = .ok (.aload_n 1, 1) := by decide +kernel
theorem dL_isRecord_109 : decode cL_isRecord 109 = .ok (.iload_n 3, 1) := by decide +kernel
theorem dL_isRecord_110 : decode cL_isRecord 110 = .ok (.iconst 3, 1) := by decide +kernel
theorem dL_isRecord_111 : decode cL_isRecord 111 = .ok (.invokestatic 19, 3) := by decide +kernel
theorem dL_isRecord_114 : decode cL_isRecord 114 = .ok (.goto 5, 3) := by decide +kernel
theorem dL_isRecord_117 : decode cL_isRecord 117 = .ok (.iload 4, 2) := by decide +kernel
theorem dL_isRecord_119 : decode cL_isRecord 119 = .ok (.if_icmp .ne 152, 3) := by decide +kernel
theorem dL_isRecord_122 : decode cL_isRecord 122 = .ok (.aload_n 0, 1) := by decide +kernel
theorem dL_isRecord_123 : decode cL_isRecord 123 = .ok (.iload_n 3, 1) := by decide +kernel
theorem dL_isRecord_124 : decode cL_isRecord 124 = .ok (.iconst 4, 1) := by decide +kernel
theorem dL_isRecord_125 : decode cL_isRecord 125 = .ok (.invokevirtual 112, 3) := by decide +kernel
theorem dL_isRecord_128 : decode cL_isRecord 128 = .ok (.iload 6, 2) := by decide +kernel
theorem dL_isRecord_130 : decode cL_isRecord 130 = .ok (.ifCond .eq 13, 3) := by decide +kernel
theorem dL_isRecord_133 : decode cL_isRecord 133 = .ok (.aload_n 2, 1) := by decide +kernel
theorem dL_isRecord_134 : decode cL_isRecord 134 = .ok (.aload_n 1, 1) := by decide +kernel
theorem dL_isRecord_135 : decode cL_isRecord 135 = .ok (.iload_n 3, 1) := by decide +kernel
theorem dL_isRecord_136 : decode cL_isRecord 136 = .ok (.iconst 4, 1) := by decide +kernel
theorem dL_isRecord_137 : decode cL_isRecord 137 = .ok (.invokestatic 19, 3) := by decide +kernel
theorem dL_isRecord_140 : decode cL_isRecord 140 = .ok (.goto 5, 3) := by decide +kernel
theorem dL_isRecord_143 : decode cL_isRecord 143 = .ok (.iload 4, 2) := by decide +kernel
theorem dL_isRecord_145 : decode cL_isRecord 145 = .ok (.if_icmp .ne 126, 3) := by decide +kernel
theorem dL_isRecord_148 : decode cL_isRecord 148 = .ok (.aload_n 0, 1) := by decide +kernel
theorem dL_isRecord_149 : decode cL_isRecord 149 = .ok (.iload_n 3, 1) := by decide +kernel
theorem dL_isRecord_150 : decode cL_isRecord 150 = .ok (.iconst 5, 1) := by decide +kernel
theorem dL_isRecord_151 : decode cL_isRecord 151 = .ok (.invokevirtual 112, 3) := by decide +kernel
theorem dL_isRecord_154 : decode cL_isRecord 154 = .ok (.iload_n 3, 1) := by decide +kernel
theorem dL_isRecord_155 : decode cL_isRecord 155 = .ok (.aload_n 1, 1) := by decide +kernel
theorem dL_isRecord_156 : decode cL_isRecord 156 = .ok (.iconst 2, 1) := by decide +kernel
theorem dL_isRecord_157 : decode cL_isRecord 157 = .ok (.iaload, 1) := by decide +kernel
theorem dL_isRecord_158 : decode cL_isRecord 158 = .ok (.if_icmp .gt 7, 3) := by decide +kernel
theorem dL_isRecord_161 : decode cL_isRecord 161 = .ok (.iconst 1, 1) := by decide +kernel
theorem dL_isRecord_162 : decode cL_isRecord 162 = .ok (.goto 4, 3) := by decide +kernel
theorem dL_isRecord_165 : decode cL_isRecord 165 = .ok (.iconst 0, 1) := by decide +kernel
theorem dL_isRecord_166 : decode cL_isRecord 166 = .ok (.if_icmp .ne 105, 3) := by decide +kernel
theorem dL_isRecord_169 : decode cL_isRecord 169 = .ok (.aload_n 0, 1) := by decide +kernel
theorem dL_isRecord_170 : decode cL_isRecord 170 = .ok (.iload_n 3, 1) := by decide +kernel
theorem dL_isRecord_171 : decode cL_isRecord 171 = .ok (.bipush 6, 2) := by decide +kernel
theorem dL_isRecord_173 : decode cL_isRecord 173 = .ok (.invokevirtual 112, 3) := by decide +kernel
theorem dL_isRecord_176 : decode cL_isRecord 176 = .ok (.iload 5, 2) := by decide +kernel
theorem dL_isRecord_178 : decode cL_isRecord 178 = .ok (.iconst 5, 1) := by decide +kernel
theorem dL_isRecord_179 : decode cL_isRecord 179 = .ok (.if_icmp .ne 14, 3) := by decide +kernel
theorem dL_isRecord_182 : decode cL_isRecord 182 = .ok (.aload_n 2, 1) := by decide +kernel
theorem dL_isRecord_183 : decode cL_isRecord 183 = .ok (.aload_n 1, 1) := by decide +kernel
theorem dL_isRecord_184 : decode cL_isRecord 184 = .ok (.iload_n 3, 1) := by decide +kernel
theorem dL_isRecord_185 : decode cL_isRecord 185 = .ok (.bipush 6, 2) := by decide +kernel
theorem dL_isRecord_187 : decode cL_isRecord 187 = .ok (.invokestatic 19, 3) := by decide +kernel
theorem dL_isRecord_190 : decode cL_isRecord 190 = .ok (.goto 5, 3) := by decide +kernel
theorem dL_isRecord_193 : decode cL_isRecord 193 = .ok (.iload 4, 2) := by decide +kernel
theorem dL_isRecord_195 : decode cL_isRecord 195 = .ok (.if_icmp .ne 76, 3) := by decide +kernel
theorem dL_isRecord_198 : decode cL_isRecord 198 = .ok (.aload_n 0, 1) := by decide +kernel
theorem dL_isRecord_199 : decode cL_isRecord 199 = .ok (.iload_n 3, 1) := by decide +kernel
theorem dL_isRecord_200 : decode cL_isRecord 200 = .ok (.bipush 7, 2) := by decide +kernel
theorem dL_isRecord_202 : decode cL_isRecord 202 = .ok (.invokevirtual 112, 3) := by decide +kernel
theorem dL_isRecord_205 : decode cL_isRecord 205 = .ok (.iload 5, 2) := by decide +kernel
theorem dL_isRecord_207 : decode cL_isRecord 207 = .ok (.iconst 5, 1) := by decide +kernel
theorem dL_isRecord_208 : decode cL_isRecord 208 = .ok (.if_icmp .ne 14, 3) := by decide +kernel
theorem dL_isRecord_211 : decode cL_isRecord 211 = .ok (.aload_n 2, 1) := by decide +kernel
theorem dL_isRecord_212 : decode cL_isRecord 212 = .ok (.aload_n 1, 1) := by decide +kernel
theorem dL_isRecord_213 : decode cL_isRecord 213 = .ok (.iload_n 3, 1) := by decide +kernel
theorem dL_isRecord_214 : decode cL_isRecord 214 = .ok (.bipush 7, 2) := by decide +kernel
theorem dL_isRecord_216 : decode cL_isRecord 216 = .ok (.invokestatic 19, 3) := by decide +kernel
theorem dL_isRecord_219 : decode cL_isRecord 219 = .ok (.goto 5, 3) := by decide +kernel
theorem dL_isRecord_222 : decode cL_isRecord 222 = .ok (.iload 4, 2) := by decide +kernel
theorem dL_isRecord_224 : decode cL_isRecord 224 = .ok (.if_icmp .ne 47, 3) := by decide +kernel
theorem dL_isRecord_227 : decode cL_isRecord 227 = .ok (.aload_n 0, 1) := by decide +kernel
theorem dL_isRecord_228 : decode cL_isRecord 228 = .ok (.iload_n 3, 1) := by decide +kernel
theorem dL_isRecord_229 : decode cL_isRecord 229 = .ok (.bipush 8, 2) := by decide +kernel
theorem dL_isRecord_231 : decode cL_isRecord 231 = .ok (.invokevirtual 112, 3) := by decide +kernel
theorem dL_isRecord_234 : decode cL_isRecord 234 = .ok (.iload 5, 2) := by decide +kernel
theorem dL_isRecord_236 : decode cL_isRecord 236 = .ok (.iconst 3, 1) := by decide +kernel
theorem dL_isRecord_237 : decode cL_isRecord 237 = .ok (.if_icmp .ne 13, 3) := by decide +kernel
theorem dL_isRecord_240 : decode cL_isRecord 240 = .ok (.aload_n 2, 1) := by decide +kernel
theorem dL_isRecord_241 : decode cL_isRecord 241 = .ok (.aload_n 1, 1) := by decide +kernel
theorem dL_isRecord_242 : decode cL_isRecord 242 = .ok (.iload_n 3, 1) := by decide +kernel
theorem dL_isRecord_243 : decode cL_isRecord 243 = .ok (.iconst 5, 1) := by decide +kernel
theorem dL_isRecord_244 : decode cL_isRecord 244 = .ok (.invokestatic 19, 3) := by decide +kernel
theorem dL_isRecord_247 : decode cL_isRecord 247 = .ok (.goto 5, 3) := by decide +kernel
theorem dL_isRecord_250 : decode cL_isRecord 250 = .ok (.iload 4, 2) := by decide +kernel
theorem dL_isRecord_252 : decode cL_isRecord 252 = .ok (.if_icmp .ne 19, 3) := by decide +kernel
theorem dL_isRecord_255 : decode cL_isRecord 255 = .ok (.aload_n 0, 1) := by decide +kernel
theorem dL_isRecord_256 : decode cL_isRecord 256 = .ok (.iload_n 3, 1) := by decide +kernel
theorem dL_isRecord_257 : decode cL_isRecord 257 = .ok (.bipush 9, 2) := by decide +kernel
theorem dL_isRecord_259 : decode cL_isRecord 259 = .ok (.invokevirtual 112, 3) := by decide +kernel
theorem dL_isRecord_262 : decode cL_isRecord 262 = .ok (.ldc 115, 2) := by decide +kernel
theorem dL_isRecord_264 : decode cL_isRecord 264 = .ok (.if_icmp .ne 7, 3) := by decide +kernel
theorem dL_isRecord_267 : decode cL_isRecord 267 = .ok (.iconst 1, 1) := by decide +kernel
theorem dL_isRecord_268 : decode cL_isRecord 268 = .ok (.goto 4, 3) := by decide +kernel
theorem dL_isRecord_271 : decode cL_isRecord 271 = .ok (.iconst 0, 1) := by decide +kernel
theorem dL_isRecord_272 : decode cL_isRecord 272 = .ok (.ireturn, 1) := by decide +kernel
theorem dL_arePages_0 : decode cL_arePages 0 = .ok (.iconst 1, 1) := by decide +kernel
theorem dL_arePages_1 : decode cL_arePages 1 = .ok (.istore_n 3, 1) := by decide +kernel
theorem dL_arePages_2 : decode cL_arePages 2 = .ok (.iconst 0, 1) := by decide +kernel
theorem dL_arePages_3 : decode cL_arePages 3 = .ok (.istore 4, 2) := by decide +kernel
theorem dL_arePages_5 : decode cL_arePages 5 = .ok (.iload 4, 2) := by decide +kernel
theorem dL_arePages_7 : decode cL_arePages 7 = .ok (.bipush 8, 2) := by decide +kernel
theorem dL_arePages_9 : decode cL_arePages 9 = .ok (.if_icmp .ge 225, 3) := by decide +kernel
theorem dL_arePages_12 : decode cL_arePages 12 = .ok (.iload_n 3, 1) := by decide +kernel
theorem dL_arePages_13 : decode cL_arePages 13 = .ok (.ifCond .eq 221, 3) := by decide +kernel
theorem dL_arePages_16 : decode cL_arePages 16 = .ok (.aload_n 2, 1) := by decide +kernel
theorem dL_arePages_17 : decode cL_arePages 17 = .ok (.iload 4, 2) := by decide +kernel
theorem dL_arePages_19 : decode cL_arePages 19 = .ok (.invokestatic 15, 3) := by decide +kernel
theorem dL_arePages_22 : decode cL_arePages 22 = .ok (.aload_n 2, 1) := by decide +kernel
theorem dL_arePages_23 : decode cL_arePages 23 = .ok (.bipush 6, 2) := by decide +kernel
theorem dL_arePages_25 : decode cL_arePages 25 = .ok (.iload 4, 2) := by decide +kernel
theorem dL_arePages_27 : decode cL_arePages 27 = .ok (.imul, 1) := by decide +kernel
theorem dL_arePages_28 : decode cL_arePages 28 = .ok (.iconst 1, 1) := by decide +kernel
theorem dL_arePages_29 : decode cL_arePages 29 = .ok (.iadd, 1) := by decide +kernel
theorem dL_arePages_30 : decode cL_arePages 30 = .ok (.iaload, 1) := by decide +kernel
theorem dL_arePages_31 : decode cL_arePages 31 = .ok (.if_icmp .eq 7, 3) := by decide +kernel
theorem dL_arePages_34 : decode cL_arePages 34 = .ok (.iconst 1, 1) := by decide +kernel
theorem dL_arePages_35 : decode cL_arePages 35 = .ok (.goto 4, 3) := by decide +kernel
theorem dL_arePages_38 : decode cL_arePages 38 = .ok (.iconst 0, 1) := by decide +kernel
theorem dL_arePages_39 : decode cL_arePages 39 = .ok (.istore 5, 2) := by decide +kernel
theorem dL_arePages_41 : decode cL_arePages 41 = .ok (.aload_n 1, 1) := by decide +kernel
theorem dL_arePages_42 : decode cL_arePages 42 = .ok (.iload 4, 2) := by decide +kernel
theorem dL_arePages_44 : decode cL_arePages 44 = .ok (.invokestatic 95, 3) := by decide +kernel
theorem dL_arePages_47 : decode cL_arePages 47 = .ok (.istore 6, 2) := by decide +kernel
theorem dL_arePages_49 : decode cL_arePages 49 = .ok (.aload_n 0, 1) := by decide +kernel
theorem dL_arePages_50 : decode cL_arePages 50 = .ok (.iload 4, 2) := by decide +kernel
theorem dL_arePages_52 : decode cL_arePages 52 = .ok (.iconst 0, 1) := by decide +kernel
theorem dL_arePages_53 : decode cL_arePages 53 = .ok (.invokevirtual 116, 3) := by decide +kernel
theorem dL_arePages_56 : decode cL_arePages 56 = .ok (.aload_n 2, 1) := by decide +kernel
theorem dL_arePages_57 : decode cL_arePages 57 = .ok (.iload 4, 2) := by decide +kernel
theorem dL_arePages_59 : decode cL_arePages 59 = .ok (.invokestatic 27, 3) := by decide +kernel
theorem dL_arePages_62 : decode cL_arePages 62 = .ok (.if_icmp .ne 164, 3) := by decide +kernel
theorem dL_arePages_65 : decode cL_arePages 65 = .ok (.aload_n 0, 1) := by decide +kernel
theorem dL_arePages_66 : decode cL_arePages 66 = .ok (.iload 4, 2) := by decide +kernel
theorem dL_arePages_68 : decode cL_arePages 68 = .ok (.iconst 1, 1) := by decide +kernel
theorem dL_arePages_69 : decode cL_arePages 69 = .ok (.invokevirtual 116, 3) := by decide +kernel
theorem dL_arePages_72 : decode cL_arePages 72 = .ok (.aload_n 2, 1) := by decide +kernel
theorem dL_arePages_73 : decode cL_arePages 73 = .ok (.iload 4, 2) := by decide +kernel
theorem dL_arePages_75 : decode cL_arePages 75 = .ok (.invokestatic 15, 3) := by decide +kernel
theorem dL_arePages_78 : decode cL_arePages 78 = .ok (.if_icmp .ne 148, 3) := by decide +kernel
theorem dL_arePages_81 : decode cL_arePages 81 = .ok (.aload_n 0, 1) := by decide +kernel
theorem dL_arePages_82 : decode cL_arePages 82 = .ok (.iload 4, 2) := by decide +kernel
theorem dL_arePages_84 : decode cL_arePages 84 = .ok (.iconst 2, 1) := by decide +kernel
theorem dL_arePages_85 : decode cL_arePages 85 = .ok (.invokevirtual 116, 3) := by decide +kernel
theorem dL_arePages_88 : decode cL_arePages 88 = .ok (.aload_n 2, 1) := by decide +kernel
theorem dL_arePages_89 : decode cL_arePages 89 = .ok (.bipush 6, 2) := by decide +kernel
theorem dL_arePages_91 : decode cL_arePages 91 = .ok (.iload 4, 2) := by decide +kernel
theorem dL_arePages_93 : decode cL_arePages 93 = .ok (.imul, 1) := by decide +kernel
theorem dL_arePages_94 : decode cL_arePages 94 = .ok (.iaload, 1) := by decide +kernel
theorem dL_arePages_95 : decode cL_arePages 95 = .ok (.if_icmp .ne 131, 3) := by decide +kernel
theorem dL_arePages_98 : decode cL_arePages 98 = .ok (.aload_n 0, 1) := by decide +kernel
theorem dL_arePages_99 : decode cL_arePages 99 = .ok (.iload 4, 2) := by decide +kernel
theorem dL_arePages_101 : decode cL_arePages 101 = .ok (.iconst 3, 1) := by decide +kernel
theorem dL_arePages_102 : decode cL_arePages 102 = .ok (.invokevirtual 116, 3) := by decide +kernel
theorem dL_arePages_105 : decode cL_arePages 105 = .ok (.aload_n 2, 1) := by decide +kernel
theorem dL_arePages_106 : decode cL_arePages 106 = .ok (.bipush 6, 2) := by decide +kernel
theorem dL_arePages_108 : decode cL_arePages 108 = .ok (.iload 4, 2) := by decide +kernel
theorem dL_arePages_110 : decode cL_arePages 110 = .ok (.imul, 1) := by decide +kernel
theorem dL_arePages_111 : decode cL_arePages 111 = .ok (.iconst 1, 1) := by decide +kernel
theorem dL_arePages_112 : decode cL_arePages 112 = .ok (.iadd, 1) := by decide +kernel
theorem dL_arePages_113 : decode cL_arePages 113 = .ok (.iaload, 1) := by decide +kernel
theorem dL_arePages_114 : decode cL_arePages 114 = .ok (.if_icmp .ne 112, 3) := by decide +kernel
theorem dL_arePages_117 : decode cL_arePages 117 = .ok (.aload_n 0, 1) := by decide +kernel
theorem dL_arePages_118 : decode cL_arePages 118 = .ok (.iload 4, 2) := by decide +kernel
theorem dL_arePages_120 : decode cL_arePages 120 = .ok (.iconst 4, 1) := by decide +kernel
theorem dL_arePages_121 : decode cL_arePages 121 = .ok (.invokevirtual 116, 3) := by decide +kernel
theorem dL_arePages_124 : decode cL_arePages 124 = .ok (.aload_n 2, 1) := by decide +kernel
theorem dL_arePages_125 : decode cL_arePages 125 = .ok (.bipush 6, 2) := by decide +kernel
theorem dL_arePages_127 : decode cL_arePages 127 = .ok (.iload 4, 2) := by decide +kernel
theorem dL_arePages_129 : decode cL_arePages 129 = .ok (.imul, 1) := by decide +kernel
theorem dL_arePages_130 : decode cL_arePages 130 = .ok (.iconst 2, 1) := by decide +kernel
theorem dL_arePages_131 : decode cL_arePages 131 = .ok (.iadd, 1) := by decide +kernel
theorem dL_arePages_132 : decode cL_arePages 132 = .ok (.iaload, 1) := by decide +kernel
theorem dL_arePages_133 : decode cL_arePages 133 = .ok (.if_icmp .ne 93, 3) := by decide +kernel
theorem dL_arePages_136 : decode cL_arePages 136 = .ok (.aload_n 0, 1) := by decide +kernel
theorem dL_arePages_137 : decode cL_arePages 137 = .ok (.iload 4, 2) := by decide +kernel
theorem dL_arePages_139 : decode cL_arePages 139 = .ok (.iconst 5, 1) := by decide +kernel
theorem dL_arePages_140 : decode cL_arePages 140 = .ok (.invokevirtual 116, 3) := by decide +kernel
theorem dL_arePages_143 : decode cL_arePages 143 = .ok (.iload 5, 2) := by decide +kernel
theorem dL_arePages_145 : decode cL_arePages 145 = .ok (.ifCond .eq 7, 3) := by decide +kernel
theorem dL_arePages_148 : decode cL_arePages 148 = .ok (.iconst 1, 1) := by decide +kernel
theorem dL_arePages_149 : decode cL_arePages 149 = .ok (.goto 4, 3) := by decide +kernel
theorem dL_arePages_152 : decode cL_arePages 152 = .ok (.iconst 0, 1) := by decide +kernel
theorem dL_arePages_153 : decode cL_arePages 153 = .ok (.if_icmp .ne 73, 3) := by decide +kernel
theorem dL_arePages_156 : decode cL_arePages 156 = .ok (.aload_n 0, 1) := by decide +kernel
theorem dL_arePages_157 : decode cL_arePages 157 = .ok (.iload 4, 2) := by decide +kernel
theorem dL_arePages_159 : decode cL_arePages 159 = .ok (.bipush 6, 2) := by decide +kernel
theorem dL_arePages_161 : decode cL_arePages 161 = .ok (.invokevirtual 116, 3) := by decide +kernel
theorem dL_arePages_164 : decode cL_arePages 164 = .ok (.iload 5, 2) := by decide +kernel
theorem dL_arePages_166 : decode cL_arePages 166 = .ok (.ifCond .eq 15, 3) := by decide +kernel
theorem dL_arePages_169 : decode cL_arePages 169 = .ok (.aload_n 2, 1) := by decide +kernel
theorem dL_arePages_170 : decode cL_arePages 170 = .ok (.bipush 6, 2) := by decide +kernel
theorem dL_arePages_172 : decode cL_arePages 172 = .ok (.iload 4, 2) := by decide +kernel
theorem dL_arePages_174 : decode cL_arePages 174 = .ok (.imul, 1) := by decide +kernel
theorem dL_arePages_175 : decode cL_arePages 175 = .ok (.iconst 5, 1) := by decide +kernel
theorem dL_arePages_176 : decode cL_arePages 176 = .ok (.iadd, 1) := by decide +kernel
theorem dL_arePages_177 : decode cL_arePages 177 = .ok (.iaload, 1) := by decide +kernel
theorem dL_arePages_178 : decode cL_arePages 178 = .ok (.goto 5, 3) := by decide +kernel
theorem dL_arePages_181 : decode cL_arePages 181 = .ok (.ldc 111, 2) := by decide +kernel
theorem dL_arePages_183 : decode cL_arePages 183 = .ok (.if_icmp .ne 43, 3) := by decide +kernel
theorem dL_arePages_186 : decode cL_arePages 186 = .ok (.aload_n 0, 1) := by decide +kernel
theorem dL_arePages_187 : decode cL_arePages 187 = .ok (.iload 4, 2) := by decide +kernel
theorem dL_arePages_189 : decode cL_arePages 189 = .ok (.bipush 7, 2) := by decide +kernel
theorem dL_arePages_191 : decode cL_arePages 191 = .ok (.invokevirtual 116, 3) := by decide +kernel
theorem dL_arePages_194 : decode cL_arePages 194 = .ok (.iload 6, 2) := by decide +kernel
theorem dL_arePages_196 : decode cL_arePages 196 = .ok (.ifCond .ge 8, 3) := by decide +kernel
theorem dL_arePages_199 : decode cL_arePages 199 = .ok (.ldc 111, 2) := by decide +kernel
theorem dL_arePages_201 : decode cL_arePages 201 = .ok (.goto 5, 3) := by decide +kernel
theorem dL_arePages_204 : decode cL_arePages 204 = .ok (.iload 6, 2) := by decide +kernel
theorem dL_arePages_206 : decode cL_arePages 206 = .ok (.if_icmp .ne 20, 3) := by decide +kernel
theorem dL_arePages_209 : decode cL_arePages 209 = .ok (.aload_n 0, 1) := by decide +kernel
theorem dL_arePages_210 : decode cL_arePages 210 = .ok (.iload 4, 2) := by decide +kernel
theorem dL_arePages_212 : decode cL_arePages 212 = .ok (.bipush 9, 2) := by decide +kernel
theorem dL_arePages_214 : decode cL_arePages 214 = .ok (.invokevirtual 116, 3) := by decide +kernel
theorem dL_arePages_217 : decode cL_arePages 217 = .ok (.ldc 115, 2) := by decide +kernel
theorem dL_arePages_219 : decode cL_arePages 219 = .ok (.if_icmp .ne 7, 3) := by decide +kernel
theorem dL_arePages_222 : decode cL_arePages 222 = .ok (.iconst 1, 1) := by decide +kernel
theorem dL_arePages_223 : decode cL_arePages 223 = .ok (.goto 4, 3) := by decide +kernel
theorem dL_arePages_226 : decode cL_arePages 226 = .ok (.iconst 0, 1) := by decide +kernel
theorem dL_arePages_227 : decode cL_arePages 227 = .ok (.istore_n 3, 1) := by decide +kernel
theorem dL_arePages_228 : decode cL_arePages 228 = .ok (.iinc 4 1, 3) := by decide +kernel
theorem dL_arePages_231 : decode cL_arePages 231 = .ok (.goto (-226), 3) := by decide +kernel
theorem dL_arePages_234 : decode cL_arePages 234 = .ok (.iconst 0, 1) := by decide +kernel
theorem dL_arePages_235 : decode cL_arePages 235 = .ok (.istore 4, 2) := by decide +kernel
theorem dL_arePages_237 : decode cL_arePages 237 = .ok (.iload 4, 2) := by decide +kernel
theorem dL_arePages_239 : decode cL_arePages 239 = .ok (.iconst 4, 1) := by decide +kernel
theorem dL_arePages_240 : decode cL_arePages 240 = .ok (.if_icmp .ge 119, 3) := by decide +kernel
theorem dL_arePages_243 : decode cL_arePages 243 = .ok (.iload_n 3, 1) := by decide +kernel
theorem dL_arePages_244 : decode cL_arePages 244 = .ok (.ifCond .eq 115, 3) := by decide +kernel
theorem dL_arePages_247 : decode cL_arePages 247 = .ok (.aload_n 1, 1) := by decide +kernel
theorem dL_arePages_248 : decode cL_arePages 248 = .ok (.iconst 4, 1) := by decide +kernel
theorem dL_arePages_249 : decode cL_arePages 249 = .ok (.iload 4, 2) := by decide +kernel
theorem dL_arePages_251 : decode cL_arePages 251 = .ok (.imul, 1) := by decide +kernel
theorem dL_arePages_252 : decode cL_arePages 252 = .ok (.iaload, 1) := by decide +kernel
theorem dL_arePages_253 : decode cL_arePages 253 = .ok (.iconst 1, 1) := by decide +kernel
theorem dL_arePages_254 : decode cL_arePages 254 = .ok (.if_icmp .ne 7, 3) := by decide +kernel
theorem dL_arePages_257 : decode cL_arePages 257 = .ok (.iconst 1, 1) := by decide +kernel
theorem dL_arePages_258 : decode cL_arePages 258 = .ok (.goto 4, 3) := by decide +kernel
theorem dL_arePages_261 : decode cL_arePages 261 = .ok (.iconst 0, 1) := by decide +kernel
theorem dL_arePages_262 : decode cL_arePages 262 = .ok (.istore 5, 2) := by decide +kernel
theorem dL_arePages_264 : decode cL_arePages 264 = .ok (.aload_n 0, 1) := by decide +kernel
theorem dL_arePages_265 : decode cL_arePages 265 = .ok (.iload 4, 2) := by decide +kernel
theorem dL_arePages_267 : decode cL_arePages 267 = .ok (.iconst 0, 1) := by decide +kernel
theorem dL_arePages_268 : decode cL_arePages 268 = .ok (.invokevirtual 119, 3) := by decide +kernel
theorem dL_arePages_271 : decode cL_arePages 271 = .ok (.aload_n 1, 1) := by decide +kernel
theorem dL_arePages_272 : decode cL_arePages 272 = .ok (.iconst 4, 1) := by decide +kernel
theorem dL_arePages_273 : decode cL_arePages 273 = .ok (.iload 4, 2) := by decide +kernel
theorem dL_arePages_275 : decode cL_arePages 275 = .ok (.imul, 1) := by decide +kernel
theorem dL_arePages_276 : decode cL_arePages 276 = .ok (.iaload, 1) := by decide +kernel
theorem dL_arePages_277 : decode cL_arePages 277 = .ok (.if_icmp .ne 19, 3) := by decide +kernel
theorem dL_arePages_280 : decode cL_arePages 280 = .ok (.aload_n 0, 1) := by decide +kernel
theorem dL_arePages_281 : decode cL_arePages 281 = .ok (.iload 4, 2) := by decide +kernel
theorem dL_arePages_283 : decode cL_arePages 283 = .ok (.iconst 4, 1) := by decide +kernel
theorem dL_arePages_284 : decode cL_arePages 284 = .ok (.invokevirtual 119, 3) := by decide +kernel
theorem dL_arePages_287 : decode cL_arePages 287 = .ok (.ldc 115, 2) := by decide +kernel
theorem dL_arePages_289 : decode cL_arePages 289 = .ok (.if_icmp .ne 7, 3) := by decide +kernel
theorem dL_arePages_292 : decode cL_arePages 292 = .ok (.iconst 1, 1) := by decide +kernel
theorem dL_arePages_293 : decode cL_arePages 293 = .ok (.goto 4, 3) := by decide +kernel
theorem dL_arePages_296 : decode cL_arePages 296 = .ok (.iconst 0, 1) := by decide +kernel
theorem dL_arePages_297 : decode cL_arePages 297 = .ok (.istore_n 3, 1) := by decide +kernel
theorem dL_arePages_298 : decode cL_arePages 298 = .ok (.iconst 1, 1) := by decide +kernel
theorem dL_arePages_299 : decode cL_arePages 299 = .ok (.istore 6, 2) := by decide +kernel
theorem dL_arePages_301 : decode cL_arePages 301 = .ok (.iload 6, 2) := by decide +kernel
theorem dL_arePages_303 : decode cL_arePages 303 = .ok (.iconst 4, 1) := by decide +kernel
theorem dL_arePages_304 : decode cL_arePages 304 = .ok (.if_icmp .ge 49, 3) := by decide +kernel
theorem dL_arePages_307 : decode cL_arePages 307 = .ok (.iload_n 3, 1) := by decide +kernel
theorem dL_arePages_308 : decode cL_arePages 308 = .ok (.ifCond .eq 45, 3) := by decide +kernel
theorem dL_arePages_311 : decode cL_arePages 311 = .ok (.aload_n 0, 1) := by decide +kernel
theorem dL_arePages_312 : decode cL_arePages 312 = .ok (.iload 4, 2) := by decide +kernel
theorem dL_arePages_314 : decode cL_arePages 314 = .ok (.iload 6, 2) := by decide +kernel
theorem dL_arePages_316 : decode cL_arePages 316 = .ok (.invokevirtual 119, 3) := by decide +kernel
theorem dL_arePages_319 : decode cL_arePages 319 = .ok (.iload 5, 2) := by decide +kernel
theorem dL_arePages_321 : decode cL_arePages 321 = .ok (.ifCond .eq 15, 3) := by decide +kernel
theorem dL_arePages_324 : decode cL_arePages 324 = .ok (.aload_n 1, 1) := by decide +kernel
theorem dL_arePages_325 : decode cL_arePages 325 = .ok (.iconst 4, 1) := by decide +kernel
theorem dL_arePages_326 : decode cL_arePages 326 = .ok (.iload 4, 2) := by decide +kernel
theorem dL_arePages_328 : decode cL_arePages 328 = .ok (.imul, 1) := by decide +kernel
theorem dL_arePages_329 : decode cL_arePages 329 = .ok (.iload 6, 2) := by decide +kernel
theorem dL_arePages_331 : decode cL_arePages 331 = .ok (.iadd, 1) := by decide +kernel
theorem dL_arePages_332 : decode cL_arePages 332 = .ok (.iaload, 1) := by decide +kernel
theorem dL_arePages_333 : decode cL_arePages 333 = .ok (.goto 5, 3) := by decide +kernel
theorem dL_arePages_336 : decode cL_arePages 336 = .ok (.ldc 111, 2) := by decide +kernel
theorem dL_arePages_338 : decode cL_arePages 338 = .ok (.if_icmp .ne 7, 3) := by decide +kernel
theorem dL_arePages_341 : decode cL_arePages 341 = .ok (.iconst 1, 1) := by decide +kernel
theorem dL_arePages_342 : decode cL_arePages 342 = .ok (.goto 4, 3) := by decide +kernel
theorem dL_arePages_345 : decode cL_arePages 345 = .ok (.iconst 0, 1) := by decide +kernel
theorem dL_arePages_346 : decode cL_arePages 346 = .ok (.istore_n 3, 1) := by decide +kernel
theorem dL_arePages_347 : decode cL_arePages 347 = .ok (.iinc 6 1, 3) := by decide +kernel
theorem dL_arePages_350 : decode cL_arePages 350 = .ok (.goto (-49), 3) := by decide +kernel
theorem dL_arePages_353 : decode cL_arePages 353 = .ok (.iinc 4 1, 3) := by decide +kernel
theorem dL_arePages_356 : decode cL_arePages 356 = .ok (.goto (-119), 3) := by decide +kernel
theorem dL_arePages_359 : decode cL_arePages 359 = .ok (.iload_n 3, 1) := by decide +kernel
theorem dL_arePages_360 : decode cL_arePages 360 = .ok (.ireturn, 1) := by decide +kernel
theorem dL_isSo_0 : decode cL_isSo 0 = .ok (.aload_n 0, 1) := by decide +kernel
theorem dL_isSo_1 : decode cL_isSo 1 = .ok (.aload_n 2, 1) := by decide +kernel
theorem dL_isSo_2 : decode cL_isSo 2 = .ok (.aload_n 3, 1) := by decide +kernel
theorem dL_isSo_3 : decode cL_isSo 3 = .ok (.invokestatic 122, 3) := by decide +kernel
theorem dL_isSo_6 : decode cL_isSo 6 = .ok (.istore 7, 2) := by decide +kernel
theorem dL_isSo_8 : decode cL_isSo 8 = .ok (.aload_n 1, 1) := by decide +kernel
theorem dL_isSo_9 : decode cL_isSo 9 = .ok (.iconst 0, 1) := by decide +kernel
theorem dL_isSo_10 : decode cL_isSo 10 = .ok (.iaload, 1) := by decide +kernel
theorem dL_isSo_11 : decode cL_isSo 11 = .ok (.istore 8, 2) := by decide +kernel
theorem dL_isSo_13 : decode cL_isSo 13 = .ok (.iload 8, 2) := by decide +kernel
theorem dL_isSo_15 : decode cL_isSo 15 = .ok (.aload_n 1, 1) := by decide +kernel
theorem dL_isSo_16 : decode cL_isSo 16 = .ok (.invokestatic 9, 3) := by decide +kernel
theorem dL_isSo_19 : decode cL_isSo 19 = .ok (.if_icmp .gt 54, 3) := by decide +kernel
theorem dL_isSo_22 : decode cL_isSo 22 = .ok (.iload 7, 2) := by decide +kernel
theorem dL_isSo_24 : decode cL_isSo 24 = .ok (.ifCond .eq 49, 3) := by decide +kernel
theorem dL_isSo_27 : decode cL_isSo 27 = .ok (.iload 8, 2) := by decide +kernel
theorem dL_isSo_29 : decode cL_isSo 29 = .ok (.iload 6, 2) := by decide +kernel
theorem dL_isSo_31 : decode cL_isSo 31 = .ok (.iadd, 1) := by decide +kernel
theorem dL_isSo_32 : decode cL_isSo 32 = .ok (.iconst 4, 1) := by decide +kernel
theorem dL_isSo_33 : decode cL_isSo 33 = .ok (.irem, 1) := by decide +kernel
theorem dL_isSo_34 : decode cL_isSo 34 = .ok (.ifCond .le 14, 3) := by decide +kernel
theorem dL_isSo_37 : decode cL_isSo 37 = .ok (.iload 8, 2) := by decide +kernel
theorem dL_isSo_39 : decode cL_isSo 39 = .ok (.aload_n 1, 1) := by decide +kernel
theorem dL_isSo_40 : decode cL_isSo 40 = .ok (.invokestatic 9, 3) := by decide +kernel
theorem dL_isSo_43 : decode cL_isSo 43 = .ok (.iconst 2, 1) := by decide +kernel
theorem dL_isSo_44 : decode cL_isSo 44 = .ok (.isub, 1) := by decide +kernel
theorem dL_isSo_45 : decode cL_isSo 45 = .ok (.if_icmp .lt 15, 3) := by decide +kernel
theorem dL_isSo_48 : decode cL_isSo 48 = .ok (.aload_n 0, 1) := by decide +kernel
theorem dL_isSo_49 : decode cL_isSo 49 = .ok (.aload_n 1, 1) := by decide +kernel
theorem dL_isSo_50 : decode cL_isSo 50 = .ok (.aload 4, 2) := by decide +kernel
theorem dL_isSo_52 : decode cL_isSo 52 = .ok (.iload 8, 2) := by decide +kernel
theorem dL_isSo_54 : decode cL_isSo 54 = .ok (.invokestatic 126, 3) := by decide +kernel
theorem dL_isSo_57 : decode cL_isSo 57 = .ok (.ifCond .eq 7, 3) := by decide +kernel
theorem dL_isSo_60 : decode cL_isSo 60 = .ok (.iconst 1, 1) := by decide +kernel
theorem dL_isSo_61 : decode cL_isSo 61 = .ok (.goto 4, 3) := by decide +kernel
theorem dL_isSo_64 : decode cL_isSo 64 = .ok (.iconst 0, 1) := by decide +kernel
theorem dL_isSo_65 : decode cL_isSo 65 = .ok (.istore 7, 2) := by decide +kernel
theorem dL_isSo_67 : decode cL_isSo 67 = .ok (.iinc 8 1, 3) := by decide +kernel
theorem dL_isSo_70 : decode cL_isSo 70 = .ok (.goto (-57), 3) := by decide +kernel
theorem dL_isSo_73 : decode cL_isSo 73 = .ok (.iconst 0, 1) := by decide +kernel
theorem dL_isSo_74 : decode cL_isSo 74 = .ok (.istore 8, 2) := by decide +kernel
theorem dL_isSo_76 : decode cL_isSo 76 = .ok (.iconst 0, 1) := by decide +kernel
theorem dL_isSo_77 : decode cL_isSo 77 = .ok (.istore 9, 2) := by decide +kernel
theorem dL_isSo_79 : decode cL_isSo 79 = .ok (.iload 9, 2) := by decide +kernel
theorem dL_isSo_81 : decode cL_isSo 81 = .ok (.bipush 8, 2) := by decide +kernel
theorem dL_isSo_83 : decode cL_isSo 83 = .ok (.if_icmp .ge 53, 3) := by decide +kernel
theorem dL_isSo_86 : decode cL_isSo 86 = .ok (.iload 8, 2) := by decide +kernel
theorem dL_isSo_88 : decode cL_isSo 88 = .ok (.aload_n 3, 1) := by decide +kernel
theorem dL_isSo_89 : decode cL_isSo 89 = .ok (.bipush 6, 2) := by decide +kernel
theorem dL_isSo_91 : decode cL_isSo 91 = .ok (.iload 9, 2) := by decide +kernel
theorem dL_isSo_93 : decode cL_isSo 93 = .ok (.imul, 1) := by decide +kernel
theorem dL_isSo_94 : decode cL_isSo 94 = .ok (.iconst 2, 1) := by decide +kernel
theorem dL_isSo_95 : decode cL_isSo 95 = .ok (.iadd, 1) := by decide +kernel
theorem dL_isSo_96 : decode cL_isSo 96 = .ok (.iaload, 1) := by decide +kernel
theorem dL_isSo_97 : decode cL_isSo 97 = .ok (.iload 9, 2) := by decide +kernel
theorem dL_isSo_99 : decode cL_isSo 99 = .ok (.ishl, 1) := by decide +kernel
theorem dL_isSo_100 : decode cL_isSo 100 = .ok (.iadd, 1) := by decide +kernel
theorem dL_isSo_101 : decode cL_isSo 101 = .ok (.istore 8, 2) := by decide +kernel
theorem dL_isSo_103 : decode cL_isSo 103 = .ok (.iload 7, 2) := by decide +kernel
theorem dL_isSo_105 : decode cL_isSo 105 = .ok (.ifCond .eq 22, 3) := by decide +kernel
theorem dL_isSo_108 : decode cL_isSo 108 = .ok (.aload_n 3, 1) := by decide +kernel
theorem dL_isSo_109 : decode cL_isSo 109 = .ok (.bipush 6, 2) := by decide +kernel
theorem dL_isSo_111 : decode cL_isSo 111 = .ok (.iload 9, 2) := by decide +kernel
theorem dL_isSo_113 : decode cL_isSo 113 = .ok (.imul, 1) := by decide +kernel
theorem dL_isSo_114 : decode cL_isSo 114 = .ok (.iconst 1, 1) := by decide +kernel
theorem dL_isSo_115 : decode cL_isSo 115 = .ok (.iadd, 1) := by decide +kernel
theorem dL_isSo_116 : decode cL_isSo 116 = .ok (.iaload, 1) := by decide +kernel
theorem dL_isSo_117 : decode cL_isSo 117 = .ok (.aload_n 1, 1) := by decide +kernel
theorem dL_isSo_118 : decode cL_isSo 118 = .ok (.iconst 2, 1) := by decide +kernel
theorem dL_isSo_119 : decode cL_isSo 119 = .ok (.iaload, 1) := by decide +kernel
theorem dL_isSo_120 : decode cL_isSo 120 = .ok (.if_icmp .gt 7, 3) := by decide +kernel
theorem dL_isSo_123 : decode cL_isSo 123 = .ok (.iconst 1, 1) := by decide +kernel
theorem dL_isSo_124 : decode cL_isSo 124 = .ok (.goto 4, 3) := by decide +kernel
theorem dL_isSo_127 : decode cL_isSo 127 = .ok (.iconst 0, 1) := by decide +kernel
theorem dL_isSo_128 : decode cL_isSo 128 = .ok (.istore 7, 2) := by decide +kernel
theorem dL_isSo_130 : decode cL_isSo 130 = .ok (.iinc 9 1, 3) := by decide +kernel
theorem dL_isSo_133 : decode cL_isSo 133 = .ok (.goto (-54), 3) := by decide +kernel
theorem dL_isSo_136 : decode cL_isSo 136 = .ok (.aload_n 1, 1) := by decide +kernel
theorem dL_isSo_137 : decode cL_isSo 137 = .ok (.iconst 1, 1) := by decide +kernel
theorem dL_isSo_138 : decode cL_isSo 138 = .ok (.iaload, 1) := by decide +kernel
theorem dL_isSo_139 : decode cL_isSo 139 = .ok (.ifCond .ne 7, 3) := by decide +kernel
theorem dL_isSo_142 : decode cL_isSo 142 = .ok (.iconst 1, 1) := by decide +kernel
theorem dL_isSo_143 : decode cL_isSo 143 = .ok (.goto 4, 3) := by decide +kernel
theorem dL_isSo_146 : decode cL_isSo 146 = .ok (.iconst 0, 1) := by decide +kernel
theorem dL_isSo_147 : decode cL_isSo 147 = .ok (.istore 9, 2) := by decide +kernel
theorem dL_isSo_149 : decode cL_isSo 149 = .ok (.iload 7, 2) := by decide +kernel
theorem dL_isSo_151 : decode cL_isSo 151 = .ok (.ifCond .eq 155, 3) := by decide +kernel
theorem dL_isSo_154 : decode cL_isSo 154 = .ok (.aload_n 0, 1) := by decide +kernel
theorem dL_isSo_155 : decode cL_isSo 155 = .ok (.iconst 0, 1) := by decide +kernel
theorem dL_isSo_156 : decode cL_isSo 156 = .ok (.invokevirtual 130, 3) := by decide +kernel
theorem dL_isSo_159 : decode cL_isSo 159 = .ok (.aload_n 1, 1) := by decide +kernel
theorem dL_isSo_160 : decode cL_isSo 160 = .ok (.iconst 1, 1) := by decide +kernel
theorem dL_isSo_161 : decode cL_isSo 161 = .ok (.iaload, 1) := by decide +kernel
theorem dL_isSo_162 : decode cL_isSo 162 = .ok (.if_icmp .ne 144, 3) := by decide +kernel
theorem dL_isSo_165 : decode cL_isSo 165 = .ok (.aload_n 0, 1) := by decide +kernel
theorem dL_isSo_166 : decode cL_isSo 166 = .ok (.iconst 1, 1) := by decide +kernel
theorem dL_isSo_167 : decode cL_isSo 167 = .ok (.invokevirtual 130, 3) := by decide +kernel
theorem dL_isSo_170 : decode cL_isSo 170 = .ok (.iload 9, 2) := by decide +kernel
theorem dL_isSo_172 : decode cL_isSo 172 = .ok (.ifCond .eq 7, 3) := by decide +kernel
theorem dL_isSo_175 : decode cL_isSo 175 = .ok (.iconst 0, 1) := by decide +kernel
theorem dL_isSo_176 : decode cL_isSo 176 = .ok (.goto 6, 3) := by decide +kernel
theorem dL_isSo_179 : decode cL_isSo 179 = .ok (.aload_n 1, 1) := by decide +kernel
theorem dL_isSo_180 : decode cL_isSo 180 = .ok (.iconst 0, 1) := by decide +kernel
theorem dL_isSo_181 : decode cL_isSo 181 = .ok (.iaload, 1) := by decide +kernel
theorem dL_isSo_182 : decode cL_isSo 182 = .ok (.if_icmp .ne 124, 3) := by decide +kernel
theorem dL_isSo_185 : decode cL_isSo 185 = .ok (.aload_n 0, 1) := by decide +kernel
theorem dL_isSo_186 : decode cL_isSo 186 = .ok (.iconst 2, 1) := by decide +kernel
theorem dL_isSo_187 : decode cL_isSo 187 = .ok (.invokevirtual 130, 3) := by decide +kernel
theorem dL_isSo_190 : decode cL_isSo 190 = .ok (.iload 9, 2) := by decide +kernel
theorem dL_isSo_192 : decode cL_isSo 192 = .ok (.ifCond .eq 7, 3) := by decide +kernel
theorem dL_isSo_195 : decode cL_isSo 195 = .ok (.iconst 0, 1) := by decide +kernel
theorem dL_isSo_196 : decode cL_isSo 196 = .ok (.goto 7, 3) := by decide +kernel
theorem dL_isSo_199 : decode cL_isSo 199 = .ok (.aload_n 1, 1) := by decide +kernel
theorem dL_isSo_200 : decode cL_isSo 200 = .ok (.invokestatic 9, 3) := by decide +kernel
theorem dL_isSo_203 : decode cL_isSo 203 = .ok (.if_icmp .ne 103, 3) := by decide +kernel
theorem dL_isSo_206 : decode cL_isSo 206 = .ok (.aload_n 0, 1) := by decide +kernel
theorem dL_isSo_207 : decode cL_isSo 207 = .ok (.iconst 3, 1) := by decide +kernel
theorem dL_isSo_208 : decode cL_isSo 208 = .ok (.invokevirtual 130, 3) := by decide +kernel
theorem dL_isSo_211 : decode cL_isSo 211 = .ok (.aload_n 1, 1) := by decide +kernel
theorem dL_isSo_212 : decode cL_isSo 212 = .ok (.iconst 2, 1) := by decide +kernel
theorem dL_isSo_213 : decode cL_isSo 213 = .ok (.iaload, 1) := by decide +kernel
theorem dL_isSo_214 : decode cL_isSo 214 = .ok (.aload_n 1, 1) := by decide +kernel
theorem dL_isSo_215 : decode cL_isSo 215 = .ok (.iconst 0, 1) := by decide +kernel
theorem dL_isSo_216 : decode cL_isSo 216 = .ok (.iaload, 1) := by decide +kernel
theorem dL_isSo_217 : decode cL_isSo 217 = .ok (.isub, 1) := by decide +kernel
theorem dL_isSo_218 : decode cL_isSo 218 = .ok (.iconst 1, 1) := by decide +kernel
theorem dL_isSo_219 : decode cL_isSo 219 = .ok (.iadd, 1) := by decide +kernel
theorem dL_isSo_220 : decode cL_isSo 220 = .ok (.if_icmp .ne 86, 3) := by decide +kernel
theorem dL_isSo_223 : decode cL_isSo 223 = .ok (.aload_n 0, 1) := by decide +kernel
theorem dL_isSo_224 : decode cL_isSo 224 = .ok (.iconst 4, 1) := by decide +kernel
theorem dL_isSo_225 : decode cL_isSo 225 = .ok (.invokevirtual 130, 3) := by decide +kernel
theorem dL_isSo_228 : decode cL_isSo 228 = .ok (.aload_n 2, 1) := by decide +kernel
theorem dL_isSo_229 : decode cL_isSo 229 = .ok (.invokestatic 101, 3) := by decide +kernel
theorem dL_isSo_232 : decode cL_isSo 232 = .ok (.if_icmp .ne 74, 3) := by decide +kernel
theorem dL_isSo_235 : decode cL_isSo 235 = .ok (.aload_n 0, 1) := by decide +kernel
theorem dL_isSo_236 : decode cL_isSo 236 = .ok (.iconst 5, 1) := by decide +kernel
theorem dL_isSo_237 : decode cL_isSo 237 = .ok (.invokevirtual 130, 3) := by decide +kernel
theorem dL_isSo_240 : decode cL_isSo 240 = .ok (.iload 8, 2) := by decide +kernel
theorem dL_isSo_242 : decode cL_isSo 242 = .ok (.if_icmp .ne 64, 3) := by decide +kernel
theorem dL_isSo_245 : decode cL_isSo 245 = .ok (.aload_n 0, 1) := by decide +kernel
theorem dL_isSo_246 : decode cL_isSo 246 = .ok (.bipush 6, 2) := by decide +kernel
theorem dL_isSo_248 : decode cL_isSo 248 = .ok (.invokevirtual 130, 3) := by decide +kernel
theorem dL_isSo_251 : decode cL_isSo 251 = .ok (.aload_n 3, 1) := by decide +kernel
theorem dL_isSo_252 : decode cL_isSo 252 = .ok (.invokestatic 98, 3) := by decide +kernel
theorem dL_isSo_255 : decode cL_isSo 255 = .ok (.if_icmp .ne 51, 3) := by decide +kernel
theorem dL_isSo_258 : decode cL_isSo 258 = .ok (.aload_n 0, 1) := by decide +kernel
theorem dL_isSo_259 : decode cL_isSo 259 = .ok (.bipush 7, 2) := by decide +kernel
theorem dL_isSo_261 : decode cL_isSo 261 = .ok (.invokevirtual 130, 3) := by decide +kernel
theorem dL_isSo_264 : decode cL_isSo 264 = .ok (.aload_n 1, 1) := by decide +kernel
theorem dL_isSo_265 : decode cL_isSo 265 = .ok (.iconst 3, 1) := by decide +kernel
theorem dL_isSo_266 : decode cL_isSo 266 = .ok (.iaload, 1) := by decide +kernel
theorem dL_isSo_267 : decode cL_isSo 267 = .ok (.if_icmp .ne 39, 3) := by decide +kernel
theorem dL_isSo_270 : decode cL_isSo 270 = .ok (.aload_n 0, 1) := by decide +kernel
theorem dL_isSo_271 : decode cL_isSo 271 = .ok (.bipush 8, 2) := by decide +kernel
theorem dL_isSo_273 : decode cL_isSo 273 = .ok (.invokevirtual 130, 3) := by decide +kernel
theorem dL_isSo_276 : decode cL_isSo 276 = .ok (.aload_n 1, 1) := by decide +kernel
theorem dL_isSo_277 : decode cL_isSo 277 = .ok (.aload 4, 2) := by decide +kernel
theorem dL_isSo_279 : decode cL_isSo 279 = .ok (.invokestatic 34, 3) := by decide +kernel
theorem dL_isSo_282 : decode cL_isSo 282 = .ok (.if_icmp .ne 24, 3) := by decide +kernel
theorem dL_isSo_285 : decode cL_isSo 285 = .ok (.aload_n 0, 1) := by decide +kernel
theorem dL_isSo_286 : decode cL_isSo 286 = .ok (.bipush 9, 2) := by decide +kernel
theorem dL_isSo_288 : decode cL_isSo 288 = .ok (.invokevirtual 130, 3) := by decide +kernel
theorem dL_isSo_291 : decode cL_isSo 291 = .ok (.aload_n 1, 1) := by decide +kernel
theorem dL_isSo_292 : decode cL_isSo 292 = .ok (.aload 4, 2) := by decide +kernel
theorem dL_isSo_294 : decode cL_isSo 294 = .ok (.aload 5, 2) := by decide +kernel
theorem dL_isSo_296 : decode cL_isSo 296 = .ok (.invokestatic 104, 3) := by decide +kernel
theorem dL_isSo_299 : decode cL_isSo 299 = .ok (.if_icmp .ne 7, 3) := by decide +kernel
theorem dL_isSo_302 : decode cL_isSo 302 = .ok (.iconst 1, 1) := by decide +kernel
theorem dL_isSo_303 : decode cL_isSo 303 = .ok (.goto 4, 3) := by decide +kernel
theorem dL_isSo_306 : decode cL_isSo 306 = .ok (.iconst 0, 1) := by decide +kernel
theorem dL_isSo_307 : decode cL_isSo 307 = .ok (.istore 7, 2) := by decide +kernel
theorem dL_isSo_309 : decode cL_isSo 309 = .ok (.iload 7, 2) := by decide +kernel
theorem dL_isSo_311 : decode cL_isSo 311 = .ok (.ifCond .eq 77, 3) := by decide +kernel
theorem dL_isSo_314 : decode cL_isSo 314 = .ok (.aload_n 0, 1) := by decide +kernel
theorem dL_isSo_315 : decode cL_isSo 315 = .ok (.bipush 10, 2) := by decide +kernel
theorem dL_isSo_317 : decode cL_isSo 317 = .ok (.invokevirtual 130, 3) := by decide +kernel
theorem dL_isSo_320 : decode cL_isSo 320 = .ok (.aload_n 1, 1) := by decide +kernel
theorem dL_isSo_321 : decode cL_isSo 321 = .ok (.iconst 4, 1) := by decide +kernel
theorem dL_isSo_322 : decode cL_isSo 322 = .ok (.iaload, 1) := by decide +kernel
theorem dL_isSo_323 : decode cL_isSo 323 = .ok (.if_icmp .ne 65, 3) := by decide +kernel
theorem dL_isSo_326 : decode cL_isSo 326 = .ok (.aload_n 0, 1) := by decide +kernel
theorem dL_isSo_327 : decode cL_isSo 327 = .ok (.bipush 12, 2) := by decide +kernel
theorem dL_isSo_329 : decode cL_isSo 329 = .ok (.invokevirtual 130, 3) := by decide +kernel
theorem dL_isSo_332 : decode cL_isSo 332 = .ok (.ifCond .ne 56, 3) := by decide +kernel
theorem dL_isSo_335 : decode cL_isSo 335 = .ok (.aload_n 0, 1) := by decide +kernel
theorem dL_isSo_336 : decode cL_isSo 336 = .ok (.aload_n 1, 1) := by decide +kernel
theorem dL_isSo_337 : decode cL_isSo 337 = .ok (.invokestatic 9, 3) := by decide +kernel
theorem dL_isSo_340 : decode cL_isSo 340 = .ok (.iconst 1, 1) := by decide +kernel
theorem dL_isSo_341 : decode cL_isSo 341 = .ok (.iadd, 1) := by decide +kernel
theorem dL_isSo_342 : decode cL_isSo 342 = .ok (.iconst 0, 1) := by decide +kernel
theorem dL_isSo_343 : decode cL_isSo 343 = .ok (.invokevirtual 112, 3) := by decide +kernel
theorem dL_isSo_346 : decode cL_isSo 346 = .ok (.ldc 111, 2) := by decide +kernel
theorem dL_isSo_348 : decode cL_isSo 348 = .ok (.if_icmp .ne 40, 3) := by decide +kernel
theorem dL_isSo_351 : decode cL_isSo 351 = .ok (.aload_n 1, 1) := by decide +kernel
theorem dL_isSo_352 : decode cL_isSo 352 = .ok (.iconst 0, 1) := by decide +kernel
theorem dL_isSo_353 : decode cL_isSo 353 = .ok (.iaload, 1) := by decide +kernel
theorem dL_isSo_354 : decode cL_isSo 354 = .ok (.iconst 1, 1) := by decide +kernel
theorem dL_isSo_355 : decode cL_isSo 355 = .ok (.if_icmp .eq 18, 3) := by decide +kernel
theorem dL_isSo_358 : decode cL_isSo 358 = .ok (.aload_n 0, 1) := by decide +kernel
theorem dL_isSo_359 : decode cL_isSo 359 = .ok (.aload_n 1, 1) := by decide +kernel
theorem dL_isSo_360 : decode cL_isSo 360 = .ok (.iconst 0, 1) := by decide +kernel
theorem dL_isSo_361 : decode cL_isSo 361 = .ok (.iaload, 1) := by decide +kernel
theorem dL_isSo_362 : decode cL_isSo 362 = .ok (.iconst 1, 1) := by decide +kernel
theorem dL_isSo_363 : decode cL_isSo 363 = .ok (.isub, 1) := by decide +kernel
theorem dL_isSo_364 : decode cL_isSo 364 = .ok (.iconst 0, 1) := by decide +kernel
theorem dL_isSo_365 : decode cL_isSo 365 = .ok (.invokevirtual 112, 3) := by decide +kernel
theorem dL_isSo_368 : decode cL_isSo 368 = .ok (.ldc 111, 2) := by decide +kernel
theorem dL_isSo_370 : decode cL_isSo 370 = .ok (.if_icmp .ne 18, 3) := by decide +kernel
theorem dL_isSo_373 : decode cL_isSo 373 = .ok (.aload_n 0, 1) := by decide +kernel
theorem dL_isSo_374 : decode cL_isSo 374 = .ok (.iconst 0, 1) := by decide +kernel
theorem dL_isSo_375 : decode cL_isSo 375 = .ok (.iconst 0, 1) := by decide +kernel
theorem dL_isSo_376 : decode cL_isSo 376 = .ok (.invokevirtual 112, 3) := by decide +kernel
theorem dL_isSo_379 : decode cL_isSo 379 = .ok (.ldc 115, 2) := by decide +kernel
theorem dL_isSo_381 : decode cL_isSo 381 = .ok (.if_icmp .ne 7, 3) := by decide +kernel
theorem dL_isSo_384 : decode cL_isSo 384 = .ok (.iconst 1, 1) := by decide +kernel
theorem dL_isSo_385 : decode cL_isSo 385 = .ok (.goto 4, 3) := by decide +kernel
theorem dL_isSo_388 : decode cL_isSo 388 = .ok (.iconst 0, 1) := by decide +kernel
theorem dL_isSo_389 : decode cL_isSo 389 = .ok (.ireturn, 1) := by decide +kernel
theorem dL_law_0 : decode cL_law 0 = .ok (.new 52, 3) := by decide +kernel
theorem dL_law_3 : decode cL_law 3 = .ok (.dup, 1) := by decide +kernel
theorem dL_law_4 : decode cL_law 4 = .ok (.invokespecial 133, 3) := by decide +kernel
theorem dL_law_7 : decode cL_law 7 = .ok (.astore_n 1, 1) := by decide +kernel
theorem dL_law_8 : decode cL_law 8 = .ok (.iconst 5, 1) := by decide +kernel
theorem dL_law_9 : decode cL_law 9 = .ok (.newarray .int, 2) := by decide +kernel
theorem dL_law_11 : decode cL_law 11 = .ok (.astore_n 2, 1) := by decide +kernel
theorem dL_law_12 : decode cL_law 12 = .ok (.bipush 16, 2) := by decide +kernel
theorem dL_law_14 : decode cL_law 14 = .ok (.newarray .int, 2) := by decide +kernel
theorem dL_law_16 : decode cL_law 16 = .ok (.astore_n 3, 1) := by decide +kernel
theorem dL_law_17 : decode cL_law 17 = .ok (.bipush 48, 2) := by decide +kernel
theorem dL_law_19 : decode cL_law 19 = .ok (.newarray .int, 2) := by decide +kernel
theorem dL_law_21 : decode cL_law 21 = .ok (.astore 4, 2) := by decide +kernel
theorem dL_law_23 : decode cL_law 23 = .ok (.bipush 64, 2) := by decide +kernel
theorem dL_law_25 : decode cL_law 25 = .ok (.newarray .long, 2) := by decide +kernel
theorem dL_law_27 : decode cL_law 27 = .ok (.astore 5, 2) := by decide +kernel
theorem dL_law_29 : decode cL_law 29 = .ok (.bipush 8, 2) := by decide +kernel
theorem dL_law_31 : decode cL_law 31 = .ok (.newarray .int, 2) := by decide +kernel
theorem dL_law_33 : decode cL_law 33 = .ok (.astore 6, 2) := by decide +kernel
theorem dL_law_35 : decode cL_law 35 = .ok (.aload_n 2, 1) := by decide +kernel
theorem dL_law_36 : decode cL_law 36 = .ok (.iconst 0, 1) := by decide +kernel
theorem dL_law_37 : decode cL_law 37 = .ok (.iconst 1, 1) := by decide +kernel
theorem dL_law_38 : decode cL_law 38 = .ok (.iastore, 1) := by decide +kernel
theorem dL_law_39 : decode cL_law 39 = .ok (.aload_n 1, 1) := by decide +kernel
theorem dL_law_40 : decode cL_law 40 = .ok (.aload_n 2, 1) := by decide +kernel
theorem dL_law_41 : decode cL_law 41 = .ok (.aload_n 3, 1) := by decide +kernel
theorem dL_law_42 : decode cL_law 42 = .ok (.aload 4, 2) := by decide +kernel
theorem dL_law_44 : decode cL_law 44 = .ok (.aload 5, 2) := by decide +kernel
theorem dL_law_46 : decode cL_law 46 = .ok (.aload 6, 2) := by decide +kernel
theorem dL_law_48 : decode cL_law 48 = .ok (.iconst 0, 1) := by decide +kernel
theorem dL_law_49 : decode cL_law 49 = .ok (.invokestatic 134, 3) := by decide +kernel
theorem dL_law_52 : decode cL_law 52 = .ok (.ifCond .eq 25, 3) := by decide +kernel
theorem dL_law_55 : decode cL_law 55 = .ok (.aload_n 1, 1) := by decide +kernel
theorem dL_law_56 : decode cL_law 56 = .ok (.invokevirtual 92, 3) := by decide +kernel
theorem dL_law_59 : decode cL_law 59 = .ok (.ldc 50, 2) := by decide +kernel
theorem dL_law_61 : decode cL_law 61 = .ok (.if_icmp .ne 16, 3) := by decide +kernel
theorem dL_law_64 : decode cL_law 64 = .ok (.aload_n 1, 1) := by decide +kernel
theorem dL_law_65 : decode cL_law 65 = .ok (.invokevirtual 77, 3) := by decide +kernel
theorem dL_law_68 : decode cL_law 68 = .ok (.ldc 50, 2) := by decide +kernel
theorem dL_law_70 : decode cL_law 70 = .ok (.if_icmp .ne 7, 3) := by decide +kernel
theorem dL_law_73 : decode cL_law 73 = .ok (.iconst 1, 1) := by decide +kernel
theorem dL_law_74 : decode cL_law 74 = .ok (.goto 4, 3) := by decide +kernel
theorem dL_law_77 : decode cL_law 77 = .ok (.iconst 0, 1) := by decide +kernel
theorem dL_law_78 : decode cL_law 78 = .ok (.istore 7, 2) := by decide +kernel
theorem dL_law_80 : decode cL_law 80 = .ok (.bipush 16, 2) := by decide +kernel
theorem dL_law_82 : decode cL_law 82 = .ok (.aload_n 0, 1) := by decide +kernel
theorem dL_law_83 : decode cL_law 83 = .ok (.iconst 0, 1) := by decide +kernel
theorem dL_law_84 : decode cL_law 84 = .ok (.invokestatic 138, 3) := by decide +kernel
theorem dL_law_87 : decode cL_law 87 = .ok (.bipush 48, 2) := by decide +kernel
theorem dL_law_89 : decode cL_law 89 = .ok (.invokestatic 46, 3) := by decide +kernel
theorem dL_law_92 : decode cL_law 92 = .ok (.iadd, 1) := by decide +kernel
theorem dL_law_93 : decode cL_law 93 = .ok (.istore 8, 2) := by decide +kernel
theorem dL_law_95 : decode cL_law 95 = .ok (.iconst 0, 1) := by decide +kernel
theorem dL_law_96 : decode cL_law 96 = .ok (.istore 9, 2) := by decide +kernel
theorem dL_law_98 : decode cL_law 98 = .ok (.iload 9, 2) := by decide +kernel
theorem dL_law_100 : decode cL_law 100 = .ok (.iload 8, 2) := by decide +kernel
theorem dL_law_102 : decode cL_law 102 = .ok (.if_icmp .ge 117, 3) := by decide +kernel
theorem dL_law_105 : decode cL_law 105 = .ok (.iload 7, 2) := by decide +kernel
theorem dL_law_107 : decode cL_law 107 = .ok (.ifCond .eq 112, 3) := by decide +kernel
theorem dL_law_110 : decode cL_law 110 = .ok (.aload_n 0, 1) := by decide +kernel
theorem dL_law_111 : decode cL_law 111 = .ok (.iconst 1, 1) := by decide +kernel
theorem dL_law_112 : decode cL_law 112 = .ok (.iload 9, 2) := by decide +kernel
theorem dL_law_114 : decode cL_law 114 = .ok (.iadd, 1) := by decide +kernel
theorem dL_law_115 : decode cL_law 115 = .ok (.invokestatic 138, 3) := by decide +kernel
theorem dL_law_118 : decode cL_law 118 = .ok (.sipush 7919, 3) := by decide +kernel
theorem dL_law_121 : decode cL_law 121 = .ok (.iload 9, 2) := by decide +kernel
theorem dL_law_123 : decode cL_law 123 = .ok (.imul, 1) := by decide +kernel
theorem dL_law_124 : decode cL_law 124 = .ok (.ixor, 1) := by decide +kernel
theorem dL_law_125 : decode cL_law 125 = .ok (.istore 10, 2) := by decide +kernel
theorem dL_law_127 : decode cL_law 127 = .ok (.aload_n 1, 1) := by decide +kernel
theorem dL_law_128 : decode cL_law 128 = .ok (.aload_n 2, 1) := by decide +kernel
theorem dL_law_129 : decode cL_law 129 = .ok (.aload_n 3, 1) := by decide +kernel
theorem dL_law_130 : decode cL_law 130 = .ok (.aload 4, 2) := by decide +kernel
theorem dL_law_132 : decode cL_law 132 = .ok (.aload 5, 2) := by decide +kernel
theorem dL_law_134 : decode cL_law 134 = .ok (.aload 6, 2) := by decide +kernel
theorem dL_law_136 : decode cL_law 136 = .ok (.iload 9, 2) := by decide +kernel
theorem dL_law_138 : decode cL_law 138 = .ok (.iconst 4, 1) := by decide +kernel
theorem dL_law_139 : decode cL_law 139 = .ok (.if_icmp .ge 34, 3) := by decide +kernel
theorem dL_law_142 : decode cL_law 142 = .ok (.iload 10, 2) := by decide +kernel
theorem dL_law_144 : decode cL_law 144 = .ok (.ldc 45, 2) := by decide +kernel
theorem dL_law_146 : decode cL_law 146 = .ok (.invokestatic 46, 3) := by decide +kernel
theorem dL_law_149 : decode cL_law 149 = .ok (.sipush 960, 3) := by decide +kernel
theorem dL_law_152 : decode cL_law 152 = .ok (.idiv, 1) := by decide +kernel
theorem dL_law_153 : decode cL_law 153 = .ok (.sipush 960, 3) := by decide +kernel
theorem dL_law_156 : decode cL_law 156 = .ok (.imul, 1) := by decide +kernel
theorem dL_law_157 : decode cL_law 157 = .ok (.iload 9, 2) := by decide +kernel
theorem dL_law_159 : decode cL_law 159 = .ok (.iconst 2, 1) := by decide +kernel
theorem dL_law_160 : decode cL_law 160 = .ok (.if_icmp .ge 7, 3) := by decide +kernel
theorem dL_law_163 : decode cL_law 163 = .ok (.iconst 0, 1) := by decide +kernel
theorem dL_law_164 : decode cL_law 164 = .ok (.goto 5, 3) := by decide +kernel
theorem dL_law_167 : decode cL_law 167 = .ok (.bipush 6, 2) := by decide +kernel
theorem dL_law_169 : decode cL_law 169 = .ok (.iadd, 1) := by decide +kernel
theorem dL_law_170 : decode cL_law 170 = .ok (.goto 5, 3) := by decide +kernel
theorem dL_law_173 : decode cL_law 173 = .ok (.iload 10, 2) := by decide +kernel
theorem dL_law_175 : decode cL_law 175 = .ok (.invokestatic 141, 3) := by decide +kernel
theorem dL_law_178 : decode cL_law 178 = .ok (.ifCond .eq 32, 3) := by decide +kernel
theorem dL_law_181 : decode cL_law 181 = .ok (.aload_n 1, 1) := by decide +kernel
theorem dL_law_182 : decode cL_law 182 = .ok (.aload_n 2, 1) := by decide +kernel
theorem dL_law_183 : decode cL_law 183 = .ok (.aload_n 3, 1) := by decide +kernel
theorem dL_law_184 : decode cL_law 184 = .ok (.aload 4, 2) := by decide +kernel
theorem dL_law_186 : decode cL_law 186 = .ok (.aload 5, 2) := by decide +kernel
theorem dL_law_188 : decode cL_law 188 = .ok (.aload 6, 2) := by decide +kernel
theorem dL_law_190 : decode cL_law 190 = .ok (.iload 10, 2) := by decide +kernel
theorem dL_law_192 : decode cL_law 192 = .ok (.iconst 3, 1) := by decide +kernel
theorem dL_law_193 : decode cL_law 193 = .ok (.ishr, 1) := by decide +kernel
theorem dL_law_194 : decode cL_law 194 = .ok (.sipush 1000, 3) := by decide +kernel
theorem dL_law_197 : decode cL_law 197 = .ok (.invokestatic 46, 3) := by decide +kernel
theorem dL_law_200 : decode cL_law 200 = .ok (.invokestatic 134, 3) := by decide +kernel
theorem dL_law_203 : decode cL_law 203 = .ok (.ifCond .eq 7, 3) := by decide +kernel
theorem dL_law_206 : decode cL_law 206 = .ok (.iconst 1, 1) := by decide +kernel
theorem dL_law_207 : decode cL_law 207 = .ok (.goto 4, 3) := by decide +kernel
theorem dL_law_210 : decode cL_law 210 = .ok (.iconst 0, 1) := by decide +kernel
theorem dL_law_211 : decode cL_law 211 = .ok (.istore 7, 2) := by decide +kernel
theorem dL_law_213 : decode cL_law 213 = .ok (.iinc 9 1, 3) := by decide +kernel
theorem dL_law_216 : decode cL_law 216 = .ok (.goto (-118), 3) := by decide +kernel
theorem dL_law_219 : decode cL_law 219 = .ok (.iload 7, 2) := by decide +kernel
theorem dL_law_221 : decode cL_law 221 = .ok (.ifCond .eq 51, 3) := by decide +kernel
theorem dL_law_224 : decode cL_law 224 = .ok (.aload_n 1, 1) := by decide +kernel
theorem dL_law_225 : decode cL_law 225 = .ok (.bipush 13, 2) := by decide +kernel
theorem dL_law_227 : decode cL_law 227 = .ok (.invokevirtual 130, 3) := by decide +kernel
theorem dL_law_230 : decode cL_law 230 = .ok (.ldc 115, 2) := by decide +kernel
theorem dL_law_232 : decode cL_law 232 = .ok (.if_icmp .ne 40, 3) := by decide +kernel
theorem dL_law_235 : decode cL_law 235 = .ok (.aload_n 1, 1) := by decide +kernel
theorem dL_law_236 : decode cL_law 236 = .ok (.iconst (-1), 1) := by decide +kernel
theorem dL_law_237 : decode cL_law 237 = .ok (.invokevirtual 130, 3) := by decide +kernel
theorem dL_law_240 : decode cL_law 240 = .ok (.ldc 115, 2) := by decide +kernel
theorem dL_law_242 : decode cL_law 242 = .ok (.if_icmp .ne 30, 3) := by decide +kernel
theorem dL_law_245 : decode cL_law 245 = .ok (.aload_n 1, 1) := by decide +kernel
theorem dL_law_246 : decode cL_law 246 = .ok (.bipush 8, 2) := by decide +kernel
theorem dL_law_248 : decode cL_law 248 = .ok (.iconst 0, 1) := by decide +kernel
theorem dL_law_249 : decode cL_law 249 = .ok (.invokevirtual 116, 3) := by decide +kernel
theorem dL_law_252 : decode cL_law 252 = .ok (.ldc 115, 2) := by decide +kernel
theorem dL_law_254 : decode cL_law 254 = .ok (.if_icmp .ne 18, 3) := by decide +kernel
theorem dL_law_257 : decode cL_law 257 = .ok (.aload_n 1, 1) := by decide +kernel
theorem dL_law_258 : decode cL_law 258 = .ok (.iconst 4, 1) := by decide +kernel
theorem dL_law_259 : decode cL_law 259 = .ok (.iconst 0, 1) := by decide +kernel
theorem dL_law_260 : decode cL_law 260 = .ok (.invokevirtual 119, 3) := by decide +kernel
theorem dL_law_263 : decode cL_law 263 = .ok (.ldc 115, 2) := by decide +kernel
theorem dL_law_265 : decode cL_law 265 = .ok (.if_icmp .ne 7, 3) := by decide +kernel
theorem dL_law_268 : decode cL_law 268 = .ok (.iconst 1, 1) := by decide +kernel
theorem dL_law_269 : decode cL_law 269 = .ok (.goto 4, 3) := by decide +kernel
theorem dL_law_272 : decode cL_law 272 = .ok (.iconst 0, 1) := by decide +kernel
theorem dL_law_273 : decode cL_law 273 = .ok (.ireturn, 1) := by decide +kernel
