theorem d_W_law_819 : decode code 819 = .ok (.iconst 1, 1) := by decide +kernel
theorem d_W_law_820 : decode code 820 = .ok (.iadd, 1) := by decide +kernel
theorem d_W_law_821 : decode code 821 = .ok (.iaload, 1) := by decide +kernel
theorem d_W_law_822 : decode code 822 = .ok (.aload_n 0, 1) := by decide +kernel
theorem d_W_law_823 : decode code 823 = .ok (.iload 4, 2) := by decide +kernel
theorem d_W_law_825 : decode code 825 = .ok (.iconst 2, 1) := by decide +kernel
theorem d_W_law_826 : decode code 826 = .ok (.iadd, 1) := by decide +kernel
theorem d_W_law_827 : decode code 827 = .ok (.iaload, 1) := by decide +kernel
theorem d_W_law_828 : decode code 828 = .ok (.aload_n 0, 1) := by decide +kernel
theorem d_W_law_829 : decode code 829 = .ok (.iload 4, 2) := by decide +kernel
theorem d_W_law_831 : decode code 831 = .ok (.iconst 3, 1) := by decide +kernel
theorem d_W_law_832 : decode code 832 = .ok (.iadd, 1) := by decide +kernel
theorem d_W_law_833 : decode code 833 = .ok (.iaload, 1) := by decide +kernel
theorem d_W_law_834 : decode code 834 = .ok (.invokevirtual 119, 3) := by decide +kernel
theorem d_W_law_837 : decode code 837 = .ok (.istore 6, 2) := by decide +kernel
theorem d_W_law_839 : decode code 839 = .ok (.aload_n 2, 1) := by decide +kernel
theorem d_W_law_840 : decode code 840 = .ok (.invokevirtual 91, 3) := by decide +kernel
theorem d_W_law_843 : decode code 843 = .ok (.iload 5, 2) := by decide +kernel
theorem d_W_law_845 : decode code 845 = .ok (.if_icmp .eq 5, 3) := by decide +kernel
theorem d_W_law_848 : decode code 848 = .ok (.iconst 0, 1) := by decide +kernel
theorem d_W_law_849 : decode code 849 = .ok (.ireturn, 1) := by decide +kernel
theorem d_W_law_850 : decode code 850 = .ok (.iload 5, 2) := by decide +kernel
theorem d_W_law_852 : decode code 852 = .ok (.ifCond .ne 15, 3) := by decide +kernel
theorem d_W_law_855 : decode code 855 = .ok (.aload_n 3, 1) := by decide +kernel
theorem d_W_law_856 : decode code 856 = .ok (.iconst 0, 1) := by decide +kernel
theorem d_W_law_857 : decode code 857 = .ok (.laload, 1) := by decide +kernel
theorem d_W_law_858 : decode code 858 = .ok (.iload 6, 2) := by decide +kernel
theorem d_W_law_860 : decode code 860 = .ok (.i2l, 1) := by decide +kernel
theorem d_W_law_861 : decode code 861 = .ok (.lcmp, 1) := by decide +kernel
theorem d_W_law_862 : decode code 862 = .ok (.ifCond .eq 5, 3) := by decide +kernel
theorem d_W_law_865 : decode code 865 = .ok (.iconst 0, 1) := by decide +kernel
theorem d_W_law_866 : decode code 866 = .ok (.ireturn, 1) := by decide +kernel
theorem d_W_law_867 : decode code 867 = .ok (.goto 725, 3) := by decide +kernel
theorem d_W_law_870 : decode code 870 = .ok (.aload_n 1, 1) := by decide +kernel
theorem d_W_law_871 : decode code 871 = .ok (.aload_n 0, 1) := by decide +kernel
theorem d_W_law_872 : decode code 872 = .ok (.iload 4, 2) := by decide +kernel
theorem d_W_law_874 : decode code 874 = .ok (.iconst 1, 1) := by decide +kernel
theorem d_W_law_875 : decode code 875 = .ok (.iadd, 1) := by decide +kernel
theorem d_W_law_876 : decode code 876 = .ok (.iaload, 1) := by decide +kernel
theorem d_W_law_877 : decode code 877 = .ok (.aload_n 0, 1) := by decide +kernel
theorem d_W_law_878 : decode code 878 = .ok (.iload 4, 2) := by decide +kernel
theorem d_W_law_880 : decode code 880 = .ok (.iconst 2, 1) := by decide +kernel
theorem d_W_law_881 : decode code 881 = .ok (.iadd, 1) := by decide +kernel
theorem d_W_law_882 : decode code 882 = .ok (.iaload, 1) := by decide +kernel
theorem d_W_law_883 : decode code 883 = .ok (.aload_n 0, 1) := by decide +kernel
theorem d_W_law_884 : decode code 884 = .ok (.iload 4, 2) := by decide +kernel
theorem d_W_law_886 : decode code 886 = .ok (.iconst 3, 1) := by decide +kernel
theorem d_W_law_887 : decode code 887 = .ok (.iadd, 1) := by decide +kernel
theorem d_W_law_888 : decode code 888 = .ok (.iaload, 1) := by decide +kernel
theorem d_W_law_889 : decode code 889 = .ok (.aload_n 3, 1) := by decide +kernel
theorem d_W_law_890 : decode code 890 = .ok (.invokestatic 120, 3) := by decide +kernel
theorem d_W_law_893 : decode code 893 = .ok (.istore 5, 2) := by decide +kernel
theorem d_W_law_895 : decode code 895 = .ok (.aload_n 2, 1) := by decide +kernel
theorem d_W_law_896 : decode code 896 = .ok (.aload_n 0, 1) := by decide +kernel
theorem d_W_law_897 : decode code 897 = .ok (.iload 4, 2) := by decide +kernel
theorem d_W_law_899 : decode code 899 = .ok (.iconst 1, 1) := by decide +kernel
theorem d_W_law_900 : decode code 900 = .ok (.iadd, 1) := by decide +kernel
theorem d_W_law_901 : decode code 901 = .ok (.iaload, 1) := by decide +kernel
theorem d_W_law_902 : decode code 902 = .ok (.aload_n 0, 1) := by decide +kernel
theorem d_W_law_903 : decode code 903 = .ok (.iload 4, 2) := by decide +kernel
theorem d_W_law_905 : decode code 905 = .ok (.iconst 2, 1) := by decide +kernel
theorem d_W_law_906 : decode code 906 = .ok (.iadd, 1) := by decide +kernel
theorem d_W_law_907 : decode code 907 = .ok (.iaload, 1) := by decide +kernel
theorem d_W_law_908 : decode code 908 = .ok (.aload_n 0, 1) := by decide +kernel
theorem d_W_law_909 : decode code 909 = .ok (.iload 4, 2) := by decide +kernel
theorem d_W_law_911 : decode code 911 = .ok (.iconst 3, 1) := by decide +kernel
theorem d_W_law_912 : decode code 912 = .ok (.iadd, 1) := by decide +kernel
theorem d_W_law_913 : decode code 913 = .ok (.iaload, 1) := by decide +kernel
theorem d_W_law_914 : decode code 914 = .ok (.invokevirtual 122, 3) := by decide +kernel
theorem d_W_law_917 : decode code 917 = .ok (.istore 6, 2) := by decide +kernel
theorem d_W_law_919 : decode code 919 = .ok (.aload_n 2, 1) := by decide +kernel
theorem d_W_law_920 : decode code 920 = .ok (.invokevirtual 91, 3) := by decide +kernel
theorem d_W_law_923 : decode code 923 = .ok (.iload 5, 2) := by decide +kernel
theorem d_W_law_925 : decode code 925 = .ok (.if_icmp .eq 5, 3) := by decide +kernel
theorem d_W_law_928 : decode code 928 = .ok (.iconst 0, 1) := by decide +kernel
theorem d_W_law_929 : decode code 929 = .ok (.ireturn, 1) := by decide +kernel
theorem d_W_law_930 : decode code 930 = .ok (.iload 5, 2) := by decide +kernel
theorem d_W_law_932 : decode code 932 = .ok (.ifCond .ne 15, 3) := by decide +kernel
theorem d_W_law_935 : decode code 935 = .ok (.aload_n 3, 1) := by decide +kernel
theorem d_W_law_936 : decode code 936 = .ok (.iconst 0, 1) := by decide +kernel
theorem d_W_law_937 : decode code 937 = .ok (.laload, 1) := by decide +kernel
theorem d_W_law_938 : decode code 938 = .ok (.iload 6, 2) := by decide +kernel
theorem d_W_law_940 : decode code 940 = .ok (.i2l, 1) := by decide +kernel
theorem d_W_law_941 : decode code 941 = .ok (.lcmp, 1) := by decide +kernel
theorem d_W_law_942 : decode code 942 = .ok (.ifCond .eq 5, 3) := by decide +kernel
theorem d_W_law_945 : decode code 945 = .ok (.iconst 0, 1) := by decide +kernel
theorem d_W_law_946 : decode code 946 = .ok (.ireturn, 1) := by decide +kernel
theorem d_W_law_947 : decode code 947 = .ok (.goto 645, 3) := by decide +kernel
theorem d_W_law_950 : decode code 950 = .ok (.aload_n 1, 1) := by decide +kernel
theorem d_W_law_951 : decode code 951 = .ok (.aload_n 3, 1) := by decide +kernel
theorem d_W_law_952 : decode code 952 = .ok (.invokestatic 123, 3) := by decide +kernel
theorem d_W_law_955 : decode code 955 = .ok (.istore 5, 2) := by decide +kernel
theorem d_W_law_957 : decode code 957 = .ok (.aload_n 2, 1) := by decide +kernel
theorem d_W_law_958 : decode code 958 = .ok (.invokevirtual 126, 3) := by decide +kernel
theorem d_W_law_961 : decode code 961 = .ok (.istore 6, 2) := by decide +kernel
theorem d_W_law_963 : decode code 963 = .ok (.aload_n 2, 1) := by decide +kernel
theorem d_W_law_964 : decode code 964 = .ok (.invokevirtual 91, 3) := by decide +kernel
theorem d_W_law_967 : decode code 967 = .ok (.iload 5, 2) := by decide +kernel
theorem d_W_law_969 : decode code 969 = .ok (.if_icmp .eq 5, 3) := by decide +kernel
theorem d_W_law_972 : decode code 972 = .ok (.iconst 0, 1) := by decide +kernel
theorem d_W_law_973 : decode code 973 = .ok (.ireturn, 1) := by decide +kernel
theorem d_W_law_974 : decode code 974 = .ok (.iload 5, 2) := by decide +kernel
theorem d_W_law_976 : decode code 976 = .ok (.ifCond .ne 15, 3) := by decide +kernel
theorem d_W_law_979 : decode code 979 = .ok (.aload_n 3, 1) := by decide +kernel
theorem d_W_law_980 : decode code 980 = .ok (.iconst 0, 1) := by decide +kernel
theorem d_W_law_981 : decode code 981 = .ok (.laload, 1) := by decide +kernel
theorem d_W_law_982 : decode code 982 = .ok (.iload 6, 2) := by decide +kernel
theorem d_W_law_984 : decode code 984 = .ok (.i2l, 1) := by decide +kernel
theorem d_W_law_985 : decode code 985 = .ok (.lcmp, 1) := by decide +kernel
theorem d_W_law_986 : decode code 986 = .ok (.ifCond .eq 5, 3) := by decide +kernel
theorem d_W_law_989 : decode code 989 = .ok (.iconst 0, 1) := by decide +kernel
theorem d_W_law_990 : decode code 990 = .ok (.ireturn, 1) := by decide +kernel
theorem d_W_law_991 : decode code 991 = .ok (.goto 601, 3) := by decide +kernel
theorem d_W_law_994 : decode code 994 = .ok (.aload_n 1, 1) := by decide +kernel
theorem d_W_law_995 : decode code 995 = .ok (.aload_n 0, 1) := by decide +kernel
theorem d_W_law_996 : decode code 996 = .ok (.iload 4, 2) := by decide +kernel
theorem d_W_law_998 : decode code 998 = .ok (.iconst 1, 1) := by decide +kernel
theorem d_W_law_999 : decode code 999 = .ok (.iadd, 1) := by decide +kernel
theorem d_W_law_1000 : decode code 1000 = .ok (.iaload, 1) := by decide +kernel
theorem d_W_law_1001 : decode code 1001 = .ok (.aload_n 0, 1) := by decide +kernel
theorem d_W_law_1002 : decode code 1002 = .ok (.iload 4, 2) := by decide +kernel
theorem d_W_law_1004 : decode code 1004 = .ok (.iconst 2, 1) := by decide +kernel
theorem d_W_law_1005 : decode code 1005 = .ok (.iadd, 1) := by decide +kernel
theorem d_W_law_1006 : decode code 1006 = .ok (.iaload, 1) := by decide +kernel
theorem d_W_law_1007 : decode code 1007 = .ok (.aload_n 3, 1) := by decide +kernel
theorem d_W_law_1008 : decode code 1008 = .ok (.invokestatic 127, 3) := by decide +kernel
theorem d_W_law_1011 : decode code 1011 = .ok (.istore 5, 2) := by decide +kernel
theorem d_W_law_1013 : decode code 1013 = .ok (.aload_n 2, 1) := by decide +kernel
theorem d_W_law_1014 : decode code 1014 = .ok (.aload_n 0, 1) := by decide +kernel
theorem d_W_law_1015 : decode code 1015 = .ok (.iload 4, 2) := by decide +kernel
theorem d_W_law_1017 : decode code 1017 = .ok (.iconst 1, 1) := by decide +kernel
theorem d_W_law_1018 : decode code 1018 = .ok (.iadd, 1) := by decide +kernel
theorem d_W_law_1019 : decode code 1019 = .ok (.iaload, 1) := by decide +kernel
theorem d_W_law_1020 : decode code 1020 = .ok (.aload_n 0, 1) := by decide +kernel
theorem d_W_law_1021 : decode code 1021 = .ok (.iload 4, 2) := by decide +kernel
theorem d_W_law_1023 : decode code 1023 = .ok (.iconst 2, 1) := by decide +kernel
theorem d_W_law_1024 : decode code 1024 = .ok (.iadd, 1) := by decide +kernel
theorem d_W_law_1025 : decode code 1025 = .ok (.iaload, 1) := by decide +kernel
theorem d_W_law_1026 : decode code 1026 = .ok (.invokevirtual 130, 3) := by decide +kernel
theorem d_W_law_1029 : decode code 1029 = .ok (.istore 6, 2) := by decide +kernel
theorem d_W_law_1031 : decode code 1031 = .ok (.aload_n 2, 1) := by decide +kernel
theorem d_W_law_1032 : decode code 1032 = .ok (.invokevirtual 91, 3) := by decide +kernel
theorem d_W_law_1035 : decode code 1035 = .ok (.iload 5, 2) := by decide +kernel
theorem d_W_law_1037 : decode code 1037 = .ok (.if_icmp .eq 5, 3) := by decide +kernel
theorem d_W_law_1040 : decode code 1040 = .ok (.iconst 0, 1) := by decide +kernel
theorem d_W_law_1041 : decode code 1041 = .ok (.ireturn, 1) := by decide +kernel
theorem d_W_law_1042 : decode code 1042 = .ok (.iload 5, 2) := by decide +kernel
theorem d_W_law_1044 : decode code 1044 = .ok (.ifCond .ne 15, 3) := by decide +kernel
theorem d_W_law_1047 : decode code 1047 = .ok (.aload_n 3, 1) := by decide +kernel
theorem d_W_law_1048 : decode code 1048 = .ok (.iconst 0, 1) := by decide +kernel
theorem d_W_law_1049 : decode code 1049 = .ok (.laload, 1) := by decide +kernel
theorem d_W_law_1050 : decode code 1050 = .ok (.iload 6, 2) := by decide +kernel
theorem d_W_law_1052 : decode code 1052 = .ok (.i2l, 1) := by decide +kernel
theorem d_W_law_1053 : decode code 1053 = .ok (.lcmp, 1) := by decide +kernel
theorem d_W_law_1054 : decode code 1054 = .ok (.ifCond .eq 5, 3) := by decide +kernel
theorem d_W_law_1057 : decode code 1057 = .ok (.iconst 0, 1) := by decide +kernel
theorem d_W_law_1058 : decode code 1058 = .ok (.ireturn, 1) := by decide +kernel
theorem d_W_law_1059 : decode code 1059 = .ok (.goto 533, 3) := by decide +kernel
theorem d_W_law_1062 : decode code 1062 = .ok (.aload_n 1, 1) := by decide +kernel
theorem d_W_law_1063 : decode code 1063 = .ok (.aload_n 0, 1) := by decide +kernel
theorem d_W_law_1064 : decode code 1064 = .ok (.iload 4, 2) := by decide +kernel
theorem d_W_law_1066 : decode code 1066 = .ok (.iconst 1, 1) := by decide +kernel
theorem d_W_law_1067 : decode code 1067 = .ok (.iadd, 1) := by decide +kernel
theorem d_W_law_1068 : decode code 1068 = .ok (.iaload, 1) := by decide +kernel
theorem d_W_law_1069 : decode code 1069 = .ok (.invokevirtual 131, 3) := by decide +kernel
theorem d_W_law_1072 : decode code 1072 = .ok (.aload_n 2, 1) := by decide +kernel
theorem d_W_law_1073 : decode code 1073 = .ok (.aload_n 0, 1) := by decide +kernel
theorem d_W_law_1074 : decode code 1074 = .ok (.iload 4, 2) := by decide +kernel
theorem d_W_law_1076 : decode code 1076 = .ok (.iconst 1, 1) := by decide +kernel
theorem d_W_law_1077 : decode code 1077 = .ok (.iadd, 1) := by decide +kernel
theorem d_W_law_1078 : decode code 1078 = .ok (.iaload, 1) := by decide +kernel
theorem d_W_law_1079 : decode code 1079 = .ok (.invokevirtual 134, 3) := by decide +kernel
theorem d_W_law_1082 : decode code 1082 = .ok (.if_icmp .eq 510, 3) := by decide +kernel
theorem d_W_law_1085 : decode code 1085 = .ok (.iconst 0, 1) := by decide +kernel
theorem d_W_law_1086 : decode code 1086 = .ok (.ireturn, 1) := by decide +kernel
theorem d_W_law_1087 : decode code 1087 = .ok (.aload_n 1, 1) := by decide +kernel
theorem d_W_law_1088 : decode code 1088 = .ok (.aload_n 0, 1) := by decide +kernel
theorem d_W_law_1089 : decode code 1089 = .ok (.iload 4, 2) := by decide +kernel
theorem d_W_law_1091 : decode code 1091 = .ok (.iconst 1, 1) := by decide +kernel
theorem d_W_law_1092 : decode code 1092 = .ok (.iadd, 1) := by decide +kernel
theorem d_W_law_1093 : decode code 1093 = .ok (.iaload, 1) := by decide +kernel
theorem d_W_law_1094 : decode code 1094 = .ok (.aload_n 3, 1) := by decide +kernel
theorem d_W_law_1095 : decode code 1095 = .ok (.invokestatic 135, 3) := by decide +kernel
theorem d_W_law_1098 : decode code 1098 = .ok (.istore 5, 2) := by decide +kernel
theorem d_W_law_1100 : decode code 1100 = .ok (.aload_n 2, 1) := by decide +kernel
theorem d_W_law_1101 : decode code 1101 = .ok (.aload_n 0, 1) := by decide +kernel
theorem d_W_law_1102 : decode code 1102 = .ok (.iload 4, 2) := by decide +kernel
theorem d_W_law_1104 : decode code 1104 = .ok (.iconst 1, 1) := by decide +kernel
theorem d_W_law_1105 : decode code 1105 = .ok (.iadd, 1) := by decide +kernel
theorem d_W_law_1106 : decode code 1106 = .ok (.iaload, 1) := by decide +kernel
theorem d_W_law_1107 : decode code 1107 = .ok (.invokevirtual 138, 3) := by decide +kernel
theorem d_W_law_1110 : decode code 1110 = .ok (.lstore 6, 2) := by decide +kernel
theorem d_W_law_1112 : decode code 1112 = .ok (.aload_n 2, 1) := by decide +kernel
theorem d_W_law_1113 : decode code 1113 = .ok (.invokevirtual 91, 3) := by decide +kernel
theorem d_W_law_1116 : decode code 1116 = .ok (.iload 5, 2) := by decide +kernel
theorem d_W_law_1118 : decode code 1118 = .ok (.if_icmp .eq 5, 3) := by decide +kernel
theorem d_W_law_1121 : decode code 1121 = .ok (.iconst 0, 1) := by decide +kernel
theorem d_W_law_1122 : decode code 1122 = .ok (.ireturn, 1) := by decide +kernel
theorem d_W_law_1123 : decode code 1123 = .ok (.iload 5, 2) := by decide +kernel
theorem d_W_law_1125 : decode code 1125 = .ok (.ifCond .ne 14, 3) := by decide +kernel
theorem d_W_law_1128 : decode code 1128 = .ok (.aload_n 3, 1) := by decide +kernel
theorem d_W_law_1129 : decode code 1129 = .ok (.iconst 0, 1) := by decide +kernel
theorem d_W_law_1130 : decode code 1130 = .ok (.laload, 1) := by decide +kernel
theorem d_W_law_1131 : decode code 1131 = .ok (.lload 6, 2) := by decide +kernel
theorem d_W_law_1133 : decode code 1133 = .ok (.lcmp, 1) := by decide +kernel
theorem d_W_law_1134 : decode code 1134 = .ok (.ifCond .eq 5, 3) := by decide +kernel
theorem d_W_law_1137 : decode code 1137 = .ok (.iconst 0, 1) := by decide +kernel
theorem d_W_law_1138 : decode code 1138 = .ok (.ireturn, 1) := by decide +kernel
theorem d_W_law_1139 : decode code 1139 = .ok (.goto 453, 3) := by decide +kernel
theorem d_W_law_1142 : decode code 1142 = .ok (.aload_n 1, 1) := by decide +kernel
theorem d_W_law_1143 : decode code 1143 = .ok (.aload_n 0, 1) := by decide +kernel
theorem d_W_law_1144 : decode code 1144 = .ok (.iload 4, 2) := by decide +kernel
theorem d_W_law_1146 : decode code 1146 = .ok (.iconst 1, 1) := by decide +kernel
theorem d_W_law_1147 : decode code 1147 = .ok (.iadd, 1) := by decide +kernel
theorem d_W_law_1148 : decode code 1148 = .ok (.iaload, 1) := by decide +kernel
theorem d_W_law_1149 : decode code 1149 = .ok (.aload_n 0, 1) := by decide +kernel
theorem d_W_law_1150 : decode code 1150 = .ok (.iload 4, 2) := by decide +kernel
theorem d_W_law_1152 : decode code 1152 = .ok (.iconst 2, 1) := by decide +kernel
theorem d_W_law_1153 : decode code 1153 = .ok (.iadd, 1) := by decide +kernel
theorem d_W_law_1154 : decode code 1154 = .ok (.iaload, 1) := by decide +kernel
theorem d_W_law_1155 : decode code 1155 = .ok (.aload_n 3, 1) := by decide +kernel
theorem d_W_law_1156 : decode code 1156 = .ok (.invokestatic 139, 3) := by decide +kernel
theorem d_W_law_1159 : decode code 1159 = .ok (.istore 5, 2) := by decide +kernel
theorem d_W_law_1161 : decode code 1161 = .ok (.aload_n 2, 1) := by decide +kernel
theorem d_W_law_1162 : decode code 1162 = .ok (.aload_n 0, 1) := by decide +kernel
theorem d_W_law_1163 : decode code 1163 = .ok (.iload 4, 2) := by decide +kernel
theorem d_W_law_1165 : decode code 1165 = .ok (.iconst 1, 1) := by decide +kernel
theorem d_W_law_1166 : decode code 1166 = .ok (.iadd, 1) := by decide +kernel
theorem d_W_law_1167 : decode code 1167 = .ok (.iaload, 1) := by decide +kernel
theorem d_W_law_1168 : decode code 1168 = .ok (.aload_n 0, 1) := by decide +kernel
theorem d_W_law_1169 : decode code 1169 = .ok (.iload 4, 2) := by decide +kernel
theorem d_W_law_1171 : decode code 1171 = .ok (.iconst 2, 1) := by decide +kernel
theorem d_W_law_1172 : decode code 1172 = .ok (.iadd, 1) := by decide +kernel
theorem d_W_law_1173 : decode code 1173 = .ok (.iaload, 1) := by decide +kernel
theorem d_W_law_1174 : decode code 1174 = .ok (.invokevirtual 141, 3) := by decide +kernel
theorem d_W_law_1177 : decode code 1177 = .ok (.lstore 6, 2) := by decide +kernel
theorem d_W_law_1179 : decode code 1179 = .ok (.aload_n 2, 1) := by decide +kernel
theorem d_W_law_1180 : decode code 1180 = .ok (.invokevirtual 91, 3) := by decide +kernel
theorem d_W_law_1183 : decode code 1183 = .ok (.iload 5, 2) := by decide +kernel
theorem d_W_law_1185 : decode code 1185 = .ok (.if_icmp .eq 5, 3) := by decide +kernel
theorem d_W_law_1188 : decode code 1188 = .ok (.iconst 0, 1) := by decide +kernel
theorem d_W_law_1189 : decode code 1189 = .ok (.ireturn, 1) := by decide +kernel
theorem d_W_law_1190 : decode code 1190 = .ok (.iload 5, 2) := by decide +kernel
theorem d_W_law_1192 : decode code 1192 = .ok (.ifCond .ne 14, 3) := by decide +kernel
theorem d_W_law_1195 : decode code 1195 = .ok (.aload_n 3, 1) := by decide +kernel
theorem d_W_law_1196 : decode code 1196 = .ok (.iconst 0, 1) := by decide +kernel
theorem d_W_law_1197 : decode code 1197 = .ok (.laload, 1) := by decide +kernel
theorem d_W_law_1198 : decode code 1198 = .ok (.lload 6, 2) := by decide +kernel
theorem d_W_law_1200 : decode code 1200 = .ok (.lcmp, 1) := by decide +kernel
theorem d_W_law_1201 : decode code 1201 = .ok (.ifCond .eq 5, 3) := by decide +kernel
theorem d_W_law_1204 : decode code 1204 = .ok (.iconst 0, 1) := by decide +kernel
theorem d_W_law_1205 : decode code 1205 = .ok (.ireturn, 1) := by decide +kernel
theorem d_W_law_1206 : decode code 1206 = .ok (.goto 386, 3) := by decide +kernel
