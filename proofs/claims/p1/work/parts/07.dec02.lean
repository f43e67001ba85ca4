theorem d_Law_law_842 : decode b_Law_law 842 = .ok (.i2l, 1) := by decide +kernel
theorem d_Law_law_843 : decode b_Law_law 843 = .ok (.lcmp, 1) := by decide +kernel
theorem d_Law_law_844 : decode b_Law_law 844 = .ok (.ifCond .eq 5, 3) := by decide +kernel
theorem d_Law_law_849 : decode b_Law_law 849 = .ok (.goto 616, 3) := by decide +kernel
theorem d_Law_law_852 : decode b_Law_law 852 = .ok (.aload_n 1, 1) := by decide +kernel
theorem d_Law_law_853 : decode b_Law_law 853 = .ok (.aload_n 0, 1) := by decide +kernel
theorem d_Law_law_854 : decode b_Law_law 854 = .ok (.iload 4, 2) := by decide +kernel
theorem d_Law_law_856 : decode b_Law_law 856 = .ok (.iconst 1, 1) := by decide +kernel
theorem d_Law_law_857 : decode b_Law_law 857 = .ok (.iadd, 1) := by decide +kernel
theorem d_Law_law_858 : decode b_Law_law 858 = .ok (.iaload, 1) := by decide +kernel
theorem d_Law_law_859 : decode b_Law_law 859 = .ok (.aload_n 0, 1) := by decide +kernel
theorem d_Law_law_860 : decode b_Law_law 860 = .ok (.iload 4, 2) := by decide +kernel
theorem d_Law_law_862 : decode b_Law_law 862 = .ok (.iconst 2, 1) := by decide +kernel
theorem d_Law_law_863 : decode b_Law_law 863 = .ok (.iadd, 1) := by decide +kernel
theorem d_Law_law_864 : decode b_Law_law 864 = .ok (.iaload, 1) := by decide +kernel
theorem d_Law_law_865 : decode b_Law_law 865 = .ok (.invokestatic 137, 3) := by decide +kernel
theorem d_Law_law_868 : decode b_Law_law 868 = .ok (.istore 5, 2) := by decide +kernel
theorem d_Law_law_870 : decode b_Law_law 870 = .ok (.aload_n 2, 1) := by decide +kernel
theorem d_Law_law_871 : decode b_Law_law 871 = .ok (.aload_n 0, 1) := by decide +kernel
theorem d_Law_law_872 : decode b_Law_law 872 = .ok (.iload 4, 2) := by decide +kernel
theorem d_Law_law_874 : decode b_Law_law 874 = .ok (.iconst 1, 1) := by decide +kernel
theorem d_Law_law_875 : decode b_Law_law 875 = .ok (.iadd, 1) := by decide +kernel
theorem d_Law_law_876 : decode b_Law_law 876 = .ok (.iaload, 1) := by decide +kernel
theorem d_Law_law_877 : decode b_Law_law 877 = .ok (.aload_n 0, 1) := by decide +kernel
theorem d_Law_law_878 : decode b_Law_law 878 = .ok (.iload 4, 2) := by decide +kernel
theorem d_Law_law_880 : decode b_Law_law 880 = .ok (.iconst 2, 1) := by decide +kernel
theorem d_Law_law_881 : decode b_Law_law 881 = .ok (.iadd, 1) := by decide +kernel
theorem d_Law_law_882 : decode b_Law_law 882 = .ok (.iaload, 1) := by decide +kernel
theorem d_Law_law_883 : decode b_Law_law 883 = .ok (.invokevirtual 140, 3) := by decide +kernel
theorem d_Law_law_886 : decode b_Law_law 886 = .ok (.aload_n 2, 1) := by decide +kernel
theorem d_Law_law_887 : decode b_Law_law 887 = .ok (.invokevirtual 96, 3) := by decide +kernel
theorem d_Law_law_890 : decode b_Law_law 890 = .ok (.iload 5, 2) := by decide +kernel
theorem d_Law_law_892 : decode b_Law_law 892 = .ok (.if_icmp .eq 5, 3) := by decide +kernel
theorem d_Law_law_897 : decode b_Law_law 897 = .ok (.goto 568, 3) := by decide +kernel
theorem d_Law_law_900 : decode b_Law_law 900 = .ok (.aload_n 1, 1) := by decide +kernel
theorem d_Law_law_901 : decode b_Law_law 901 = .ok (.aload_n 0, 1) := by decide +kernel
theorem d_Law_law_902 : decode b_Law_law 902 = .ok (.iload 4, 2) := by decide +kernel
theorem d_Law_law_904 : decode b_Law_law 904 = .ok (.iconst 1, 1) := by decide +kernel
theorem d_Law_law_905 : decode b_Law_law 905 = .ok (.iadd, 1) := by decide +kernel
theorem d_Law_law_906 : decode b_Law_law 906 = .ok (.iaload, 1) := by decide +kernel
theorem d_Law_law_907 : decode b_Law_law 907 = .ok (.aload_n 3, 1) := by decide +kernel
theorem d_Law_law_908 : decode b_Law_law 908 = .ok (.invokestatic 141, 3) := by decide +kernel
theorem d_Law_law_911 : decode b_Law_law 911 = .ok (.istore 5, 2) := by decide +kernel
theorem d_Law_law_913 : decode b_Law_law 913 = .ok (.aload_n 2, 1) := by decide +kernel
theorem d_Law_law_914 : decode b_Law_law 914 = .ok (.aload_n 0, 1) := by decide +kernel
theorem d_Law_law_915 : decode b_Law_law 915 = .ok (.iload 4, 2) := by decide +kernel
theorem d_Law_law_917 : decode b_Law_law 917 = .ok (.iconst 1, 1) := by decide +kernel
theorem d_Law_law_918 : decode b_Law_law 918 = .ok (.iadd, 1) := by decide +kernel
theorem d_Law_law_919 : decode b_Law_law 919 = .ok (.iaload, 1) := by decide +kernel
theorem d_Law_law_920 : decode b_Law_law 920 = .ok (.invokevirtual 143, 3) := by decide +kernel
theorem d_Law_law_923 : decode b_Law_law 923 = .ok (.istore 6, 2) := by decide +kernel
theorem d_Law_law_925 : decode b_Law_law 925 = .ok (.aload_n 2, 1) := by decide +kernel
theorem d_Law_law_926 : decode b_Law_law 926 = .ok (.invokevirtual 96, 3) := by decide +kernel
theorem d_Law_law_929 : decode b_Law_law 929 = .ok (.iload 5, 2) := by decide +kernel
theorem d_Law_law_931 : decode b_Law_law 931 = .ok (.if_icmp .eq 5, 3) := by decide +kernel
theorem d_Law_law_936 : decode b_Law_law 936 = .ok (.iload 5, 2) := by decide +kernel
theorem d_Law_law_938 : decode b_Law_law 938 = .ok (.ifCond .ne 15, 3) := by decide +kernel
theorem d_Law_law_953 : decode b_Law_law 953 = .ok (.goto 512, 3) := by decide +kernel
theorem d_Law_law_956 : decode b_Law_law 956 = .ok (.aload_n 1, 1) := by decide +kernel
theorem d_Law_law_957 : decode b_Law_law 957 = .ok (.invokevirtual 144, 3) := by decide +kernel
theorem d_Law_law_960 : decode b_Law_law 960 = .ok (.aload_n 2, 1) := by decide +kernel
theorem d_Law_law_961 : decode b_Law_law 961 = .ok (.invokevirtual 147, 3) := by decide +kernel
theorem d_Law_law_964 : decode b_Law_law 964 = .ok (.if_icmp .eq 501, 3) := by decide +kernel
theorem d_Law_law_969 : decode b_Law_law 969 = .ok (.aload_n 1, 1) := by decide +kernel
theorem d_Law_law_970 : decode b_Law_law 970 = .ok (.invokevirtual 148, 3) := by decide +kernel
theorem d_Law_law_973 : decode b_Law_law 973 = .ok (.aload_n 2, 1) := by decide +kernel
theorem d_Law_law_974 : decode b_Law_law 974 = .ok (.invokevirtual 151, 3) := by decide +kernel
theorem d_Law_law_977 : decode b_Law_law 977 = .ok (.if_icmp .eq 488, 3) := by decide +kernel
theorem d_Law_law_982 : decode b_Law_law 982 = .ok (.aload_n 1, 1) := by decide +kernel
theorem d_Law_law_983 : decode b_Law_law 983 = .ok (.invokevirtual 152, 3) := by decide +kernel
theorem d_Law_law_986 : decode b_Law_law 986 = .ok (.aload_n 2, 1) := by decide +kernel
theorem d_Law_law_987 : decode b_Law_law 987 = .ok (.invokevirtual 156, 3) := by decide +kernel
theorem d_Law_law_990 : decode b_Law_law 990 = .ok (.lcmp, 1) := by decide +kernel
theorem d_Law_law_991 : decode b_Law_law 991 = .ok (.ifCond .eq 474, 3) := by decide +kernel
theorem d_Law_law_996 : decode b_Law_law 996 = .ok (.aload_n 1, 1) := by decide +kernel
theorem d_Law_law_997 : decode b_Law_law 997 = .ok (.aload_n 0, 1) := by decide +kernel
theorem d_Law_law_998 : decode b_Law_law 998 = .ok (.iload 4, 2) := by decide +kernel
theorem d_Law_law_1000 : decode b_Law_law 1000 = .ok (.iconst 1, 1) := by decide +kernel
theorem d_Law_law_1001 : decode b_Law_law 1001 = .ok (.iadd, 1) := by decide +kernel
theorem d_Law_law_1002 : decode b_Law_law 1002 = .ok (.iaload, 1) := by decide +kernel
theorem d_Law_law_1003 : decode b_Law_law 1003 = .ok (.aload_n 3, 1) := by decide +kernel
theorem d_Law_law_1004 : decode b_Law_law 1004 = .ok (.invokestatic 157, 3) := by decide +kernel
theorem d_Law_law_1007 : decode b_Law_law 1007 = .ok (.istore 5, 2) := by decide +kernel
theorem d_Law_law_1009 : decode b_Law_law 1009 = .ok (.aload_n 2, 1) := by decide +kernel
theorem d_Law_law_1010 : decode b_Law_law 1010 = .ok (.aload_n 0, 1) := by decide +kernel
theorem d_Law_law_1011 : decode b_Law_law 1011 = .ok (.iload 4, 2) := by decide +kernel
theorem d_Law_law_1013 : decode b_Law_law 1013 = .ok (.iconst 1, 1) := by decide +kernel
theorem d_Law_law_1014 : decode b_Law_law 1014 = .ok (.iadd, 1) := by decide +kernel
theorem d_Law_law_1015 : decode b_Law_law 1015 = .ok (.iaload, 1) := by decide +kernel
theorem d_Law_law_1016 : decode b_Law_law 1016 = .ok (.invokevirtual 159, 3) := by decide +kernel
theorem d_Law_law_1019 : decode b_Law_law 1019 = .ok (.istore 6, 2) := by decide +kernel
theorem d_Law_law_1021 : decode b_Law_law 1021 = .ok (.aload_n 2, 1) := by decide +kernel
theorem d_Law_law_1022 : decode b_Law_law 1022 = .ok (.invokevirtual 96, 3) := by decide +kernel
theorem d_Law_law_1025 : decode b_Law_law 1025 = .ok (.iload 5, 2) := by decide +kernel
theorem d_Law_law_1027 : decode b_Law_law 1027 = .ok (.if_icmp .eq 5, 3) := by decide +kernel
theorem d_Law_law_1032 : decode b_Law_law 1032 = .ok (.iload 5, 2) := by decide +kernel
theorem d_Law_law_1034 : decode b_Law_law 1034 = .ok (.ifCond .ne 15, 3) := by decide +kernel
theorem d_Law_law_1037 : decode b_Law_law 1037 = .ok (.aload_n 3, 1) := by decide +kernel
theorem d_Law_law_1038 : decode b_Law_law 1038 = .ok (.iconst 0, 1) := by decide +kernel
theorem d_Law_law_1039 : decode b_Law_law 1039 = .ok (.laload, 1) := by decide +kernel
theorem d_Law_law_1040 : decode b_Law_law 1040 = .ok (.iload 6, 2) := by decide +kernel
theorem d_Law_law_1042 : decode b_Law_law 1042 = .ok (.i2l, 1) := by decide +kernel
theorem d_Law_law_1043 : decode b_Law_law 1043 = .ok (.lcmp, 1) := by decide +kernel
theorem d_Law_law_1044 : decode b_Law_law 1044 = .ok (.ifCond .eq 5, 3) := by decide +kernel
theorem d_Law_law_1049 : decode b_Law_law 1049 = .ok (.goto 416, 3) := by decide +kernel
theorem d_Law_law_1052 : decode b_Law_law 1052 = .ok (.aload_n 1, 1) := by decide +kernel
theorem d_Law_law_1053 : decode b_Law_law 1053 = .ok (.aload_n 0, 1) := by decide +kernel
theorem d_Law_law_1054 : decode b_Law_law 1054 = .ok (.iload 4, 2) := by decide +kernel
theorem d_Law_law_1056 : decode b_Law_law 1056 = .ok (.iconst 1, 1) := by decide +kernel
theorem d_Law_law_1057 : decode b_Law_law 1057 = .ok (.iadd, 1) := by decide +kernel
theorem d_Law_law_1058 : decode b_Law_law 1058 = .ok (.iaload, 1) := by decide +kernel
theorem d_Law_law_1059 : decode b_Law_law 1059 = .ok (.aload_n 3, 1) := by decide +kernel
theorem d_Law_law_1060 : decode b_Law_law 1060 = .ok (.invokestatic 160, 3) := by decide +kernel
theorem d_Law_law_1063 : decode b_Law_law 1063 = .ok (.istore 5, 2) := by decide +kernel
theorem d_Law_law_1065 : decode b_Law_law 1065 = .ok (.aload_n 2, 1) := by decide +kernel
theorem d_Law_law_1066 : decode b_Law_law 1066 = .ok (.aload_n 0, 1) := by decide +kernel
theorem d_Law_law_1067 : decode b_Law_law 1067 = .ok (.iload 4, 2) := by decide +kernel
theorem d_Law_law_1069 : decode b_Law_law 1069 = .ok (.iconst 1, 1) := by decide +kernel
theorem d_Law_law_1070 : decode b_Law_law 1070 = .ok (.iadd, 1) := by decide +kernel
theorem d_Law_law_1071 : decode b_Law_law 1071 = .ok (.iaload, 1) := by decide +kernel
theorem d_Law_law_1072 : decode b_Law_law 1072 = .ok (.invokevirtual 162, 3) := by decide +kernel
theorem d_Law_law_1075 : decode b_Law_law 1075 = .ok (.istore 6, 2) := by decide +kernel
theorem d_Law_law_1077 : decode b_Law_law 1077 = .ok (.aload_n 2, 1) := by decide +kernel
theorem d_Law_law_1078 : decode b_Law_law 1078 = .ok (.invokevirtual 96, 3) := by decide +kernel
theorem d_Law_law_1081 : decode b_Law_law 1081 = .ok (.iload 5, 2) := by decide +kernel
theorem d_Law_law_1083 : decode b_Law_law 1083 = .ok (.if_icmp .eq 5, 3) := by decide +kernel
theorem d_Law_law_1088 : decode b_Law_law 1088 = .ok (.iload 5, 2) := by decide +kernel
theorem d_Law_law_1090 : decode b_Law_law 1090 = .ok (.ifCond .ne 15, 3) := by decide +kernel
theorem d_Law_law_1105 : decode b_Law_law 1105 = .ok (.goto 360, 3) := by decide +kernel
theorem d_Law_law_1108 : decode b_Law_law 1108 = .ok (.aload_n 1, 1) := by decide +kernel
theorem d_Law_law_1109 : decode b_Law_law 1109 = .ok (.aload_n 0, 1) := by decide +kernel
theorem d_Law_law_1110 : decode b_Law_law 1110 = .ok (.iload 4, 2) := by decide +kernel
theorem d_Law_law_1112 : decode b_Law_law 1112 = .ok (.iconst 1, 1) := by decide +kernel
theorem d_Law_law_1113 : decode b_Law_law 1113 = .ok (.iadd, 1) := by decide +kernel
theorem d_Law_law_1114 : decode b_Law_law 1114 = .ok (.iaload, 1) := by decide +kernel
theorem d_Law_law_1115 : decode b_Law_law 1115 = .ok (.aload_n 0, 1) := by decide +kernel
theorem d_Law_law_1116 : decode b_Law_law 1116 = .ok (.iload 4, 2) := by decide +kernel
theorem d_Law_law_1118 : decode b_Law_law 1118 = .ok (.iconst 2, 1) := by decide +kernel
theorem d_Law_law_1119 : decode b_Law_law 1119 = .ok (.iadd, 1) := by decide +kernel
theorem d_Law_law_1120 : decode b_Law_law 1120 = .ok (.iaload, 1) := by decide +kernel
theorem d_Law_law_1121 : decode b_Law_law 1121 = .ok (.aload_n 3, 1) := by decide +kernel
theorem d_Law_law_1122 : decode b_Law_law 1122 = .ok (.invokestatic 163, 3) := by decide +kernel
theorem d_Law_law_1125 : decode b_Law_law 1125 = .ok (.istore 5, 2) := by decide +kernel
theorem d_Law_law_1127 : decode b_Law_law 1127 = .ok (.aload_n 2, 1) := by decide +kernel
theorem d_Law_law_1128 : decode b_Law_law 1128 = .ok (.aload_n 0, 1) := by decide +kernel
theorem d_Law_law_1129 : decode b_Law_law 1129 = .ok (.iload 4, 2) := by decide +kernel
theorem d_Law_law_1131 : decode b_Law_law 1131 = .ok (.iconst 1, 1) := by decide +kernel
theorem d_Law_law_1132 : decode b_Law_law 1132 = .ok (.iadd, 1) := by decide +kernel
theorem d_Law_law_1133 : decode b_Law_law 1133 = .ok (.iaload, 1) := by decide +kernel
theorem d_Law_law_1134 : decode b_Law_law 1134 = .ok (.aload_n 0, 1) := by decide +kernel
theorem d_Law_law_1135 : decode b_Law_law 1135 = .ok (.iload 4, 2) := by decide +kernel
theorem d_Law_law_1137 : decode b_Law_law 1137 = .ok (.iconst 2, 1) := by decide +kernel
theorem d_Law_law_1138 : decode b_Law_law 1138 = .ok (.iadd, 1) := by decide +kernel
theorem d_Law_law_1139 : decode b_Law_law 1139 = .ok (.iaload, 1) := by decide +kernel
theorem d_Law_law_1140 : decode b_Law_law 1140 = .ok (.invokevirtual 165, 3) := by decide +kernel
theorem d_Law_law_1143 : decode b_Law_law 1143 = .ok (.istore 6, 2) := by decide +kernel
theorem d_Law_law_1145 : decode b_Law_law 1145 = .ok (.aload_n 2, 1) := by decide +kernel
theorem d_Law_law_1146 : decode b_Law_law 1146 = .ok (.invokevirtual 96, 3) := by decide +kernel
theorem d_Law_law_1149 : decode b_Law_law 1149 = .ok (.iload 5, 2) := by decide +kernel
theorem d_Law_law_1151 : decode b_Law_law 1151 = .ok (.if_icmp .eq 5, 3) := by decide +kernel
theorem d_Law_law_1156 : decode b_Law_law 1156 = .ok (.iload 5, 2) := by decide +kernel
theorem d_Law_law_1158 : decode b_Law_law 1158 = .ok (.ifCond .ne 15, 3) := by decide +kernel
theorem d_Law_law_1173 : decode b_Law_law 1173 = .ok (.goto 292, 3) := by decide +kernel
theorem d_Law_law_1176 : decode b_Law_law 1176 = .ok (.aload_n 1, 1) := by decide +kernel
theorem d_Law_law_1177 : decode b_Law_law 1177 = .ok (.aload_n 0, 1) := by decide +kernel
theorem d_Law_law_1178 : decode b_Law_law 1178 = .ok (.iload 4, 2) := by decide +kernel
theorem d_Law_law_1180 : decode b_Law_law 1180 = .ok (.iconst 1, 1) := by decide +kernel
theorem d_Law_law_1181 : decode b_Law_law 1181 = .ok (.iadd, 1) := by decide +kernel
theorem d_Law_law_1182 : decode b_Law_law 1182 = .ok (.iaload, 1) := by decide +kernel
theorem d_Law_law_1183 : decode b_Law_law 1183 = .ok (.aload_n 0, 1) := by decide +kernel
theorem d_Law_law_1184 : decode b_Law_law 1184 = .ok (.iload 4, 2) := by decide +kernel
theorem d_Law_law_1186 : decode b_Law_law 1186 = .ok (.iconst 2, 1) := by decide +kernel
theorem d_Law_law_1187 : decode b_Law_law 1187 = .ok (.iadd, 1) := by decide +kernel
theorem d_Law_law_1188 : decode b_Law_law 1188 = .ok (.iaload, 1) := by decide +kernel
theorem d_Law_law_1189 : decode b_Law_law 1189 = .ok (.aload_n 0, 1) := by decide +kernel
theorem d_Law_law_1190 : decode b_Law_law 1190 = .ok (.iload 4, 2) := by decide +kernel
theorem d_Law_law_1192 : decode b_Law_law 1192 = .ok (.iconst 3, 1) := by decide +kernel
theorem d_Law_law_1193 : decode b_Law_law 1193 = .ok (.iadd, 1) := by decide +kernel
theorem d_Law_law_1194 : decode b_Law_law 1194 = .ok (.iaload, 1) := by decide +kernel
theorem d_Law_law_1195 : decode b_Law_law 1195 = .ok (.invokestatic 166, 3) := by decide +kernel
theorem d_Law_law_1198 : decode b_Law_law 1198 = .ok (.istore 5, 2) := by decide +kernel
theorem d_Law_law_1200 : decode b_Law_law 1200 = .ok (.aload_n 2, 1) := by decide +kernel
theorem d_Law_law_1201 : decode b_Law_law 1201 = .ok (.aload_n 0, 1) := by decide +kernel
theorem d_Law_law_1202 : decode b_Law_law 1202 = .ok (.iload 4, 2) := by decide +kernel
theorem d_Law_law_1204 : decode b_Law_law 1204 = .ok (.iconst 1, 1) := by decide +kernel
theorem d_Law_law_1205 : decode b_Law_law 1205 = .ok (.iadd, 1) := by decide +kernel
theorem d_Law_law_1206 : decode b_Law_law 1206 = .ok (.iaload, 1) := by decide +kernel
theorem d_Law_law_1207 : decode b_Law_law 1207 = .ok (.aload_n 0, 1) := by decide +kernel
theorem d_Law_law_1208 : decode b_Law_law 1208 = .ok (.iload 4, 2) := by decide +kernel
theorem d_Law_law_1210 : decode b_Law_law 1210 = .ok (.iconst 2, 1) := by decide +kernel
theorem d_Law_law_1211 : decode b_Law_law 1211 = .ok (.iadd, 1) := by decide +kernel
theorem d_Law_law_1212 : decode b_Law_law 1212 = .ok (.iaload, 1) := by decide +kernel
theorem d_Law_law_1213 : decode b_Law_law 1213 = .ok (.aload_n 0, 1) := by decide +kernel
theorem d_Law_law_1214 : decode b_Law_law 1214 = .ok (.iload 4, 2) := by decide +kernel
theorem d_Law_law_1216 : decode b_Law_law 1216 = .ok (.iconst 3, 1) := by decide +kernel
theorem d_Law_law_1217 : decode b_Law_law 1217 = .ok (.iadd, 1) := by decide +kernel
theorem d_Law_law_1218 : decode b_Law_law 1218 = .ok (.iaload, 1) := by decide +kernel
theorem d_Law_law_1219 : decode b_Law_law 1219 = .ok (.invokevirtual 169, 3) := by decide +kernel
theorem d_Law_law_1222 : decode b_Law_law 1222 = .ok (.aload_n 2, 1) := by decide +kernel
theorem d_Law_law_1223 : decode b_Law_law 1223 = .ok (.invokevirtual 96, 3) := by decide +kernel
theorem d_Law_law_1226 : decode b_Law_law 1226 = .ok (.iload 5, 2) := by decide +kernel
theorem d_Law_law_1228 : decode b_Law_law 1228 = .ok (.if_icmp .eq 5, 3) := by decide +kernel
theorem d_Law_law_1233 : decode b_Law_law 1233 = .ok (.goto 232, 3) := by decide +kernel
theorem d_Law_law_1236 : decode b_Law_law 1236 = .ok (.aload_n 1, 1) := by decide +kernel
theorem d_Law_law_1237 : decode b_Law_law 1237 = .ok (.aload_n 0, 1) := by decide +kernel
theorem d_Law_law_1238 : decode b_Law_law 1238 = .ok (.iload 4, 2) := by decide +kernel
theorem d_Law_law_1240 : decode b_Law_law 1240 = .ok (.iconst 1, 1) := by decide +kernel
theorem d_Law_law_1241 : decode b_Law_law 1241 = .ok (.iadd, 1) := by decide +kernel
theorem d_Law_law_1242 : decode b_Law_law 1242 = .ok (.iaload, 1) := by decide +kernel
theorem d_Law_law_1243 : decode b_Law_law 1243 = .ok (.aload_n 0, 1) := by decide +kernel
theorem d_Law_law_1244 : decode b_Law_law 1244 = .ok (.iload 4, 2) := by decide +kernel
theorem d_Law_law_1246 : decode b_Law_law 1246 = .ok (.iconst 2, 1) := by decide +kernel
theorem d_Law_law_1247 : decode b_Law_law 1247 = .ok (.iadd, 1) := by decide +kernel
theorem d_Law_law_1248 : decode b_Law_law 1248 = .ok (.iaload, 1) := by decide +kernel
theorem d_Law_law_1249 : decode b_Law_law 1249 = .ok (.aload_n 3, 1) := by decide +kernel
theorem d_Law_law_1250 : decode b_Law_law 1250 = .ok (.invokestatic 170, 3) := by decide +kernel
theorem d_Law_law_1253 : decode b_Law_law 1253 = .ok (.istore 5, 2) := by decide +kernel
theorem d_Law_law_1255 : decode b_Law_law 1255 = .ok (.aload_n 2, 1) := by decide +kernel
theorem d_Law_law_1256 : decode b_Law_law 1256 = .ok (.aload_n 0, 1) := by decide +kernel
theorem d_Law_law_1257 : decode b_Law_law 1257 = .ok (.iload 4, 2) := by decide +kernel
theorem d_Law_law_1259 : decode b_Law_law 1259 = .ok (.iconst 1, 1) := by decide +kernel
theorem d_Law_law_1260 : decode b_Law_law 1260 = .ok (.iadd, 1) := by decide +kernel
theorem d_Law_law_1261 : decode b_Law_law 1261 = .ok (.iaload, 1) := by decide +kernel
theorem d_Law_law_1262 : decode b_Law_law 1262 = .ok (.aload_n 0, 1) := by decide +kernel
theorem d_Law_law_1263 : decode b_Law_law 1263 = .ok (.iload 4, 2) := by decide +kernel
theorem d_Law_law_1265 : decode b_Law_law 1265 = .ok (.iconst 2, 1) := by decide +kernel
theorem d_Law_law_1266 : decode b_Law_law 1266 = .ok (.iadd, 1) := by decide +kernel
theorem d_Law_law_1267 : decode b_Law_law 1267 = .ok (.iaload, 1) := by decide +kernel
theorem d_Law_law_1268 : decode b_Law_law 1268 = .ok (.invokevirtual 172, 3) := by decide +kernel
theorem d_Law_law_1271 : decode b_Law_law 1271 = .ok (.lstore 6, 2) := by decide +kernel
theorem d_Law_law_1273 : decode b_Law_law 1273 = .ok (.aload_n 2, 1) := by decide +kernel
theorem d_Law_law_1274 : decode b_Law_law 1274 = .ok (.invokevirtual 96, 3) := by decide +kernel
theorem d_Law_law_1277 : decode b_Law_law 1277 = .ok (.iload 5, 2) := by decide +kernel
theorem d_Law_law_1279 : decode b_Law_law 1279 = .ok (.if_icmp .eq 5, 3) := by decide +kernel
theorem d_Law_law_1284 : decode b_Law_law 1284 = .ok (.iload 5, 2) := by decide +kernel
theorem d_Law_law_1286 : decode b_Law_law 1286 = .ok (.ifCond .ne 14, 3) := by decide +kernel
theorem d_Law_law_1300 : decode b_Law_law 1300 = .ok (.goto 165, 3) := by decide +kernel
theorem d_Law_law_1303 : decode b_Law_law 1303 = .ok (.aload_n 1, 1) := by decide +kernel
theorem d_Law_law_1304 : decode b_Law_law 1304 = .ok (.aload_n 0, 1) := by decide +kernel
theorem d_Law_law_1305 : decode b_Law_law 1305 = .ok (.iload 4, 2) := by decide +kernel
theorem d_Law_law_1307 : decode b_Law_law 1307 = .ok (.iconst 1, 1) := by decide +kernel
theorem d_Law_law_1308 : decode b_Law_law 1308 = .ok (.iadd, 1) := by decide +kernel
theorem d_Law_law_1309 : decode b_Law_law 1309 = .ok (.iaload, 1) := by decide +kernel
theorem d_Law_law_1310 : decode b_Law_law 1310 = .ok (.aload_n 0, 1) := by decide +kernel
theorem d_Law_law_1311 : decode b_Law_law 1311 = .ok (.iload 4, 2) := by decide +kernel
theorem d_Law_law_1313 : decode b_Law_law 1313 = .ok (.iconst 2, 1) := by decide +kernel
theorem d_Law_law_1314 : decode b_Law_law 1314 = .ok (.iadd, 1) := by decide +kernel
theorem d_Law_law_1315 : decode b_Law_law 1315 = .ok (.iaload, 1) := by decide +kernel
theorem d_Law_law_1316 : decode b_Law_law 1316 = .ok (.aload_n 3, 1) := by decide +kernel
theorem d_Law_law_1317 : decode b_Law_law 1317 = .ok (.invokestatic 173, 3) := by decide +kernel
theorem d_Law_law_1320 : decode b_Law_law 1320 = .ok (.istore 5, 2) := by decide +kernel
theorem d_Law_law_1322 : decode b_Law_law 1322 = .ok (.aload_n 2, 1) := by decide +kernel
theorem d_Law_law_1323 : decode b_Law_law 1323 = .ok (.aload_n 0, 1) := by decide +kernel
theorem d_Law_law_1324 : decode b_Law_law 1324 = .ok (.iload 4, 2) := by decide +kernel
theorem d_Law_law_1326 : decode b_Law_law 1326 = .ok (.iconst 1, 1) := by decide +kernel
theorem d_Law_law_1327 : decode b_Law_law 1327 = .ok (.iadd, 1) := by decide +kernel
theorem d_Law_law_1328 : decode b_Law_law 1328 = .ok (.iaload, 1) := by decide +kernel
theorem d_Law_law_1329 : decode b_Law_law 1329 = .ok (.aload_n 0, 1) := by decide +kernel
theorem d_Law_law_1330 : decode b_Law_law 1330 = .ok (.iload 4, 2) := by decide +kernel
theorem d_Law_law_1332 : decode b_Law_law 1332 = .ok (.iconst 2, 1) := by decide +kernel
theorem d_Law_law_1333 : decode b_Law_law 1333 = .ok (.iadd, 1) := by decide +kernel
theorem d_Law_law_1334 : decode b_Law_law 1334 = .ok (.iaload, 1) := by decide +kernel
theorem d_Law_law_1335 : decode b_Law_law 1335 = .ok (.invokevirtual 175, 3) := by decide +kernel
theorem d_Law_law_1338 : decode b_Law_law 1338 = .ok (.istore 6, 2) := by decide +kernel
theorem d_Law_law_1340 : decode b_Law_law 1340 = .ok (.aload_n 2, 1) := by decide +kernel
theorem d_Law_law_1341 : decode b_Law_law 1341 = .ok (.invokevirtual 96, 3) := by decide +kernel
theorem d_Law_law_1344 : decode b_Law_law 1344 = .ok (.iload 5, 2) := by decide +kernel
theorem d_Law_law_1346 : decode b_Law_law 1346 = .ok (.if_icmp .eq 5, 3) := by decide +kernel
theorem d_Law_law_1351 : decode b_Law_law 1351 = .ok (.iload 5, 2) := by decide +kernel
theorem d_Law_law_1353 : decode b_Law_law 1353 = .ok (.ifCond .ne 15, 3) := by decide +kernel
theorem d_Law_law_1368 : decode b_Law_law 1368 = .ok (.goto 97, 3) := by decide +kernel
theorem d_Law_law_1371 : decode b_Law_law 1371 = .ok (.aload_n 1, 1) := by decide +kernel
theorem d_Law_law_1372 : decode b_Law_law 1372 = .ok (.invokevirtual 176, 3) := by decide +kernel
theorem d_Law_law_1375 : decode b_Law_law 1375 = .ok (.aload_n 2, 1) := by decide +kernel
theorem d_Law_law_1376 : decode b_Law_law 1376 = .ok (.invokevirtual 179, 3) := by decide +kernel
theorem d_Law_law_1379 : decode b_Law_law 1379 = .ok (.if_icmp .eq 86, 3) := by decide +kernel
theorem d_Law_law_1384 : decode b_Law_law 1384 = .ok (.aload_n 1, 1) := by decide +kernel
theorem d_Law_law_1385 : decode b_Law_law 1385 = .ok (.invokevirtual 180, 3) := by decide +kernel
theorem d_Law_law_1388 : decode b_Law_law 1388 = .ok (.aload_n 2, 1) := by decide +kernel
theorem d_Law_law_1389 : decode b_Law_law 1389 = .ok (.invokevirtual 183, 3) := by decide +kernel
theorem d_Law_law_1392 : decode b_Law_law 1392 = .ok (.if_icmp .eq 73, 3) := by decide +kernel
theorem d_Law_law_1397 : decode b_Law_law 1397 = .ok (.aload_n 1, 1) := by decide +kernel
theorem d_Law_law_1398 : decode b_Law_law 1398 = .ok (.aload_n 0, 1) := by decide +kernel
theorem d_Law_law_1399 : decode b_Law_law 1399 = .ok (.iload 4, 2) := by decide +kernel
theorem d_Law_law_1401 : decode b_Law_law 1401 = .ok (.iconst 1, 1) := by decide +kernel
theorem d_Law_law_1402 : decode b_Law_law 1402 = .ok (.iadd, 1) := by decide +kernel
theorem d_Law_law_1403 : decode b_Law_law 1403 = .ok (.iaload, 1) := by decide +kernel
theorem d_Law_law_1404 : decode b_Law_law 1404 = .ok (.aload_n 3, 1) := by decide +kernel
theorem d_Law_law_1405 : decode b_Law_law 1405 = .ok (.invokestatic 184, 3) := by decide +kernel
theorem d_Law_law_1408 : decode b_Law_law 1408 = .ok (.istore 5, 2) := by decide +kernel
theorem d_Law_law_1410 : decode b_Law_law 1410 = .ok (.aload_n 2, 1) := by decide +kernel
theorem d_Law_law_1411 : decode b_Law_law 1411 = .ok (.aload_n 0, 1) := by decide +kernel
theorem d_Law_law_1412 : decode b_Law_law 1412 = .ok (.iload 4, 2) := by decide +kernel
theorem d_Law_law_1414 : decode b_Law_law 1414 = .ok (.iconst 1, 1) := by decide +kernel
theorem d_Law_law_1415 : decode b_Law_law 1415 = .ok (.iadd, 1) := by decide +kernel
theorem d_Law_law_1416 : decode b_Law_law 1416 = .ok (.iaload, 1) := by decide +kernel
theorem d_Law_law_1417 : decode b_Law_law 1417 = .ok (.invokevirtual 186, 3) := by decide +kernel
theorem d_Law_law_1420 : decode b_Law_law 1420 = .ok (.lstore 6, 2) := by decide +kernel
theorem d_Law_law_1422 : decode b_Law_law 1422 = .ok (.aload_n 2, 1) := by decide +kernel
theorem d_Law_law_1423 : decode b_Law_law 1423 = .ok (.invokevirtual 96, 3) := by decide +kernel
theorem d_Law_law_1426 : decode b_Law_law 1426 = .ok (.iload 5, 2) := by decide +kernel
theorem d_Law_law_1428 : decode b_Law_law 1428 = .ok (.if_icmp .eq 5, 3) := by decide +kernel
theorem d_Law_law_1433 : decode b_Law_law 1433 = .ok (.iload 5, 2) := by decide +kernel
theorem d_Law_law_1435 : decode b_Law_law 1435 = .ok (.ifCond .ne 14, 3) := by decide +kernel
theorem d_Law_law_1449 : decode b_Law_law 1449 = .ok (.goto 16, 3) := by decide +kernel
theorem d_Law_law_1452 : decode b_Law_law 1452 = .ok (.aload_n 1, 1) := by decide +kernel
theorem d_Law_law_1453 : decode b_Law_law 1453 = .ok (.invokevirtual 187, 3) := by decide +kernel
theorem d_Law_law_1456 : decode b_Law_law 1456 = .ok (.aload_n 2, 1) := by decide +kernel
theorem d_Law_law_1457 : decode b_Law_law 1457 = .ok (.invokevirtual 190, 3) := by decide +kernel
theorem d_Law_law_1460 : decode b_Law_law 1460 = .ok (.if_icmp .eq 5, 3) := by decide +kernel
theorem d_Law_law_1465 : decode b_Law_law 1465 = .ok (.iinc 4 6, 3) := by decide +kernel
theorem d_Law_law_1468 : decode b_Law_law 1468 = .ok (.goto (-1445), 3) := by decide +kernel
theorem d_Law_law_1471 : decode b_Law_law 1471 = .ok (.iconst 1, 1) := by decide +kernel
theorem d_Law_law_1472 : decode b_Law_law 1472 = .ok (.ireturn, 1) := by decide +kernel
theorem d_Law_load_0 : decode b_Law_load 0 = .ok (.aload_n 1, 1) := by decide +kernel
theorem d_Law_load_1 : decode b_Law_load 1 = .ok (.iconst 0, 1) := by decide +kernel
theorem d_Law_load_2 : decode b_Law_load 2 = .ok (.aload_n 0, 1) := by decide +kernel
theorem d_Law_load_3 : decode b_Law_load 3 = .ok (.invokevirtual 21, 3) := by decide +kernel
theorem d_Law_load_6 : decode b_Law_load 6 = .ok (.i2l, 1) := by decide +kernel
theorem d_Law_load_7 : decode b_Law_load 7 = .ok (.lastore, 1) := by decide +kernel
theorem d_Law_load_8 : decode b_Law_load 8 = .ok (.goto 6, 3) := by decide +kernel
theorem d_Law_load_14 : decode b_Law_load 14 = .ok (.iconst 0, 1) := by decide +kernel
theorem d_Law_load_15 : decode b_Law_load 15 = .ok (.ireturn, 1) := by decide +kernel
theorem d_Law_module_0 : decode b_Law_module 0 = .ok (.aload_n 3, 1) := by decide +kernel
theorem d_Law_module_1 : decode b_Law_module 1 = .ok (.iconst 0, 1) := by decide +kernel
theorem d_Law_module_2 : decode b_Law_module 2 = .ok (.aload_n 0, 1) := by decide +kernel
theorem d_Law_module_3 : decode b_Law_module 3 = .ok (.iload_n 1, 1) := by decide +kernel
theorem d_Law_module_4 : decode b_Law_module 4 = .ok (.iload_n 2, 1) := by decide +kernel
theorem d_Law_module_5 : decode b_Law_module 5 = .ok (.invokevirtual 31, 3) := by decide +kernel
theorem d_Law_module_13 : decode b_Law_module 13 = .ok (.astore 4, 2) := by decide +kernel
theorem d_Law_module_15 : decode b_Law_module 15 = .ok (.iconst 1, 1) := by decide +kernel
theorem d_Law_module_16 : decode b_Law_module 16 = .ok (.ireturn, 1) := by decide +kernel
theorem d_Law_name_0 : decode b_Law_name 0 = .ok (.aload_n 0, 1) := by decide +kernel
theorem d_Law_name_1 : decode b_Law_name 1 = .ok (.iload_n 1, 1) := by decide +kernel
theorem d_Law_name_2 : decode b_Law_name 2 = .ok (.invokevirtual 41, 3) := by decide +kernel
theorem d_Law_name_8 : decode b_Law_name 8 = .ok (.astore_n 2, 1) := by decide +kernel
theorem d_Law_name_9 : decode b_Law_name 9 = .ok (.iconst 1, 1) := by decide +kernel
theorem d_Law_name_10 : decode b_Law_name 10 = .ok (.ireturn, 1) := by decide +kernel
theorem d_Law_out_0 : decode b_Law_out 0 = .ok (.aload_n 2, 1) := by decide +kernel
theorem d_Law_out_1 : decode b_Law_out 1 = .ok (.iconst 0, 1) := by decide +kernel
theorem d_Law_out_2 : decode b_Law_out 2 = .ok (.aload_n 0, 1) := by decide +kernel
theorem d_Law_out_3 : decode b_Law_out 3 = .ok (.iload_n 1, 1) := by decide +kernel
theorem d_Law_out_4 : decode b_Law_out 4 = .ok (.invokevirtual 82, 3) := by decide +kernel
theorem d_Law_out_11 : decode b_Law_out 11 = .ok (.astore_n 3, 1) := by decide +kernel
theorem d_Law_out_12 : decode b_Law_out 12 = .ok (.iconst 1, 1) := by decide +kernel
theorem d_Law_out_13 : decode b_Law_out 13 = .ok (.ireturn, 1) := by decide +kernel
theorem d_Law_pages_0 : decode b_Law_pages 0 = .ok (.aload_n 2, 1) := by decide +kernel
theorem d_Law_pages_1 : decode b_Law_pages 1 = .ok (.iconst 0, 1) := by decide +kernel
theorem d_Law_pages_2 : decode b_Law_pages 2 = .ok (.aload_n 0, 1) := by decide +kernel
theorem d_Law_pages_3 : decode b_Law_pages 3 = .ok (.iload_n 1, 1) := by decide +kernel
theorem d_Law_pages_4 : decode b_Law_pages 4 = .ok (.invokevirtual 65, 3) := by decide +kernel
theorem d_Law_pages_12 : decode b_Law_pages 12 = .ok (.astore_n 3, 1) := by decide +kernel
theorem d_Law_pages_13 : decode b_Law_pages 13 = .ok (.iconst 1, 1) := by decide +kernel
theorem d_Law_pages_14 : decode b_Law_pages 14 = .ok (.ireturn, 1) := by decide +kernel
theorem d_Law_peek_0 : decode b_Law_peek 0 = .ok (.aload_n 3, 1) := by decide +kernel
theorem d_Law_peek_1 : decode b_Law_peek 1 = .ok (.iconst 0, 1) := by decide +kernel
theorem d_Law_peek_2 : decode b_Law_peek 2 = .ok (.aload_n 0, 1) := by decide +kernel
theorem d_Law_peek_3 : decode b_Law_peek 3 = .ok (.iload_n 1, 1) := by decide +kernel
theorem d_Law_peek_4 : decode b_Law_peek 4 = .ok (.iload_n 2, 1) := by decide +kernel
theorem d_Law_peek_5 : decode b_Law_peek 5 = .ok (.invokevirtual 68, 3) := by decide +kernel
theorem d_Law_peek_13 : decode b_Law_peek 13 = .ok (.astore 4, 2) := by decide +kernel
theorem d_Law_peek_15 : decode b_Law_peek 15 = .ok (.iconst 1, 1) := by decide +kernel
theorem d_Law_peek_16 : decode b_Law_peek 16 = .ok (.ireturn, 1) := by decide +kernel
theorem d_Law_poke_0 : decode b_Law_poke 0 = .ok (.aload_n 0, 1) := by decide +kernel
theorem d_Law_poke_1 : decode b_Law_poke 1 = .ok (.iload_n 1, 1) := by decide +kernel
theorem d_Law_poke_2 : decode b_Law_poke 2 = .ok (.iload_n 2, 1) := by decide +kernel
theorem d_Law_poke_3 : decode b_Law_poke 3 = .ok (.iload_n 3, 1) := by decide +kernel
theorem d_Law_poke_4 : decode b_Law_poke 4 = .ok (.invokevirtual 71, 3) := by decide +kernel
theorem d_Law_poke_10 : decode b_Law_poke 10 = .ok (.astore 4, 2) := by decide +kernel
theorem d_Law_poke_12 : decode b_Law_poke 12 = .ok (.iconst 1, 1) := by decide +kernel
theorem d_Law_poke_13 : decode b_Law_poke 13 = .ok (.ireturn, 1) := by decide +kernel
theorem d_Law_push_0 : decode b_Law_push 0 = .ok (.aload_n 3, 1) := by decide +kernel
theorem d_Law_push_1 : decode b_Law_push 1 = .ok (.iconst 0, 1) := by decide +kernel
theorem d_Law_push_2 : decode b_Law_push 2 = .ok (.aload_n 0, 1) := by decide +kernel
theorem d_Law_push_3 : decode b_Law_push 3 = .ok (.lload_n 1, 1) := by decide +kernel
theorem d_Law_push_4 : decode b_Law_push 4 = .ok (.invokevirtual 51, 3) := by decide +kernel
theorem d_Law_push_7 : decode b_Law_push 7 = .ok (.i2l, 1) := by decide +kernel
theorem d_Law_push_8 : decode b_Law_push 8 = .ok (.lastore, 1) := by decide +kernel
theorem d_Law_push_9 : decode b_Law_push 9 = .ok (.goto 7, 3) := by decide +kernel
theorem d_Law_push_16 : decode b_Law_push 16 = .ok (.iconst 0, 1) := by decide +kernel
theorem d_Law_push_17 : decode b_Law_push 17 = .ok (.ireturn, 1) := by decide +kernel
theorem d_Law_room_0 : decode b_Law_room 0 = .ok (.aload_n 3, 1) := by decide +kernel
theorem d_Law_room_1 : decode b_Law_room 1 = .ok (.iconst 0, 1) := by decide +kernel
theorem d_Law_room_2 : decode b_Law_room 2 = .ok (.aload_n 0, 1) := by decide +kernel
theorem d_Law_room_3 : decode b_Law_room 3 = .ok (.iload_n 1, 1) := by decide +kernel
theorem d_Law_room_4 : decode b_Law_room 4 = .ok (.iload_n 2, 1) := by decide +kernel
theorem d_Law_room_5 : decode b_Law_room 5 = .ok (.invokevirtual 35, 3) := by decide +kernel
theorem d_Law_room_13 : decode b_Law_room 13 = .ok (.astore 4, 2) := by decide +kernel
theorem d_Law_room_15 : decode b_Law_room 15 = .ok (.iconst 1, 1) := by decide +kernel
theorem d_Law_room_16 : decode b_Law_room 16 = .ok (.ireturn, 1) := by decide +kernel
theorem d_Law_run_0 : decode b_Law_run 0 = .ok (.aload_n 2, 1) := by decide +kernel
theorem d_Law_run_1 : decode b_Law_run 1 = .ok (.iconst 0, 1) := by decide +kernel
theorem d_Law_run_2 : decode b_Law_run 2 = .ok (.aload_n 0, 1) := by decide +kernel
theorem d_Law_run_3 : decode b_Law_run 3 = .ok (.iload_n 1, 1) := by decide +kernel
theorem d_Law_run_4 : decode b_Law_run 4 = .ok (.invokevirtual 59, 3) := by decide +kernel
theorem d_Law_run_12 : decode b_Law_run 12 = .ok (.astore_n 3, 1) := by decide +kernel
theorem d_Law_run_13 : decode b_Law_run 13 = .ok (.iconst 1, 1) := by decide +kernel
theorem d_Law_run_14 : decode b_Law_run 14 = .ok (.ireturn, 1) := by decide +kernel
theorem d_Law_run_15 : decode b_Law_run 15 = .ok (.astore_n 3, 1) := by decide +kernel
theorem d_Law_run_16 : decode b_Law_run 16 = .ok (.iconst 2, 1) := by decide +kernel
theorem d_Law_run_17 : decode b_Law_run 17 = .ok (.ireturn, 1) := by decide +kernel
theorem d_Law_trap_0 : decode b_Law_trap 0 = .ok (.aload_n 2, 1) := by decide +kernel
theorem d_Law_trap_1 : decode b_Law_trap 1 = .ok (.iconst 0, 1) := by decide +kernel
theorem d_Law_trap_2 : decode b_Law_trap 2 = .ok (.aload_n 0, 1) := by decide +kernel
theorem d_Law_trap_3 : decode b_Law_trap 3 = .ok (.iload_n 1, 1) := by decide +kernel
theorem d_Law_trap_4 : decode b_Law_trap 4 = .ok (.invokevirtual 62, 3) := by decide +kernel
theorem d_Law_trap_7 : decode b_Law_trap 7 = .ok (.i2l, 1) := by decide +kernel
theorem d_Law_trap_8 : decode b_Law_trap 8 = .ok (.lastore, 1) := by decide +kernel
theorem d_Law_trap_9 : decode b_Law_trap 9 = .ok (.goto 6, 3) := by decide +kernel
theorem d_Law_trap_12 : decode b_Law_trap 12 = .ok (.astore_n 3, 1) := by decide +kernel
theorem d_Law_trap_13 : decode b_Law_trap 13 = .ok (.iconst 1, 1) := by decide +kernel
theorem d_Law_trap_14 : decode b_Law_trap 14 = .ok (.ireturn, 1) := by decide +kernel
theorem d_Law_trap_15 : decode b_Law_trap 15 = .ok (.iconst 0, 1) := by decide +kernel
theorem d_Law_trap_16 : decode b_Law_trap 16 = .ok (.ireturn, 1) := by decide +kernel
theorem d_Law_variable_0 : decode b_Law_variable 0 = .ok (.aload_n 3, 1) := by decide +kernel
theorem d_Law_variable_1 : decode b_Law_variable 1 = .ok (.iconst 0, 1) := by decide +kernel
theorem d_Law_variable_2 : decode b_Law_variable 2 = .ok (.aload_n 0, 1) := by decide +kernel
theorem d_Law_variable_3 : decode b_Law_variable 3 = .ok (.iload_n 1, 1) := by decide +kernel
theorem d_Law_variable_4 : decode b_Law_variable 4 = .ok (.iload_n 2, 1) := by decide +kernel
theorem d_Law_variable_5 : decode b_Law_variable 5 = .ok (.invokevirtual 75, 3) := by decide +kernel
theorem d_Law_variable_12 : decode b_Law_variable 12 = .ok (.astore 4, 2) := by decide +kernel
theorem d_Law_variable_14 : decode b_Law_variable 14 = .ok (.iconst 1, 1) := by decide +kernel
theorem d_Law_variable_15 : decode b_Law_variable 15 = .ok (.ireturn, 1) := by decide +kernel
theorem d_M_calls_0 : decode b_M_calls 0 = .ok (.aload_n 0, 1) := by decide +kernel
theorem d_M_calls_1 : decode b_M_calls 1 = .ok (.iconst 0, 1) := by decide +kernel
theorem d_M_calls_2 : decode b_M_calls 2 = .ok (.putfield 189, 3) := by decide +kernel
theorem d_M_calls_5 : decode b_M_calls 5 = .ok (.aload_n 0, 1) := by decide +kernel
theorem d_M_calls_6 : decode b_M_calls 6 = .ok (.getfield 539, 3) := by decide +kernel
theorem d_M_calls_9 : decode b_M_calls 9 = .ok (.ifCond .eq 17, 3) := by decide +kernel
theorem d_M_calls_26 : decode b_M_calls 26 = .ok (.iconst 0, 1) := by decide +kernel
theorem d_M_calls_27 : decode b_M_calls 27 = .ok (.ireturn, 1) := by decide +kernel
theorem d_M_clear_0 : decode b_M_clear 0 = .ok (.aload_n 0, 1) := by decide +kernel
theorem d_M_clear_1 : decode b_M_clear 1 = .ok (.iconst 0, 1) := by decide +kernel
theorem d_M_clear_2 : decode b_M_clear 2 = .ok (.putfield 189, 3) := by decide +kernel
theorem d_M_clear_5 : decode b_M_clear 5 = .ok (.aload_n 0, 1) := by decide +kernel
theorem d_M_clear_6 : decode b_M_clear 6 = .ok (.getfield 622, 3) := by decide +kernel
theorem d_M_clear_9 : decode b_M_clear 9 = .ok (.istore_n 1, 1) := by decide +kernel
theorem d_M_clear_10 : decode b_M_clear 10 = .ok (.aload_n 0, 1) := by decide +kernel
theorem d_M_clear_11 : decode b_M_clear 11 = .ok (.iconst 0, 1) := by decide +kernel
theorem d_M_clear_12 : decode b_M_clear 12 = .ok (.putfield 622, 3) := by decide +kernel
theorem d_M_clear_15 : decode b_M_clear 15 = .ok (.iload_n 1, 1) := by decide +kernel
theorem d_M_clear_16 : decode b_M_clear 16 = .ok (.ireturn, 1) := by decide +kernel
theorem d_M_element_0 : decode b_M_element 0 = .ok (.aload_n 0, 1) := by decide +kernel
theorem d_M_element_1 : decode b_M_element 1 = .ok (.iload_n 1, 1) := by decide +kernel
theorem d_M_element_2 : decode b_M_element 2 = .ok (.invokevirtual 592, 3) := by decide +kernel
theorem d_M_element_5 : decode b_M_element 5 = .ok (.ifCond .eq 12, 3) := by decide +kernel
theorem d_M_element_17 : decode b_M_element 17 = .ok (.iconst (-1), 1) := by decide +kernel
theorem d_M_element_18 : decode b_M_element 18 = .ok (.istore_n 3, 1) := by decide +kernel
theorem d_M_element_19 : decode b_M_element 19 = .ok (.aload_n 0, 1) := by decide +kernel
theorem d_M_element_20 : decode b_M_element 20 = .ok (.iload_n 3, 1) := by decide +kernel
