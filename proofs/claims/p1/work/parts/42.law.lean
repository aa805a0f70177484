theorem d_La_law_894 : decode b_La_law 894 = .ok (.iaload, 1) := by decide +kernel
theorem d_La_law_895 : decode b_La_law 895 = .ok (.aload_n 0, 1) := by decide +kernel
theorem d_La_law_896 : decode b_La_law 896 = .ok (.iload 4, 2) := by decide +kernel
theorem d_La_law_898 : decode b_La_law 898 = .ok (.bipush 6, 2) := by decide +kernel
theorem d_La_law_900 : decode b_La_law 900 = .ok (.iadd, 1) := by decide +kernel
theorem d_La_law_901 : decode b_La_law 901 = .ok (.iaload, 1) := by decide +kernel
theorem d_La_law_902 : decode b_La_law 902 = .ok (.aload_n 3, 1) := by decide +kernel
theorem d_La_law_903 : decode b_La_law 903 = .ok (.invokestatic 121, 3) := by decide +kernel
theorem d_La_law_906 : decode b_La_law 906 = .ok (.istore 5, 2) := by decide +kernel
theorem d_La_law_908 : decode b_La_law 908 = .ok (.aload_n 2, 1) := by decide +kernel
theorem d_La_law_909 : decode b_La_law 909 = .ok (.aload_n 0, 1) := by decide +kernel
theorem d_La_law_910 : decode b_La_law 910 = .ok (.iload 4, 2) := by decide +kernel
theorem d_La_law_912 : decode b_La_law 912 = .ok (.iconst 1, 1) := by decide +kernel
theorem d_La_law_913 : decode b_La_law 913 = .ok (.iadd, 1) := by decide +kernel
theorem d_La_law_914 : decode b_La_law 914 = .ok (.iaload, 1) := by decide +kernel
theorem d_La_law_915 : decode b_La_law 915 = .ok (.aload_n 0, 1) := by decide +kernel
theorem d_La_law_916 : decode b_La_law 916 = .ok (.iload 4, 2) := by decide +kernel
theorem d_La_law_918 : decode b_La_law 918 = .ok (.iconst 2, 1) := by decide +kernel
theorem d_La_law_919 : decode b_La_law 919 = .ok (.iadd, 1) := by decide +kernel
theorem d_La_law_920 : decode b_La_law 920 = .ok (.iaload, 1) := by decide +kernel
theorem d_La_law_921 : decode b_La_law 921 = .ok (.aload_n 0, 1) := by decide +kernel
theorem d_La_law_922 : decode b_La_law 922 = .ok (.iload 4, 2) := by decide +kernel
theorem d_La_law_924 : decode b_La_law 924 = .ok (.iconst 3, 1) := by decide +kernel
theorem d_La_law_925 : decode b_La_law 925 = .ok (.iadd, 1) := by decide +kernel
theorem d_La_law_926 : decode b_La_law 926 = .ok (.iaload, 1) := by decide +kernel
theorem d_La_law_927 : decode b_La_law 927 = .ok (.aload_n 0, 1) := by decide +kernel
theorem d_La_law_928 : decode b_La_law 928 = .ok (.iload 4, 2) := by decide +kernel
theorem d_La_law_930 : decode b_La_law 930 = .ok (.iconst 4, 1) := by decide +kernel
theorem d_La_law_931 : decode b_La_law 931 = .ok (.iadd, 1) := by decide +kernel
theorem d_La_law_932 : decode b_La_law 932 = .ok (.iaload, 1) := by decide +kernel
theorem d_La_law_933 : decode b_La_law 933 = .ok (.aload_n 0, 1) := by decide +kernel
theorem d_La_law_934 : decode b_La_law 934 = .ok (.iload 4, 2) := by decide +kernel
theorem d_La_law_936 : decode b_La_law 936 = .ok (.iconst 5, 1) := by decide +kernel
theorem d_La_law_937 : decode b_La_law 937 = .ok (.iadd, 1) := by decide +kernel
theorem d_La_law_938 : decode b_La_law 938 = .ok (.iaload, 1) := by decide +kernel
theorem d_La_law_939 : decode b_La_law 939 = .ok (.aload_n 0, 1) := by decide +kernel
theorem d_La_law_940 : decode b_La_law 940 = .ok (.iload 4, 2) := by decide +kernel
theorem d_La_law_942 : decode b_La_law 942 = .ok (.bipush 6, 2) := by decide +kernel
theorem d_La_law_944 : decode b_La_law 944 = .ok (.iadd, 1) := by decide +kernel
theorem d_La_law_945 : decode b_La_law 945 = .ok (.iaload, 1) := by decide +kernel
theorem d_La_law_946 : decode b_La_law 946 = .ok (.invokevirtual 124, 3) := by decide +kernel
theorem d_La_law_949 : decode b_La_law 949 = .ok (.istore 6, 2) := by decide +kernel
theorem d_La_law_951 : decode b_La_law 951 = .ok (.aload_n 2, 1) := by decide +kernel
theorem d_La_law_952 : decode b_La_law 952 = .ok (.invokevirtual 91, 3) := by decide +kernel
theorem d_La_law_955 : decode b_La_law 955 = .ok (.iload 5, 2) := by decide +kernel
theorem d_La_law_957 : decode b_La_law 957 = .ok (.if_icmp .eq 5, 3) := by decide +kernel
theorem d_La_law_960 : decode b_La_law 960 = .ok (.iconst 0, 1) := by decide +kernel
theorem d_La_law_961 : decode b_La_law 961 = .ok (.ireturn, 1) := by decide +kernel
theorem d_La_law_962 : decode b_La_law 962 = .ok (.iload 5, 2) := by decide +kernel
theorem d_La_law_964 : decode b_La_law 964 = .ok (.ifCond .ne 15, 3) := by decide +kernel
theorem d_La_law_967 : decode b_La_law 967 = .ok (.aload_n 3, 1) := by decide +kernel
theorem d_La_law_968 : decode b_La_law 968 = .ok (.iconst 0, 1) := by decide +kernel
theorem d_La_law_969 : decode b_La_law 969 = .ok (.laload, 1) := by decide +kernel
theorem d_La_law_970 : decode b_La_law 970 = .ok (.iload 6, 2) := by decide +kernel
theorem d_La_law_972 : decode b_La_law 972 = .ok (.i2l, 1) := by decide +kernel
theorem d_La_law_973 : decode b_La_law 973 = .ok (.lcmp, 1) := by decide +kernel
theorem d_La_law_974 : decode b_La_law 974 = .ok (.ifCond .eq 5, 3) := by decide +kernel
theorem d_La_law_977 : decode b_La_law 977 = .ok (.iconst 0, 1) := by decide +kernel
theorem d_La_law_978 : decode b_La_law 978 = .ok (.ireturn, 1) := by decide +kernel
theorem d_La_law_979 : decode b_La_law 979 = .ok (.goto 308, 3) := by decide +kernel
theorem d_La_law_982 : decode b_La_law 982 = .ok (.aload_n 1, 1) := by decide +kernel
theorem d_La_law_983 : decode b_La_law 983 = .ok (.aload_n 0, 1) := by decide +kernel
theorem d_La_law_984 : decode b_La_law 984 = .ok (.iload 4, 2) := by decide +kernel
theorem d_La_law_986 : decode b_La_law 986 = .ok (.iconst 1, 1) := by decide +kernel
theorem d_La_law_987 : decode b_La_law 987 = .ok (.iadd, 1) := by decide +kernel
theorem d_La_law_988 : decode b_La_law 988 = .ok (.iaload, 1) := by decide +kernel
theorem d_La_law_989 : decode b_La_law 989 = .ok (.aload_n 0, 1) := by decide +kernel
theorem d_La_law_990 : decode b_La_law 990 = .ok (.iload 4, 2) := by decide +kernel
theorem d_La_law_992 : decode b_La_law 992 = .ok (.iconst 2, 1) := by decide +kernel
theorem d_La_law_993 : decode b_La_law 993 = .ok (.iadd, 1) := by decide +kernel
theorem d_La_law_994 : decode b_La_law 994 = .ok (.iaload, 1) := by decide +kernel
theorem d_La_law_995 : decode b_La_law 995 = .ok (.aload_n 3, 1) := by decide +kernel
theorem d_La_law_996 : decode b_La_law 996 = .ok (.invokestatic 125, 3) := by decide +kernel
theorem d_La_law_999 : decode b_La_law 999 = .ok (.istore 5, 2) := by decide +kernel
theorem d_La_law_1001 : decode b_La_law 1001 = .ok (.aload_n 2, 1) := by decide +kernel
theorem d_La_law_1002 : decode b_La_law 1002 = .ok (.aload_n 0, 1) := by decide +kernel
theorem d_La_law_1003 : decode b_La_law 1003 = .ok (.iload 4, 2) := by decide +kernel
theorem d_La_law_1005 : decode b_La_law 1005 = .ok (.iconst 1, 1) := by decide +kernel
theorem d_La_law_1006 : decode b_La_law 1006 = .ok (.iadd, 1) := by decide +kernel
theorem d_La_law_1007 : decode b_La_law 1007 = .ok (.iaload, 1) := by decide +kernel
theorem d_La_law_1008 : decode b_La_law 1008 = .ok (.aload_n 0, 1) := by decide +kernel
theorem d_La_law_1009 : decode b_La_law 1009 = .ok (.iload 4, 2) := by decide +kernel
theorem d_La_law_1011 : decode b_La_law 1011 = .ok (.iconst 2, 1) := by decide +kernel
theorem d_La_law_1012 : decode b_La_law 1012 = .ok (.iadd, 1) := by decide +kernel
theorem d_La_law_1013 : decode b_La_law 1013 = .ok (.iaload, 1) := by decide +kernel
theorem d_La_law_1014 : decode b_La_law 1014 = .ok (.invokevirtual 127, 3) := by decide +kernel
theorem d_La_law_1017 : decode b_La_law 1017 = .ok (.istore 6, 2) := by decide +kernel
theorem d_La_law_1019 : decode b_La_law 1019 = .ok (.aload_n 2, 1) := by decide +kernel
theorem d_La_law_1020 : decode b_La_law 1020 = .ok (.invokevirtual 91, 3) := by decide +kernel
theorem d_La_law_1023 : decode b_La_law 1023 = .ok (.iload 5, 2) := by decide +kernel
theorem d_La_law_1025 : decode b_La_law 1025 = .ok (.if_icmp .eq 5, 3) := by decide +kernel
theorem d_La_law_1028 : decode b_La_law 1028 = .ok (.iconst 0, 1) := by decide +kernel
theorem d_La_law_1029 : decode b_La_law 1029 = .ok (.ireturn, 1) := by decide +kernel
theorem d_La_law_1030 : decode b_La_law 1030 = .ok (.iload 5, 2) := by decide +kernel
theorem d_La_law_1032 : decode b_La_law 1032 = .ok (.ifCond .ne 15, 3) := by decide +kernel
theorem d_La_law_1035 : decode b_La_law 1035 = .ok (.aload_n 3, 1) := by decide +kernel
theorem d_La_law_1036 : decode b_La_law 1036 = .ok (.iconst 0, 1) := by decide +kernel
theorem d_La_law_1037 : decode b_La_law 1037 = .ok (.laload, 1) := by decide +kernel
theorem d_La_law_1038 : decode b_La_law 1038 = .ok (.iload 6, 2) := by decide +kernel
theorem d_La_law_1040 : decode b_La_law 1040 = .ok (.i2l, 1) := by decide +kernel
theorem d_La_law_1041 : decode b_La_law 1041 = .ok (.lcmp, 1) := by decide +kernel
theorem d_La_law_1042 : decode b_La_law 1042 = .ok (.ifCond .eq 5, 3) := by decide +kernel
theorem d_La_law_1045 : decode b_La_law 1045 = .ok (.iconst 0, 1) := by decide +kernel
theorem d_La_law_1046 : decode b_La_law 1046 = .ok (.ireturn, 1) := by decide +kernel
theorem d_La_law_1047 : decode b_La_law 1047 = .ok (.goto 240, 3) := by decide +kernel
theorem d_La_law_1050 : decode b_La_law 1050 = .ok (.aload_n 1, 1) := by decide +kernel
theorem d_La_law_1051 : decode b_La_law 1051 = .ok (.aload_n 3, 1) := by decide +kernel
theorem d_La_law_1052 : decode b_La_law 1052 = .ok (.invokestatic 128, 3) := by decide +kernel
theorem d_La_law_1055 : decode b_La_law 1055 = .ok (.istore 5, 2) := by decide +kernel
theorem d_La_law_1057 : decode b_La_law 1057 = .ok (.aload_n 2, 1) := by decide +kernel
theorem d_La_law_1058 : decode b_La_law 1058 = .ok (.invokevirtual 130, 3) := by decide +kernel
theorem d_La_law_1061 : decode b_La_law 1061 = .ok (.istore 6, 2) := by decide +kernel
theorem d_La_law_1063 : decode b_La_law 1063 = .ok (.aload_n 2, 1) := by decide +kernel
theorem d_La_law_1064 : decode b_La_law 1064 = .ok (.invokevirtual 91, 3) := by decide +kernel
theorem d_La_law_1067 : decode b_La_law 1067 = .ok (.iload 5, 2) := by decide +kernel
theorem d_La_law_1069 : decode b_La_law 1069 = .ok (.if_icmp .eq 5, 3) := by decide +kernel
theorem d_La_law_1072 : decode b_La_law 1072 = .ok (.iconst 0, 1) := by decide +kernel
theorem d_La_law_1073 : decode b_La_law 1073 = .ok (.ireturn, 1) := by decide +kernel
theorem d_La_law_1074 : decode b_La_law 1074 = .ok (.iload 5, 2) := by decide +kernel
theorem d_La_law_1076 : decode b_La_law 1076 = .ok (.ifCond .ne 15, 3) := by decide +kernel
theorem d_La_law_1079 : decode b_La_law 1079 = .ok (.aload_n 3, 1) := by decide +kernel
theorem d_La_law_1080 : decode b_La_law 1080 = .ok (.iconst 0, 1) := by decide +kernel
theorem d_La_law_1081 : decode b_La_law 1081 = .ok (.laload, 1) := by decide +kernel
theorem d_La_law_1082 : decode b_La_law 1082 = .ok (.iload 6, 2) := by decide +kernel
theorem d_La_law_1084 : decode b_La_law 1084 = .ok (.i2l, 1) := by decide +kernel
theorem d_La_law_1085 : decode b_La_law 1085 = .ok (.lcmp, 1) := by decide +kernel
theorem d_La_law_1086 : decode b_La_law 1086 = .ok (.ifCond .eq 5, 3) := by decide +kernel
theorem d_La_law_1089 : decode b_La_law 1089 = .ok (.iconst 0, 1) := by decide +kernel
theorem d_La_law_1090 : decode b_La_law 1090 = .ok (.ireturn, 1) := by decide +kernel
theorem d_La_law_1091 : decode b_La_law 1091 = .ok (.goto 196, 3) := by decide +kernel
theorem d_La_law_1094 : decode b_La_law 1094 = .ok (.aload_n 1, 1) := by decide +kernel
theorem d_La_law_1095 : decode b_La_law 1095 = .ok (.aload_n 3, 1) := by decide +kernel
theorem d_La_law_1096 : decode b_La_law 1096 = .ok (.invokestatic 131, 3) := by decide +kernel
theorem d_La_law_1099 : decode b_La_law 1099 = .ok (.istore 5, 2) := by decide +kernel
theorem d_La_law_1101 : decode b_La_law 1101 = .ok (.aload_n 2, 1) := by decide +kernel
theorem d_La_law_1102 : decode b_La_law 1102 = .ok (.invokevirtual 133, 3) := by decide +kernel
theorem d_La_law_1105 : decode b_La_law 1105 = .ok (.istore 6, 2) := by decide +kernel
theorem d_La_law_1107 : decode b_La_law 1107 = .ok (.aload_n 2, 1) := by decide +kernel
theorem d_La_law_1108 : decode b_La_law 1108 = .ok (.invokevirtual 91, 3) := by decide +kernel
theorem d_La_law_1111 : decode b_La_law 1111 = .ok (.iload 5, 2) := by decide +kernel
theorem d_La_law_1113 : decode b_La_law 1113 = .ok (.if_icmp .eq 5, 3) := by decide +kernel
theorem d_La_law_1116 : decode b_La_law 1116 = .ok (.iconst 0, 1) := by decide +kernel
theorem d_La_law_1117 : decode b_La_law 1117 = .ok (.ireturn, 1) := by decide +kernel
theorem d_La_law_1118 : decode b_La_law 1118 = .ok (.iload 5, 2) := by decide +kernel
theorem d_La_law_1120 : decode b_La_law 1120 = .ok (.ifCond .ne 15, 3) := by decide +kernel
theorem d_La_law_1123 : decode b_La_law 1123 = .ok (.aload_n 3, 1) := by decide +kernel
theorem d_La_law_1124 : decode b_La_law 1124 = .ok (.iconst 0, 1) := by decide +kernel
theorem d_La_law_1125 : decode b_La_law 1125 = .ok (.laload, 1) := by decide +kernel
theorem d_La_law_1126 : decode b_La_law 1126 = .ok (.iload 6, 2) := by decide +kernel
theorem d_La_law_1128 : decode b_La_law 1128 = .ok (.i2l, 1) := by decide +kernel
theorem d_La_law_1129 : decode b_La_law 1129 = .ok (.lcmp, 1) := by decide +kernel
theorem d_La_law_1130 : decode b_La_law 1130 = .ok (.ifCond .eq 5, 3) := by decide +kernel
theorem d_La_law_1133 : decode b_La_law 1133 = .ok (.iconst 0, 1) := by decide +kernel
theorem d_La_law_1134 : decode b_La_law 1134 = .ok (.ireturn, 1) := by decide +kernel
theorem d_La_law_1135 : decode b_La_law 1135 = .ok (.goto 152, 3) := by decide +kernel
theorem d_La_law_1138 : decode b_La_law 1138 = .ok (.aload_n 1, 1) := by decide +kernel
theorem d_La_law_1139 : decode b_La_law 1139 = .ok (.aload_n 0, 1) := by decide +kernel
theorem d_La_law_1140 : decode b_La_law 1140 = .ok (.iload 4, 2) := by decide +kernel
theorem d_La_law_1142 : decode b_La_law 1142 = .ok (.iconst 1, 1) := by decide +kernel
theorem d_La_law_1143 : decode b_La_law 1143 = .ok (.iadd, 1) := by decide +kernel
theorem d_La_law_1144 : decode b_La_law 1144 = .ok (.iaload, 1) := by decide +kernel
theorem d_La_law_1145 : decode b_La_law 1145 = .ok (.aload_n 0, 1) := by decide +kernel
theorem d_La_law_1146 : decode b_La_law 1146 = .ok (.iload 4, 2) := by decide +kernel
theorem d_La_law_1148 : decode b_La_law 1148 = .ok (.iconst 2, 1) := by decide +kernel
theorem d_La_law_1149 : decode b_La_law 1149 = .ok (.iadd, 1) := by decide +kernel
theorem d_La_law_1150 : decode b_La_law 1150 = .ok (.iaload, 1) := by decide +kernel
theorem d_La_law_1151 : decode b_La_law 1151 = .ok (.invokevirtual 134, 3) := by decide +kernel
theorem d_La_law_1154 : decode b_La_law 1154 = .ok (.aload_n 2, 1) := by decide +kernel
theorem d_La_law_1155 : decode b_La_law 1155 = .ok (.aload_n 0, 1) := by decide +kernel
theorem d_La_law_1156 : decode b_La_law 1156 = .ok (.iload 4, 2) := by decide +kernel
theorem d_La_law_1158 : decode b_La_law 1158 = .ok (.iconst 1, 1) := by decide +kernel
theorem d_La_law_1159 : decode b_La_law 1159 = .ok (.iadd, 1) := by decide +kernel
theorem d_La_law_1160 : decode b_La_law 1160 = .ok (.iaload, 1) := by decide +kernel
theorem d_La_law_1161 : decode b_La_law 1161 = .ok (.aload_n 0, 1) := by decide +kernel
theorem d_La_law_1162 : decode b_La_law 1162 = .ok (.iload 4, 2) := by decide +kernel
theorem d_La_law_1164 : decode b_La_law 1164 = .ok (.iconst 2, 1) := by decide +kernel
theorem d_La_law_1165 : decode b_La_law 1165 = .ok (.iadd, 1) := by decide +kernel
theorem d_La_law_1166 : decode b_La_law 1166 = .ok (.iaload, 1) := by decide +kernel
theorem d_La_law_1167 : decode b_La_law 1167 = .ok (.invokevirtual 137, 3) := by decide +kernel
theorem d_La_law_1170 : decode b_La_law 1170 = .ok (.if_icmp .eq 117, 3) := by decide +kernel
theorem d_La_law_1173 : decode b_La_law 1173 = .ok (.iconst 0, 1) := by decide +kernel
theorem d_La_law_1174 : decode b_La_law 1174 = .ok (.ireturn, 1) := by decide +kernel
theorem d_La_law_1175 : decode b_La_law 1175 = .ok (.aload_n 1, 1) := by decide +kernel
theorem d_La_law_1176 : decode b_La_law 1176 = .ok (.aload_n 0, 1) := by decide +kernel
theorem d_La_law_1177 : decode b_La_law 1177 = .ok (.iload 4, 2) := by decide +kernel
theorem d_La_law_1179 : decode b_La_law 1179 = .ok (.iconst 1, 1) := by decide +kernel
theorem d_La_law_1180 : decode b_La_law 1180 = .ok (.iadd, 1) := by decide +kernel
theorem d_La_law_1181 : decode b_La_law 1181 = .ok (.iaload, 1) := by decide +kernel
theorem d_La_law_1182 : decode b_La_law 1182 = .ok (.invokevirtual 138, 3) := by decide +kernel
theorem d_La_law_1185 : decode b_La_law 1185 = .ok (.aload_n 2, 1) := by decide +kernel
theorem d_La_law_1186 : decode b_La_law 1186 = .ok (.aload_n 0, 1) := by decide +kernel
theorem d_La_law_1187 : decode b_La_law 1187 = .ok (.iload 4, 2) := by decide +kernel
theorem d_La_law_1189 : decode b_La_law 1189 = .ok (.iconst 1, 1) := by decide +kernel
theorem d_La_law_1190 : decode b_La_law 1190 = .ok (.iadd, 1) := by decide +kernel
theorem d_La_law_1191 : decode b_La_law 1191 = .ok (.iaload, 1) := by decide +kernel
theorem d_La_law_1192 : decode b_La_law 1192 = .ok (.invokevirtual 141, 3) := by decide +kernel
theorem d_La_law_1195 : decode b_La_law 1195 = .ok (.if_icmp .eq 92, 3) := by decide +kernel
theorem d_La_law_1198 : decode b_La_law 1198 = .ok (.iconst 0, 1) := by decide +kernel
theorem d_La_law_1199 : decode b_La_law 1199 = .ok (.ireturn, 1) := by decide +kernel
theorem d_La_law_1200 : decode b_La_law 1200 = .ok (.aload_n 1, 1) := by decide +kernel
theorem d_La_law_1201 : decode b_La_law 1201 = .ok (.invokevirtual 142, 3) := by decide +kernel
theorem d_La_law_1204 : decode b_La_law 1204 = .ok (.aload_n 2, 1) := by decide +kernel
theorem d_La_law_1205 : decode b_La_law 1205 = .ok (.invokevirtual 145, 3) := by decide +kernel
theorem d_La_law_1208 : decode b_La_law 1208 = .ok (.if_icmp .eq 79, 3) := by decide +kernel
theorem d_La_law_1211 : decode b_La_law 1211 = .ok (.iconst 0, 1) := by decide +kernel
theorem d_La_law_1212 : decode b_La_law 1212 = .ok (.ireturn, 1) := by decide +kernel
theorem d_La_law_1213 : decode b_La_law 1213 = .ok (.aload_n 1, 1) := by decide +kernel
theorem d_La_law_1214 : decode b_La_law 1214 = .ok (.aload_n 0, 1) := by decide +kernel
theorem d_La_law_1215 : decode b_La_law 1215 = .ok (.iload 4, 2) := by decide +kernel
theorem d_La_law_1217 : decode b_La_law 1217 = .ok (.iconst 1, 1) := by decide +kernel
theorem d_La_law_1218 : decode b_La_law 1218 = .ok (.iadd, 1) := by decide +kernel
theorem d_La_law_1219 : decode b_La_law 1219 = .ok (.iaload, 1) := by decide +kernel
theorem d_La_law_1220 : decode b_La_law 1220 = .ok (.aload_n 0, 1) := by decide +kernel
theorem d_La_law_1221 : decode b_La_law 1221 = .ok (.iload 4, 2) := by decide +kernel
theorem d_La_law_1223 : decode b_La_law 1223 = .ok (.iconst 2, 1) := by decide +kernel
theorem d_La_law_1224 : decode b_La_law 1224 = .ok (.iadd, 1) := by decide +kernel
theorem d_La_law_1225 : decode b_La_law 1225 = .ok (.iaload, 1) := by decide +kernel
theorem d_La_law_1226 : decode b_La_law 1226 = .ok (.invokevirtual 146, 3) := by decide +kernel
theorem d_La_law_1229 : decode b_La_law 1229 = .ok (.aload_n 2, 1) := by decide +kernel
theorem d_La_law_1230 : decode b_La_law 1230 = .ok (.aload_n 0, 1) := by decide +kernel
theorem d_La_law_1231 : decode b_La_law 1231 = .ok (.iload 4, 2) := by decide +kernel
theorem d_La_law_1233 : decode b_La_law 1233 = .ok (.iconst 1, 1) := by decide +kernel
theorem d_La_law_1234 : decode b_La_law 1234 = .ok (.iadd, 1) := by decide +kernel
theorem d_La_law_1235 : decode b_La_law 1235 = .ok (.iaload, 1) := by decide +kernel
theorem d_La_law_1236 : decode b_La_law 1236 = .ok (.aload_n 0, 1) := by decide +kernel
theorem d_La_law_1237 : decode b_La_law 1237 = .ok (.iload 4, 2) := by decide +kernel
theorem d_La_law_1239 : decode b_La_law 1239 = .ok (.iconst 2, 1) := by decide +kernel
theorem d_La_law_1240 : decode b_La_law 1240 = .ok (.iadd, 1) := by decide +kernel
theorem d_La_law_1241 : decode b_La_law 1241 = .ok (.iaload, 1) := by decide +kernel
theorem d_La_law_1242 : decode b_La_law 1242 = .ok (.invokevirtual 149, 3) := by decide +kernel
theorem d_La_law_1245 : decode b_La_law 1245 = .ok (.if_icmp .eq 42, 3) := by decide +kernel
theorem d_La_law_1248 : decode b_La_law 1248 = .ok (.iconst 0, 1) := by decide +kernel
theorem d_La_law_1249 : decode b_La_law 1249 = .ok (.ireturn, 1) := by decide +kernel
theorem d_La_law_1250 : decode b_La_law 1250 = .ok (.aload_n 1, 1) := by decide +kernel
theorem d_La_law_1251 : decode b_La_law 1251 = .ok (.aload_n 0, 1) := by decide +kernel
theorem d_La_law_1252 : decode b_La_law 1252 = .ok (.iload 4, 2) := by decide +kernel
theorem d_La_law_1254 : decode b_La_law 1254 = .ok (.iconst 1, 1) := by decide +kernel
theorem d_La_law_1255 : decode b_La_law 1255 = .ok (.iadd, 1) := by decide +kernel
theorem d_La_law_1256 : decode b_La_law 1256 = .ok (.iaload, 1) := by decide +kernel
theorem d_La_law_1257 : decode b_La_law 1257 = .ok (.aload_n 0, 1) := by decide +kernel
theorem d_La_law_1258 : decode b_La_law 1258 = .ok (.iload 4, 2) := by decide +kernel
theorem d_La_law_1260 : decode b_La_law 1260 = .ok (.iconst 2, 1) := by decide +kernel
theorem d_La_law_1261 : decode b_La_law 1261 = .ok (.iadd, 1) := by decide +kernel
theorem d_La_law_1262 : decode b_La_law 1262 = .ok (.iaload, 1) := by decide +kernel
theorem d_La_law_1263 : decode b_La_law 1263 = .ok (.invokevirtual 150, 3) := by decide +kernel
theorem d_La_law_1266 : decode b_La_law 1266 = .ok (.aload_n 2, 1) := by decide +kernel
theorem d_La_law_1267 : decode b_La_law 1267 = .ok (.aload_n 0, 1) := by decide +kernel
theorem d_La_law_1268 : decode b_La_law 1268 = .ok (.iload 4, 2) := by decide +kernel
theorem d_La_law_1270 : decode b_La_law 1270 = .ok (.iconst 1, 1) := by decide +kernel
theorem d_La_law_1271 : decode b_La_law 1271 = .ok (.iadd, 1) := by decide +kernel
theorem d_La_law_1272 : decode b_La_law 1272 = .ok (.iaload, 1) := by decide +kernel
theorem d_La_law_1273 : decode b_La_law 1273 = .ok (.aload_n 0, 1) := by decide +kernel
theorem d_La_law_1274 : decode b_La_law 1274 = .ok (.iload 4, 2) := by decide +kernel
theorem d_La_law_1276 : decode b_La_law 1276 = .ok (.iconst 2, 1) := by decide +kernel
theorem d_La_law_1277 : decode b_La_law 1277 = .ok (.iadd, 1) := by decide +kernel
theorem d_La_law_1278 : decode b_La_law 1278 = .ok (.iaload, 1) := by decide +kernel
theorem d_La_law_1279 : decode b_La_law 1279 = .ok (.invokevirtual 153, 3) := by decide +kernel
theorem d_La_law_1282 : decode b_La_law 1282 = .ok (.if_icmp .eq 5, 3) := by decide +kernel
theorem d_La_law_1285 : decode b_La_law 1285 = .ok (.iconst 0, 1) := by decide +kernel
theorem d_La_law_1286 : decode b_La_law 1286 = .ok (.ireturn, 1) := by decide +kernel
theorem d_La_law_1287 : decode b_La_law 1287 = .ok (.iinc 4 7, 3) := by decide +kernel
theorem d_La_law_1290 : decode b_La_law 1290 = .ok (.goto (-1267), 3) := by decide +kernel
theorem d_La_law_1293 : decode b_La_law 1293 = .ok (.iconst 1, 1) := by decide +kernel
theorem d_La_law_1294 : decode b_La_law 1294 = .ok (.ireturn, 1) := by decide +kernel
