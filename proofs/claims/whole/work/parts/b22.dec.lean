/-! ## the law: decode rows (printed by gen_law.py) -/
theorem dl_948 : decode code 948 = .ok (.aload_n 2, 1) := by decide +kernel
theorem dl_949 : decode code 949 = .ok (.aload_n 0, 1) := by decide +kernel
theorem dl_950 : decode code 950 = .ok (.iload_n 3, 1) := by decide +kernel
theorem dl_951 : decode code 951 = .ok (.iconst 1, 1) := by decide +kernel
theorem dl_952 : decode code 952 = .ok (.iadd, 1) := by decide +kernel
theorem dl_953 : decode code 953 = .ok (.iaload, 1) := by decide +kernel
theorem dl_954 : decode code 954 = .ok (.aload_n 0, 1) := by decide +kernel
theorem dl_955 : decode code 955 = .ok (.iload_n 3, 1) := by decide +kernel
theorem dl_956 : decode code 956 = .ok (.iconst 2, 1) := by decide +kernel
theorem dl_957 : decode code 957 = .ok (.iadd, 1) := by decide +kernel
theorem dl_958 : decode code 958 = .ok (.iaload, 1) := by decide +kernel
theorem dl_959 : decode code 959 = .ok (.invokevirtual 106, 3) := by decide +kernel
theorem dl_962 : decode code 962 = .ok (.if_icmp .eq 1172, 3) := by decide +kernel
theorem dl_967 : decode code 967 = .ok (.aload_n 1, 1) := by decide +kernel
theorem dl_968 : decode code 968 = .ok (.aload_n 0, 1) := by decide +kernel
theorem dl_969 : decode code 969 = .ok (.iload_n 3, 1) := by decide +kernel
theorem dl_970 : decode code 970 = .ok (.iconst 1, 1) := by decide +kernel
theorem dl_971 : decode code 971 = .ok (.iadd, 1) := by decide +kernel
theorem dl_972 : decode code 972 = .ok (.iaload, 1) := by decide +kernel
theorem dl_973 : decode code 973 = .ok (.aload_n 0, 1) := by decide +kernel
theorem dl_974 : decode code 974 = .ok (.iload_n 3, 1) := by decide +kernel
theorem dl_975 : decode code 975 = .ok (.iconst 2, 1) := by decide +kernel
theorem dl_976 : decode code 976 = .ok (.iadd, 1) := by decide +kernel
theorem dl_977 : decode code 977 = .ok (.iaload, 1) := by decide +kernel
theorem dl_978 : decode code 978 = .ok (.aload_n 0, 1) := by decide +kernel
theorem dl_979 : decode code 979 = .ok (.iload_n 3, 1) := by decide +kernel
theorem dl_980 : decode code 980 = .ok (.iconst 3, 1) := by decide +kernel
theorem dl_981 : decode code 981 = .ok (.iadd, 1) := by decide +kernel
theorem dl_982 : decode code 982 = .ok (.iaload, 1) := by decide +kernel
theorem dl_983 : decode code 983 = .ok (.aload_n 0, 1) := by decide +kernel
theorem dl_984 : decode code 984 = .ok (.iload_n 3, 1) := by decide +kernel
theorem dl_985 : decode code 985 = .ok (.iconst 4, 1) := by decide +kernel
theorem dl_986 : decode code 986 = .ok (.iadd, 1) := by decide +kernel
theorem dl_987 : decode code 987 = .ok (.iaload, 1) := by decide +kernel
theorem dl_988 : decode code 988 = .ok (.invokevirtual 107, 3) := by decide +kernel
theorem dl_991 : decode code 991 = .ok (.aload_n 2, 1) := by decide +kernel
theorem dl_992 : decode code 992 = .ok (.aload_n 0, 1) := by decide +kernel
theorem dl_993 : decode code 993 = .ok (.iload_n 3, 1) := by decide +kernel
theorem dl_994 : decode code 994 = .ok (.iconst 1, 1) := by decide +kernel
theorem dl_995 : decode code 995 = .ok (.iadd, 1) := by decide +kernel
theorem dl_996 : decode code 996 = .ok (.iaload, 1) := by decide +kernel
theorem dl_997 : decode code 997 = .ok (.aload_n 0, 1) := by decide +kernel
theorem dl_998 : decode code 998 = .ok (.iload_n 3, 1) := by decide +kernel
theorem dl_999 : decode code 999 = .ok (.iconst 2, 1) := by decide +kernel
theorem dl_1000 : decode code 1000 = .ok (.iadd, 1) := by decide +kernel
theorem dl_1001 : decode code 1001 = .ok (.iaload, 1) := by decide +kernel
theorem dl_1002 : decode code 1002 = .ok (.aload_n 0, 1) := by decide +kernel
theorem dl_1003 : decode code 1003 = .ok (.iload_n 3, 1) := by decide +kernel
theorem dl_1004 : decode code 1004 = .ok (.iconst 3, 1) := by decide +kernel
theorem dl_1005 : decode code 1005 = .ok (.iadd, 1) := by decide +kernel
theorem dl_1006 : decode code 1006 = .ok (.iaload, 1) := by decide +kernel
theorem dl_1007 : decode code 1007 = .ok (.aload_n 0, 1) := by decide +kernel
theorem dl_1008 : decode code 1008 = .ok (.iload_n 3, 1) := by decide +kernel
theorem dl_1009 : decode code 1009 = .ok (.iconst 4, 1) := by decide +kernel
theorem dl_1010 : decode code 1010 = .ok (.iadd, 1) := by decide +kernel
theorem dl_1011 : decode code 1011 = .ok (.iaload, 1) := by decide +kernel
theorem dl_1012 : decode code 1012 = .ok (.invokevirtual 111, 3) := by decide +kernel
theorem dl_1015 : decode code 1015 = .ok (.if_icmp .eq 1119, 3) := by decide +kernel
theorem dl_1020 : decode code 1020 = .ok (.aload_n 1, 1) := by decide +kernel
theorem dl_1021 : decode code 1021 = .ok (.aload_n 0, 1) := by decide +kernel
theorem dl_1022 : decode code 1022 = .ok (.iload_n 3, 1) := by decide +kernel
theorem dl_1023 : decode code 1023 = .ok (.iconst 1, 1) := by decide +kernel
theorem dl_1024 : decode code 1024 = .ok (.iadd, 1) := by decide +kernel
theorem dl_1025 : decode code 1025 = .ok (.iaload, 1) := by decide +kernel
theorem dl_1026 : decode code 1026 = .ok (.aload_n 0, 1) := by decide +kernel
theorem dl_1027 : decode code 1027 = .ok (.iload_n 3, 1) := by decide +kernel
theorem dl_1028 : decode code 1028 = .ok (.iconst 2, 1) := by decide +kernel
theorem dl_1029 : decode code 1029 = .ok (.iadd, 1) := by decide +kernel
theorem dl_1030 : decode code 1030 = .ok (.iaload, 1) := by decide +kernel
theorem dl_1031 : decode code 1031 = .ok (.invokevirtual 112, 3) := by decide +kernel
theorem dl_1034 : decode code 1034 = .ok (.aload_n 2, 1) := by decide +kernel
theorem dl_1035 : decode code 1035 = .ok (.aload_n 0, 1) := by decide +kernel
theorem dl_1036 : decode code 1036 = .ok (.iload_n 3, 1) := by decide +kernel
theorem dl_1037 : decode code 1037 = .ok (.iconst 1, 1) := by decide +kernel
theorem dl_1038 : decode code 1038 = .ok (.iadd, 1) := by decide +kernel
theorem dl_1039 : decode code 1039 = .ok (.iaload, 1) := by decide +kernel
theorem dl_1040 : decode code 1040 = .ok (.aload_n 0, 1) := by decide +kernel
theorem dl_1041 : decode code 1041 = .ok (.iload_n 3, 1) := by decide +kernel
theorem dl_1042 : decode code 1042 = .ok (.iconst 2, 1) := by decide +kernel
theorem dl_1043 : decode code 1043 = .ok (.iadd, 1) := by decide +kernel
theorem dl_1044 : decode code 1044 = .ok (.iaload, 1) := by decide +kernel
theorem dl_1045 : decode code 1045 = .ok (.invokevirtual 115, 3) := by decide +kernel
theorem dl_1048 : decode code 1048 = .ok (.if_icmp .eq 1086, 3) := by decide +kernel
theorem dl_1053 : decode code 1053 = .ok (.aload_n 1, 1) := by decide +kernel
theorem dl_1054 : decode code 1054 = .ok (.aload_n 0, 1) := by decide +kernel
theorem dl_1055 : decode code 1055 = .ok (.iload_n 3, 1) := by decide +kernel
theorem dl_1056 : decode code 1056 = .ok (.iconst 1, 1) := by decide +kernel
theorem dl_1057 : decode code 1057 = .ok (.iadd, 1) := by decide +kernel
theorem dl_1058 : decode code 1058 = .ok (.iaload, 1) := by decide +kernel
theorem dl_1059 : decode code 1059 = .ok (.aload_n 0, 1) := by decide +kernel
theorem dl_1060 : decode code 1060 = .ok (.iload_n 3, 1) := by decide +kernel
theorem dl_1061 : decode code 1061 = .ok (.iconst 2, 1) := by decide +kernel
theorem dl_1062 : decode code 1062 = .ok (.iadd, 1) := by decide +kernel
theorem dl_1063 : decode code 1063 = .ok (.iaload, 1) := by decide +kernel
theorem dl_1064 : decode code 1064 = .ok (.aload_n 0, 1) := by decide +kernel
theorem dl_1065 : decode code 1065 = .ok (.iload_n 3, 1) := by decide +kernel
theorem dl_1066 : decode code 1066 = .ok (.iconst 3, 1) := by decide +kernel
theorem dl_1067 : decode code 1067 = .ok (.iadd, 1) := by decide +kernel
theorem dl_1068 : decode code 1068 = .ok (.iaload, 1) := by decide +kernel
theorem dl_1069 : decode code 1069 = .ok (.aload_n 0, 1) := by decide +kernel
theorem dl_1070 : decode code 1070 = .ok (.iload_n 3, 1) := by decide +kernel
theorem dl_1071 : decode code 1071 = .ok (.iconst 4, 1) := by decide +kernel
theorem dl_1072 : decode code 1072 = .ok (.iadd, 1) := by decide +kernel
theorem dl_1073 : decode code 1073 = .ok (.iaload, 1) := by decide +kernel
theorem dl_1074 : decode code 1074 = .ok (.invokevirtual 116, 3) := by decide +kernel
theorem dl_1077 : decode code 1077 = .ok (.aload_n 2, 1) := by decide +kernel
theorem dl_1078 : decode code 1078 = .ok (.aload_n 0, 1) := by decide +kernel
theorem dl_1079 : decode code 1079 = .ok (.iload_n 3, 1) := by decide +kernel
theorem dl_1080 : decode code 1080 = .ok (.iconst 1, 1) := by decide +kernel
theorem dl_1081 : decode code 1081 = .ok (.iadd, 1) := by decide +kernel
theorem dl_1082 : decode code 1082 = .ok (.iaload, 1) := by decide +kernel
theorem dl_1083 : decode code 1083 = .ok (.aload_n 0, 1) := by decide +kernel
theorem dl_1084 : decode code 1084 = .ok (.iload_n 3, 1) := by decide +kernel
theorem dl_1085 : decode code 1085 = .ok (.iconst 2, 1) := by decide +kernel
theorem dl_1086 : decode code 1086 = .ok (.iadd, 1) := by decide +kernel
theorem dl_1087 : decode code 1087 = .ok (.iaload, 1) := by decide +kernel
theorem dl_1088 : decode code 1088 = .ok (.aload_n 0, 1) := by decide +kernel
theorem dl_1089 : decode code 1089 = .ok (.iload_n 3, 1) := by decide +kernel
theorem dl_1090 : decode code 1090 = .ok (.iconst 3, 1) := by decide +kernel
theorem dl_1091 : decode code 1091 = .ok (.iadd, 1) := by decide +kernel
theorem dl_1092 : decode code 1092 = .ok (.iaload, 1) := by decide +kernel
theorem dl_1093 : decode code 1093 = .ok (.aload_n 0, 1) := by decide +kernel
theorem dl_1094 : decode code 1094 = .ok (.iload_n 3, 1) := by decide +kernel
theorem dl_1095 : decode code 1095 = .ok (.iconst 4, 1) := by decide +kernel
theorem dl_1096 : decode code 1096 = .ok (.iadd, 1) := by decide +kernel
theorem dl_1097 : decode code 1097 = .ok (.iaload, 1) := by decide +kernel
theorem dl_1098 : decode code 1098 = .ok (.invokevirtual 120, 3) := by decide +kernel
theorem dl_1101 : decode code 1101 = .ok (.if_icmp .eq 1033, 3) := by decide +kernel
theorem dl_1106 : decode code 1106 = .ok (.aload_n 1, 1) := by decide +kernel
theorem dl_1107 : decode code 1107 = .ok (.aload_n 0, 1) := by decide +kernel
theorem dl_1108 : decode code 1108 = .ok (.iload_n 3, 1) := by decide +kernel
theorem dl_1109 : decode code 1109 = .ok (.iconst 1, 1) := by decide +kernel
theorem dl_1110 : decode code 1110 = .ok (.iadd, 1) := by decide +kernel
theorem dl_1111 : decode code 1111 = .ok (.iaload, 1) := by decide +kernel
theorem dl_1112 : decode code 1112 = .ok (.aload_n 0, 1) := by decide +kernel
theorem dl_1113 : decode code 1113 = .ok (.iload_n 3, 1) := by decide +kernel
theorem dl_1114 : decode code 1114 = .ok (.iconst 2, 1) := by decide +kernel
theorem dl_1115 : decode code 1115 = .ok (.iadd, 1) := by decide +kernel
theorem dl_1116 : decode code 1116 = .ok (.iaload, 1) := by decide +kernel
theorem dl_1117 : decode code 1117 = .ok (.aload_n 0, 1) := by decide +kernel
theorem dl_1118 : decode code 1118 = .ok (.iload_n 3, 1) := by decide +kernel
theorem dl_1119 : decode code 1119 = .ok (.iconst 3, 1) := by decide +kernel
theorem dl_1120 : decode code 1120 = .ok (.iadd, 1) := by decide +kernel
theorem dl_1121 : decode code 1121 = .ok (.iaload, 1) := by decide +kernel
theorem dl_1122 : decode code 1122 = .ok (.aload_n 0, 1) := by decide +kernel
theorem dl_1123 : decode code 1123 = .ok (.iload_n 3, 1) := by decide +kernel
theorem dl_1124 : decode code 1124 = .ok (.iconst 4, 1) := by decide +kernel
theorem dl_1125 : decode code 1125 = .ok (.iadd, 1) := by decide +kernel
theorem dl_1126 : decode code 1126 = .ok (.iaload, 1) := by decide +kernel
theorem dl_1127 : decode code 1127 = .ok (.invokevirtual 121, 3) := by decide +kernel
theorem dl_1130 : decode code 1130 = .ok (.aload_n 2, 1) := by decide +kernel
theorem dl_1131 : decode code 1131 = .ok (.aload_n 0, 1) := by decide +kernel
theorem dl_1132 : decode code 1132 = .ok (.iload_n 3, 1) := by decide +kernel
theorem dl_1133 : decode code 1133 = .ok (.iconst 1, 1) := by decide +kernel
theorem dl_1134 : decode code 1134 = .ok (.iadd, 1) := by decide +kernel
theorem dl_1135 : decode code 1135 = .ok (.iaload, 1) := by decide +kernel
theorem dl_1136 : decode code 1136 = .ok (.aload_n 0, 1) := by decide +kernel
theorem dl_1137 : decode code 1137 = .ok (.iload_n 3, 1) := by decide +kernel
theorem dl_1138 : decode code 1138 = .ok (.iconst 2, 1) := by decide +kernel
theorem dl_1139 : decode code 1139 = .ok (.iadd, 1) := by decide +kernel
theorem dl_1140 : decode code 1140 = .ok (.iaload, 1) := by decide +kernel
theorem dl_1141 : decode code 1141 = .ok (.aload_n 0, 1) := by decide +kernel
theorem dl_1142 : decode code 1142 = .ok (.iload_n 3, 1) := by decide +kernel
theorem dl_1143 : decode code 1143 = .ok (.iconst 3, 1) := by decide +kernel
theorem dl_1144 : decode code 1144 = .ok (.iadd, 1) := by decide +kernel
theorem dl_1145 : decode code 1145 = .ok (.iaload, 1) := by decide +kernel
theorem dl_1146 : decode code 1146 = .ok (.aload_n 0, 1) := by decide +kernel
theorem dl_1147 : decode code 1147 = .ok (.iload_n 3, 1) := by decide +kernel
theorem dl_1148 : decode code 1148 = .ok (.iconst 4, 1) := by decide +kernel
theorem dl_1149 : decode code 1149 = .ok (.iadd, 1) := by decide +kernel
theorem dl_1150 : decode code 1150 = .ok (.iaload, 1) := by decide +kernel
theorem dl_1151 : decode code 1151 = .ok (.invokevirtual 124, 3) := by decide +kernel
theorem dl_1154 : decode code 1154 = .ok (.if_icmp .eq 980, 3) := by decide +kernel
theorem dl_1159 : decode code 1159 = .ok (.aload_n 1, 1) := by decide +kernel
theorem dl_1160 : decode code 1160 = .ok (.aload_n 0, 1) := by decide +kernel
theorem dl_1161 : decode code 1161 = .ok (.iload_n 3, 1) := by decide +kernel
theorem dl_1162 : decode code 1162 = .ok (.iconst 1, 1) := by decide +kernel
theorem dl_1163 : decode code 1163 = .ok (.iadd, 1) := by decide +kernel
theorem dl_1164 : decode code 1164 = .ok (.iaload, 1) := by decide +kernel
theorem dl_1165 : decode code 1165 = .ok (.aload_n 0, 1) := by decide +kernel
theorem dl_1166 : decode code 1166 = .ok (.iload_n 3, 1) := by decide +kernel
theorem dl_1167 : decode code 1167 = .ok (.iconst 2, 1) := by decide +kernel
theorem dl_1168 : decode code 1168 = .ok (.iadd, 1) := by decide +kernel
theorem dl_1169 : decode code 1169 = .ok (.iaload, 1) := by decide +kernel
theorem dl_1170 : decode code 1170 = .ok (.invokevirtual 125, 3) := by decide +kernel
theorem dl_1173 : decode code 1173 = .ok (.aload_n 2, 1) := by decide +kernel
theorem dl_1174 : decode code 1174 = .ok (.aload_n 0, 1) := by decide +kernel
theorem dl_1175 : decode code 1175 = .ok (.iload_n 3, 1) := by decide +kernel
theorem dl_1176 : decode code 1176 = .ok (.iconst 1, 1) := by decide +kernel
theorem dl_1177 : decode code 1177 = .ok (.iadd, 1) := by decide +kernel
theorem dl_1178 : decode code 1178 = .ok (.iaload, 1) := by decide +kernel
theorem dl_1179 : decode code 1179 = .ok (.aload_n 0, 1) := by decide +kernel
theorem dl_1180 : decode code 1180 = .ok (.iload_n 3, 1) := by decide +kernel
theorem dl_1181 : decode code 1181 = .ok (.iconst 2, 1) := by decide +kernel
theorem dl_1182 : decode code 1182 = .ok (.iadd, 1) := by decide +kernel
theorem dl_1183 : decode code 1183 = .ok (.iaload, 1) := by decide +kernel
theorem dl_1184 : decode code 1184 = .ok (.invokevirtual 128, 3) := by decide +kernel
theorem dl_1187 : decode code 1187 = .ok (.if_icmp .eq 947, 3) := by decide +kernel
theorem dl_1192 : decode code 1192 = .ok (.aload_n 1, 1) := by decide +kernel
theorem dl_1193 : decode code 1193 = .ok (.aload_n 0, 1) := by decide +kernel
theorem dl_1194 : decode code 1194 = .ok (.iload_n 3, 1) := by decide +kernel
theorem dl_1195 : decode code 1195 = .ok (.iconst 1, 1) := by decide +kernel
theorem dl_1196 : decode code 1196 = .ok (.iadd, 1) := by decide +kernel
theorem dl_1197 : decode code 1197 = .ok (.iaload, 1) := by decide +kernel
theorem dl_1198 : decode code 1198 = .ok (.aload_n 0, 1) := by decide +kernel
theorem dl_1199 : decode code 1199 = .ok (.iload_n 3, 1) := by decide +kernel
theorem dl_1200 : decode code 1200 = .ok (.iconst 2, 1) := by decide +kernel
theorem dl_1201 : decode code 1201 = .ok (.iadd, 1) := by decide +kernel
theorem dl_1202 : decode code 1202 = .ok (.iaload, 1) := by decide +kernel
theorem dl_1203 : decode code 1203 = .ok (.aload_n 0, 1) := by decide +kernel
theorem dl_1204 : decode code 1204 = .ok (.iload_n 3, 1) := by decide +kernel
theorem dl_1205 : decode code 1205 = .ok (.iconst 3, 1) := by decide +kernel
theorem dl_1206 : decode code 1206 = .ok (.iadd, 1) := by decide +kernel
theorem dl_1207 : decode code 1207 = .ok (.iaload, 1) := by decide +kernel
theorem dl_1208 : decode code 1208 = .ok (.invokevirtual 129, 3) := by decide +kernel
theorem dl_1211 : decode code 1211 = .ok (.aload_n 2, 1) := by decide +kernel
theorem dl_1212 : decode code 1212 = .ok (.aload_n 0, 1) := by decide +kernel
theorem dl_1213 : decode code 1213 = .ok (.iload_n 3, 1) := by decide +kernel
theorem dl_1214 : decode code 1214 = .ok (.iconst 1, 1) := by decide +kernel
theorem dl_1215 : decode code 1215 = .ok (.iadd, 1) := by decide +kernel
theorem dl_1216 : decode code 1216 = .ok (.iaload, 1) := by decide +kernel
theorem dl_1217 : decode code 1217 = .ok (.aload_n 0, 1) := by decide +kernel
theorem dl_1218 : decode code 1218 = .ok (.iload_n 3, 1) := by decide +kernel
theorem dl_1219 : decode code 1219 = .ok (.iconst 2, 1) := by decide +kernel
theorem dl_1220 : decode code 1220 = .ok (.iadd, 1) := by decide +kernel
theorem dl_1221 : decode code 1221 = .ok (.iaload, 1) := by decide +kernel
theorem dl_1222 : decode code 1222 = .ok (.aload_n 0, 1) := by decide +kernel
theorem dl_1223 : decode code 1223 = .ok (.iload_n 3, 1) := by decide +kernel
theorem dl_1224 : decode code 1224 = .ok (.iconst 3, 1) := by decide +kernel
theorem dl_1225 : decode code 1225 = .ok (.iadd, 1) := by decide +kernel
theorem dl_1226 : decode code 1226 = .ok (.iaload, 1) := by decide +kernel
theorem dl_1227 : decode code 1227 = .ok (.invokevirtual 133, 3) := by decide +kernel
theorem dl_1230 : decode code 1230 = .ok (.if_icmp .eq 904, 3) := by decide +kernel
theorem dl_1235 : decode code 1235 = .ok (.aload_n 1, 1) := by decide +kernel
theorem dl_1236 : decode code 1236 = .ok (.aload_n 0, 1) := by decide +kernel
theorem dl_1237 : decode code 1237 = .ok (.iload_n 3, 1) := by decide +kernel
theorem dl_1238 : decode code 1238 = .ok (.iconst 1, 1) := by decide +kernel
theorem dl_1239 : decode code 1239 = .ok (.iadd, 1) := by decide +kernel
theorem dl_1240 : decode code 1240 = .ok (.iaload, 1) := by decide +kernel
theorem dl_1241 : decode code 1241 = .ok (.aload_n 0, 1) := by decide +kernel
theorem dl_1242 : decode code 1242 = .ok (.iload_n 3, 1) := by decide +kernel
theorem dl_1243 : decode code 1243 = .ok (.iconst 2, 1) := by decide +kernel
theorem dl_1244 : decode code 1244 = .ok (.iadd, 1) := by decide +kernel
theorem dl_1245 : decode code 1245 = .ok (.iaload, 1) := by decide +kernel
theorem dl_1246 : decode code 1246 = .ok (.invokevirtual 134, 3) := by decide +kernel
theorem dl_1249 : decode code 1249 = .ok (.aload_n 2, 1) := by decide +kernel
theorem dl_1250 : decode code 1250 = .ok (.aload_n 0, 1) := by decide +kernel
theorem dl_1251 : decode code 1251 = .ok (.iload_n 3, 1) := by decide +kernel
theorem dl_1252 : decode code 1252 = .ok (.iconst 1, 1) := by decide +kernel
theorem dl_1253 : decode code 1253 = .ok (.iadd, 1) := by decide +kernel
theorem dl_1254 : decode code 1254 = .ok (.iaload, 1) := by decide +kernel
theorem dl_1255 : decode code 1255 = .ok (.aload_n 0, 1) := by decide +kernel
theorem dl_1256 : decode code 1256 = .ok (.iload_n 3, 1) := by decide +kernel
theorem dl_1257 : decode code 1257 = .ok (.iconst 2, 1) := by decide +kernel
theorem dl_1258 : decode code 1258 = .ok (.iadd, 1) := by decide +kernel
theorem dl_1259 : decode code 1259 = .ok (.iaload, 1) := by decide +kernel
theorem dl_1260 : decode code 1260 = .ok (.invokevirtual 137, 3) := by decide +kernel
theorem dl_1263 : decode code 1263 = .ok (.if_icmp .eq 871, 3) := by decide +kernel
theorem dl_1268 : decode code 1268 = .ok (.aload_n 1, 1) := by decide +kernel
theorem dl_1269 : decode code 1269 = .ok (.aload_n 0, 1) := by decide +kernel
