theorem dl999 : decode code 999 = .ok (.iconst 0, 1) := by decide +kernel
theorem dl1000 : decode code 1000 = .ok (.ireturn, 1) := by decide +kernel
theorem dl1001 : decode code 1001 = .ok (.aload_n 1, 1) := by decide +kernel
theorem dl1002 : decode code 1002 = .ok (.aload_n 0, 1) := by decide +kernel
theorem dl1003 : decode code 1003 = .ok (.iload_n 3, 1) := by decide +kernel
theorem dl1004 : decode code 1004 = .ok (.iconst 1, 1) := by decide +kernel
theorem dl1005 : decode code 1005 = .ok (.iadd, 1) := by decide +kernel
theorem dl1006 : decode code 1006 = .ok (.iaload, 1) := by decide +kernel
theorem dl1007 : decode code 1007 = .ok (.invokevirtual 117, 3) := by decide +kernel
theorem dl1010 : decode code 1010 = .ok (.aload_n 2, 1) := by decide +kernel
theorem dl1011 : decode code 1011 = .ok (.aload_n 0, 1) := by decide +kernel
theorem dl1012 : decode code 1012 = .ok (.iload_n 3, 1) := by decide +kernel
theorem dl1013 : decode code 1013 = .ok (.iconst 1, 1) := by decide +kernel
theorem dl1014 : decode code 1014 = .ok (.iadd, 1) := by decide +kernel
theorem dl1015 : decode code 1015 = .ok (.iaload, 1) := by decide +kernel
theorem dl1016 : decode code 1016 = .ok (.invokevirtual 120, 3) := by decide +kernel
theorem dl1019 : decode code 1019 = .ok (.if_icmp .eq 756, 3) := by decide +kernel
theorem dl1022 : decode code 1022 = .ok (.iconst 0, 1) := by decide +kernel
theorem dl1023 : decode code 1023 = .ok (.ireturn, 1) := by decide +kernel
theorem dl1024 : decode code 1024 = .ok (.aload_n 1, 1) := by decide +kernel
theorem dl1025 : decode code 1025 = .ok (.aload_n 0, 1) := by decide +kernel
theorem dl1026 : decode code 1026 = .ok (.iload_n 3, 1) := by decide +kernel
theorem dl1027 : decode code 1027 = .ok (.iconst 1, 1) := by decide +kernel
theorem dl1028 : decode code 1028 = .ok (.iadd, 1) := by decide +kernel
theorem dl1029 : decode code 1029 = .ok (.iaload, 1) := by decide +kernel
theorem dl1030 : decode code 1030 = .ok (.invokevirtual 121, 3) := by decide +kernel
theorem dl1033 : decode code 1033 = .ok (.aload_n 2, 1) := by decide +kernel
theorem dl1034 : decode code 1034 = .ok (.aload_n 0, 1) := by decide +kernel
theorem dl1035 : decode code 1035 = .ok (.iload_n 3, 1) := by decide +kernel
theorem dl1036 : decode code 1036 = .ok (.iconst 1, 1) := by decide +kernel
theorem dl1037 : decode code 1037 = .ok (.iadd, 1) := by decide +kernel
theorem dl1038 : decode code 1038 = .ok (.iaload, 1) := by decide +kernel
theorem dl1039 : decode code 1039 = .ok (.invokevirtual 124, 3) := by decide +kernel
theorem dl1042 : decode code 1042 = .ok (.if_icmp .eq 733, 3) := by decide +kernel
theorem dl1045 : decode code 1045 = .ok (.iconst 0, 1) := by decide +kernel
theorem dl1046 : decode code 1046 = .ok (.ireturn, 1) := by decide +kernel
theorem dl1047 : decode code 1047 = .ok (.aload_n 1, 1) := by decide +kernel
theorem dl1048 : decode code 1048 = .ok (.aload_n 0, 1) := by decide +kernel
theorem dl1049 : decode code 1049 = .ok (.iload_n 3, 1) := by decide +kernel
theorem dl1050 : decode code 1050 = .ok (.iconst 1, 1) := by decide +kernel
theorem dl1051 : decode code 1051 = .ok (.iadd, 1) := by decide +kernel
theorem dl1052 : decode code 1052 = .ok (.iaload, 1) := by decide +kernel
theorem dl1053 : decode code 1053 = .ok (.invokevirtual 125, 3) := by decide +kernel
theorem dl1056 : decode code 1056 = .ok (.aload_n 2, 1) := by decide +kernel
theorem dl1057 : decode code 1057 = .ok (.aload_n 0, 1) := by decide +kernel
theorem dl1058 : decode code 1058 = .ok (.iload_n 3, 1) := by decide +kernel
theorem dl1059 : decode code 1059 = .ok (.iconst 1, 1) := by decide +kernel
theorem dl1060 : decode code 1060 = .ok (.iadd, 1) := by decide +kernel
theorem dl1061 : decode code 1061 = .ok (.iaload, 1) := by decide +kernel
theorem dl1062 : decode code 1062 = .ok (.invokevirtual 128, 3) := by decide +kernel
theorem dl1065 : decode code 1065 = .ok (.if_icmp .eq 710, 3) := by decide +kernel
theorem dl1068 : decode code 1068 = .ok (.iconst 0, 1) := by decide +kernel
theorem dl1069 : decode code 1069 = .ok (.ireturn, 1) := by decide +kernel
theorem dl1070 : decode code 1070 = .ok (.aload_n 1, 1) := by decide +kernel
theorem dl1071 : decode code 1071 = .ok (.aload_n 0, 1) := by decide +kernel
theorem dl1072 : decode code 1072 = .ok (.iload_n 3, 1) := by decide +kernel
theorem dl1073 : decode code 1073 = .ok (.iconst 1, 1) := by decide +kernel
theorem dl1074 : decode code 1074 = .ok (.iadd, 1) := by decide +kernel
theorem dl1075 : decode code 1075 = .ok (.iaload, 1) := by decide +kernel
theorem dl1076 : decode code 1076 = .ok (.invokevirtual 129, 3) := by decide +kernel
theorem dl1079 : decode code 1079 = .ok (.aload_n 2, 1) := by decide +kernel
theorem dl1080 : decode code 1080 = .ok (.aload_n 0, 1) := by decide +kernel
theorem dl1081 : decode code 1081 = .ok (.iload_n 3, 1) := by decide +kernel
theorem dl1082 : decode code 1082 = .ok (.iconst 1, 1) := by decide +kernel
theorem dl1083 : decode code 1083 = .ok (.iadd, 1) := by decide +kernel
theorem dl1084 : decode code 1084 = .ok (.iaload, 1) := by decide +kernel
theorem dl1085 : decode code 1085 = .ok (.invokevirtual 132, 3) := by decide +kernel
theorem dl1088 : decode code 1088 = .ok (.if_icmp .eq 687, 3) := by decide +kernel
theorem dl1091 : decode code 1091 = .ok (.iconst 0, 1) := by decide +kernel
theorem dl1092 : decode code 1092 = .ok (.ireturn, 1) := by decide +kernel
theorem dl1093 : decode code 1093 = .ok (.aload_n 1, 1) := by decide +kernel
theorem dl1094 : decode code 1094 = .ok (.aload_n 0, 1) := by decide +kernel
theorem dl1095 : decode code 1095 = .ok (.iload_n 3, 1) := by decide +kernel
theorem dl1096 : decode code 1096 = .ok (.iconst 1, 1) := by decide +kernel
theorem dl1097 : decode code 1097 = .ok (.iadd, 1) := by decide +kernel
theorem dl1098 : decode code 1098 = .ok (.iaload, 1) := by decide +kernel
theorem dl1099 : decode code 1099 = .ok (.aload_n 0, 1) := by decide +kernel
theorem dl1100 : decode code 1100 = .ok (.iload_n 3, 1) := by decide +kernel
theorem dl1101 : decode code 1101 = .ok (.iconst 2, 1) := by decide +kernel
theorem dl1102 : decode code 1102 = .ok (.iadd, 1) := by decide +kernel
theorem dl1103 : decode code 1103 = .ok (.iaload, 1) := by decide +kernel
theorem dl1104 : decode code 1104 = .ok (.aload_n 0, 1) := by decide +kernel
theorem dl1105 : decode code 1105 = .ok (.iload_n 3, 1) := by decide +kernel
theorem dl1106 : decode code 1106 = .ok (.iconst 3, 1) := by decide +kernel
theorem dl1107 : decode code 1107 = .ok (.iadd, 1) := by decide +kernel
theorem dl1108 : decode code 1108 = .ok (.iaload, 1) := by decide +kernel
theorem dl1109 : decode code 1109 = .ok (.invokevirtual 133, 3) := by decide +kernel
theorem dl1112 : decode code 1112 = .ok (.aload_n 2, 1) := by decide +kernel
theorem dl1113 : decode code 1113 = .ok (.aload_n 0, 1) := by decide +kernel
theorem dl1114 : decode code 1114 = .ok (.iload_n 3, 1) := by decide +kernel
theorem dl1115 : decode code 1115 = .ok (.iconst 1, 1) := by decide +kernel
theorem dl1116 : decode code 1116 = .ok (.iadd, 1) := by decide +kernel
theorem dl1117 : decode code 1117 = .ok (.iaload, 1) := by decide +kernel
theorem dl1118 : decode code 1118 = .ok (.aload_n 0, 1) := by decide +kernel
theorem dl1119 : decode code 1119 = .ok (.iload_n 3, 1) := by decide +kernel
theorem dl1120 : decode code 1120 = .ok (.iconst 2, 1) := by decide +kernel
theorem dl1121 : decode code 1121 = .ok (.iadd, 1) := by decide +kernel
theorem dl1122 : decode code 1122 = .ok (.iaload, 1) := by decide +kernel
theorem dl1123 : decode code 1123 = .ok (.aload_n 0, 1) := by decide +kernel
theorem dl1124 : decode code 1124 = .ok (.iload_n 3, 1) := by decide +kernel
theorem dl1125 : decode code 1125 = .ok (.iconst 3, 1) := by decide +kernel
theorem dl1126 : decode code 1126 = .ok (.iadd, 1) := by decide +kernel
theorem dl1127 : decode code 1127 = .ok (.iaload, 1) := by decide +kernel
theorem dl1128 : decode code 1128 = .ok (.invokevirtual 136, 3) := by decide +kernel
theorem dl1131 : decode code 1131 = .ok (.if_icmp .eq 644, 3) := by decide +kernel
theorem dl1134 : decode code 1134 = .ok (.iconst 0, 1) := by decide +kernel
theorem dl1135 : decode code 1135 = .ok (.ireturn, 1) := by decide +kernel
theorem dl1136 : decode code 1136 = .ok (.aload_n 1, 1) := by decide +kernel
theorem dl1137 : decode code 1137 = .ok (.aload_n 0, 1) := by decide +kernel
theorem dl1138 : decode code 1138 = .ok (.iload_n 3, 1) := by decide +kernel
theorem dl1139 : decode code 1139 = .ok (.iconst 1, 1) := by decide +kernel
theorem dl1140 : decode code 1140 = .ok (.iadd, 1) := by decide +kernel
theorem dl1141 : decode code 1141 = .ok (.iaload, 1) := by decide +kernel
theorem dl1142 : decode code 1142 = .ok (.aload_n 0, 1) := by decide +kernel
theorem dl1143 : decode code 1143 = .ok (.iload_n 3, 1) := by decide +kernel
theorem dl1144 : decode code 1144 = .ok (.iconst 2, 1) := by decide +kernel
theorem dl1145 : decode code 1145 = .ok (.iadd, 1) := by decide +kernel
theorem dl1146 : decode code 1146 = .ok (.iaload, 1) := by decide +kernel
theorem dl1147 : decode code 1147 = .ok (.aload_n 0, 1) := by decide +kernel
theorem dl1148 : decode code 1148 = .ok (.iload_n 3, 1) := by decide +kernel
theorem dl1149 : decode code 1149 = .ok (.iconst 3, 1) := by decide +kernel
theorem dl1150 : decode code 1150 = .ok (.iadd, 1) := by decide +kernel
theorem dl1151 : decode code 1151 = .ok (.iaload, 1) := by decide +kernel
theorem dl1152 : decode code 1152 = .ok (.invokevirtual 137, 3) := by decide +kernel
theorem dl1155 : decode code 1155 = .ok (.aload_n 2, 1) := by decide +kernel
theorem dl1156 : decode code 1156 = .ok (.aload_n 0, 1) := by decide +kernel
theorem dl1157 : decode code 1157 = .ok (.iload_n 3, 1) := by decide +kernel
theorem dl1158 : decode code 1158 = .ok (.iconst 1, 1) := by decide +kernel
theorem dl1159 : decode code 1159 = .ok (.iadd, 1) := by decide +kernel
theorem dl1160 : decode code 1160 = .ok (.iaload, 1) := by decide +kernel
theorem dl1161 : decode code 1161 = .ok (.aload_n 0, 1) := by decide +kernel
theorem dl1162 : decode code 1162 = .ok (.iload_n 3, 1) := by decide +kernel
theorem dl1163 : decode code 1163 = .ok (.iconst 2, 1) := by decide +kernel
theorem dl1164 : decode code 1164 = .ok (.iadd, 1) := by decide +kernel
theorem dl1165 : decode code 1165 = .ok (.iaload, 1) := by decide +kernel
theorem dl1166 : decode code 1166 = .ok (.aload_n 0, 1) := by decide +kernel
theorem dl1167 : decode code 1167 = .ok (.iload_n 3, 1) := by decide +kernel
theorem dl1168 : decode code 1168 = .ok (.iconst 3, 1) := by decide +kernel
theorem dl1169 : decode code 1169 = .ok (.iadd, 1) := by decide +kernel
theorem dl1170 : decode code 1170 = .ok (.iaload, 1) := by decide +kernel
theorem dl1171 : decode code 1171 = .ok (.invokevirtual 140, 3) := by decide +kernel
theorem dl1174 : decode code 1174 = .ok (.if_icmp .eq 601, 3) := by decide +kernel
theorem dl1177 : decode code 1177 = .ok (.iconst 0, 1) := by decide +kernel
theorem dl1178 : decode code 1178 = .ok (.ireturn, 1) := by decide +kernel
theorem dl1179 : decode code 1179 = .ok (.aload_n 1, 1) := by decide +kernel
theorem dl1180 : decode code 1180 = .ok (.aload_n 0, 1) := by decide +kernel
theorem dl1181 : decode code 1181 = .ok (.iload_n 3, 1) := by decide +kernel
theorem dl1182 : decode code 1182 = .ok (.iconst 1, 1) := by decide +kernel
theorem dl1183 : decode code 1183 = .ok (.iadd, 1) := by decide +kernel
theorem dl1184 : decode code 1184 = .ok (.iaload, 1) := by decide +kernel
theorem dl1185 : decode code 1185 = .ok (.invokevirtual 141, 3) := by decide +kernel
theorem dl1188 : decode code 1188 = .ok (.aload_n 2, 1) := by decide +kernel
theorem dl1189 : decode code 1189 = .ok (.aload_n 0, 1) := by decide +kernel
theorem dl1190 : decode code 1190 = .ok (.iload_n 3, 1) := by decide +kernel
theorem dl1191 : decode code 1191 = .ok (.iconst 1, 1) := by decide +kernel
theorem dl1192 : decode code 1192 = .ok (.iadd, 1) := by decide +kernel
theorem dl1193 : decode code 1193 = .ok (.iaload, 1) := by decide +kernel
theorem dl1194 : decode code 1194 = .ok (.invokevirtual 144, 3) := by decide +kernel
theorem dl1197 : decode code 1197 = .ok (.if_icmp .eq 578, 3) := by decide +kernel
theorem dl1200 : decode code 1200 = .ok (.iconst 0, 1) := by decide +kernel
theorem dl1201 : decode code 1201 = .ok (.ireturn, 1) := by decide +kernel
theorem dl1202 : decode code 1202 = .ok (.aload_n 1, 1) := by decide +kernel
theorem dl1203 : decode code 1203 = .ok (.invokevirtual 145, 3) := by decide +kernel
theorem dl1206 : decode code 1206 = .ok (.aload_n 2, 1) := by decide +kernel
theorem dl1207 : decode code 1207 = .ok (.invokevirtual 148, 3) := by decide +kernel
theorem dl1210 : decode code 1210 = .ok (.if_icmp .eq 565, 3) := by decide +kernel
theorem dl1213 : decode code 1213 = .ok (.iconst 0, 1) := by decide +kernel
theorem dl1214 : decode code 1214 = .ok (.ireturn, 1) := by decide +kernel
theorem dl1215 : decode code 1215 = .ok (.aload_n 1, 1) := by decide +kernel
theorem dl1216 : decode code 1216 = .ok (.aload_n 0, 1) := by decide +kernel
theorem dl1217 : decode code 1217 = .ok (.iload_n 3, 1) := by decide +kernel
theorem dl1218 : decode code 1218 = .ok (.iconst 1, 1) := by decide +kernel
theorem dl1219 : decode code 1219 = .ok (.iadd, 1) := by decide +kernel
theorem dl1220 : decode code 1220 = .ok (.iaload, 1) := by decide +kernel
theorem dl1221 : decode code 1221 = .ok (.aload_n 0, 1) := by decide +kernel
theorem dl1222 : decode code 1222 = .ok (.iload_n 3, 1) := by decide +kernel
theorem dl1223 : decode code 1223 = .ok (.iconst 2, 1) := by decide +kernel
theorem dl1224 : decode code 1224 = .ok (.iadd, 1) := by decide +kernel
theorem dl1225 : decode code 1225 = .ok (.iaload, 1) := by decide +kernel
theorem dl1226 : decode code 1226 = .ok (.aload_n 0, 1) := by decide +kernel
theorem dl1227 : decode code 1227 = .ok (.iload_n 3, 1) := by decide +kernel
theorem dl1228 : decode code 1228 = .ok (.iconst 3, 1) := by decide +kernel
theorem dl1229 : decode code 1229 = .ok (.iadd, 1) := by decide +kernel
theorem dl1230 : decode code 1230 = .ok (.iaload, 1) := by decide +kernel
theorem dl1231 : decode code 1231 = .ok (.invokevirtual 149, 3) := by decide +kernel
theorem dl1234 : decode code 1234 = .ok (.aload_n 2, 1) := by decide +kernel
theorem dl1235 : decode code 1235 = .ok (.aload_n 0, 1) := by decide +kernel
theorem dl1236 : decode code 1236 = .ok (.iload_n 3, 1) := by decide +kernel
theorem dl1237 : decode code 1237 = .ok (.iconst 1, 1) := by decide +kernel
theorem dl1238 : decode code 1238 = .ok (.iadd, 1) := by decide +kernel
theorem dl1239 : decode code 1239 = .ok (.iaload, 1) := by decide +kernel
theorem dl1240 : decode code 1240 = .ok (.aload_n 0, 1) := by decide +kernel
theorem dl1241 : decode code 1241 = .ok (.iload_n 3, 1) := by decide +kernel
theorem dl1242 : decode code 1242 = .ok (.iconst 2, 1) := by decide +kernel
theorem dl1243 : decode code 1243 = .ok (.iadd, 1) := by decide +kernel
theorem dl1244 : decode code 1244 = .ok (.iaload, 1) := by decide +kernel
theorem dl1245 : decode code 1245 = .ok (.aload_n 0, 1) := by decide +kernel
theorem dl1246 : decode code 1246 = .ok (.iload_n 3, 1) := by decide +kernel
theorem dl1247 : decode code 1247 = .ok (.iconst 3, 1) := by decide +kernel
theorem dl1248 : decode code 1248 = .ok (.iadd, 1) := by decide +kernel
theorem dl1249 : decode code 1249 = .ok (.iaload, 1) := by decide +kernel
theorem dl1250 : decode code 1250 = .ok (.invokevirtual 152, 3) := by decide +kernel
theorem dl1253 : decode code 1253 = .ok (.if_icmp .eq 522, 3) := by decide +kernel
theorem dl1256 : decode code 1256 = .ok (.iconst 0, 1) := by decide +kernel
theorem dl1257 : decode code 1257 = .ok (.ireturn, 1) := by decide +kernel
theorem dl1258 : decode code 1258 = .ok (.aload_n 1, 1) := by decide +kernel
theorem dl1259 : decode code 1259 = .ok (.aload_n 0, 1) := by decide +kernel
theorem dl1260 : decode code 1260 = .ok (.iload_n 3, 1) := by decide +kernel
theorem dl1261 : decode code 1261 = .ok (.iconst 1, 1) := by decide +kernel
theorem dl1262 : decode code 1262 = .ok (.iadd, 1) := by decide +kernel
theorem dl1263 : decode code 1263 = .ok (.iaload, 1) := by decide +kernel
theorem dl1264 : decode code 1264 = .ok (.aload_n 0, 1) := by decide +kernel
theorem dl1265 : decode code 1265 = .ok (.iload_n 3, 1) := by decide +kernel
theorem dl1266 : decode code 1266 = .ok (.iconst 2, 1) := by decide +kernel
theorem dl1267 : decode code 1267 = .ok (.iadd, 1) := by decide +kernel
theorem dl1268 : decode code 1268 = .ok (.iaload, 1) := by decide +kernel
theorem dl1269 : decode code 1269 = .ok (.aload_n 0, 1) := by decide +kernel
theorem dl1270 : decode code 1270 = .ok (.iload_n 3, 1) := by decide +kernel
theorem dl1271 : decode code 1271 = .ok (.iconst 3, 1) := by decide +kernel
theorem dl1272 : decode code 1272 = .ok (.iadd, 1) := by decide +kernel
theorem dl1273 : decode code 1273 = .ok (.iaload, 1) := by decide +kernel
theorem dl1274 : decode code 1274 = .ok (.invokevirtual 153, 3) := by decide +kernel
theorem dl1277 : decode code 1277 = .ok (.aload_n 2, 1) := by decide +kernel
theorem dl1278 : decode code 1278 = .ok (.aload_n 0, 1) := by decide +kernel
theorem dl1279 : decode code 1279 = .ok (.iload_n 3, 1) := by decide +kernel
theorem dl1280 : decode code 1280 = .ok (.iconst 1, 1) := by decide +kernel
theorem dl1281 : decode code 1281 = .ok (.iadd, 1) := by decide +kernel
theorem dl1282 : decode code 1282 = .ok (.iaload, 1) := by decide +kernel
theorem dl1283 : decode code 1283 = .ok (.aload_n 0, 1) := by decide +kernel
theorem dl1284 : decode code 1284 = .ok (.iload_n 3, 1) := by decide +kernel
theorem dl1285 : decode code 1285 = .ok (.iconst 2, 1) := by decide +kernel
theorem dl1286 : decode code 1286 = .ok (.iadd, 1) := by decide +kernel
theorem dl1287 : decode code 1287 = .ok (.iaload, 1) := by decide +kernel
theorem dl1288 : decode code 1288 = .ok (.aload_n 0, 1) := by decide +kernel
theorem dl1289 : decode code 1289 = .ok (.iload_n 3, 1) := by decide +kernel
theorem dl1290 : decode code 1290 = .ok (.iconst 3, 1) := by decide +kernel
theorem dl1291 : decode code 1291 = .ok (.iadd, 1) := by decide +kernel
theorem dl1292 : decode code 1292 = .ok (.iaload, 1) := by decide +kernel
theorem dl1293 : decode code 1293 = .ok (.invokevirtual 156, 3) := by decide +kernel
theorem dl1296 : decode code 1296 = .ok (.if_icmp .eq 479, 3) := by decide +kernel
theorem dl1299 : decode code 1299 = .ok (.iconst 0, 1) := by decide +kernel
theorem dl1300 : decode code 1300 = .ok (.ireturn, 1) := by decide +kernel
theorem dl1301 : decode code 1301 = .ok (.aload_n 1, 1) := by decide +kernel
theorem dl1302 : decode code 1302 = .ok (.aload_n 0, 1) := by decide +kernel
theorem dl1303 : decode code 1303 = .ok (.iload_n 3, 1) := by decide +kernel
theorem dl1304 : decode code 1304 = .ok (.iconst 1, 1) := by decide +kernel
theorem dl1305 : decode code 1305 = .ok (.iadd, 1) := by decide +kernel
theorem dl1306 : decode code 1306 = .ok (.iaload, 1) := by decide +kernel
theorem dl1307 : decode code 1307 = .ok (.aload_n 0, 1) := by decide +kernel
theorem dl1308 : decode code 1308 = .ok (.iload_n 3, 1) := by decide +kernel
theorem dl1309 : decode code 1309 = .ok (.iconst 2, 1) := by decide +kernel
theorem dl1310 : decode code 1310 = .ok (.iadd, 1) := by decide +kernel
theorem dl1311 : decode code 1311 = .ok (.iaload, 1) := by decide +kernel
theorem dl1312 : decode code 1312 = .ok (.aload_n 0, 1) := by decide +kernel
theorem dl1313 : decode code 1313 = .ok (.iload_n 3, 1) := by decide +kernel
theorem dl1314 : decode code 1314 = .ok (.iconst 3, 1) := by decide +kernel
theorem dl1315 : decode code 1315 = .ok (.iadd, 1) := by decide +kernel
theorem dl1316 : decode code 1316 = .ok (.iaload, 1) := by decide +kernel
theorem dl1317 : decode code 1317 = .ok (.aload_n 0, 1) := by decide +kernel
theorem dl1318 : decode code 1318 = .ok (.iload_n 3, 1) := by decide +kernel
theorem dl1319 : decode code 1319 = .ok (.iconst 4, 1) := by decide +kernel
theorem dl1320 : decode code 1320 = .ok (.iadd, 1) := by decide +kernel
theorem dl1321 : decode code 1321 = .ok (.iaload, 1) := by decide +kernel
theorem dl1322 : decode code 1322 = .ok (.aload_n 0, 1) := by decide +kernel
theorem dl1323 : decode code 1323 = .ok (.iload_n 3, 1) := by decide +kernel
theorem dl1324 : decode code 1324 = .ok (.iconst 5, 1) := by decide +kernel
theorem dl1325 : decode code 1325 = .ok (.iadd, 1) := by decide +kernel
theorem dl1326 : decode code 1326 = .ok (.iaload, 1) := by decide +kernel
theorem dl1327 : decode code 1327 = .ok (.aload_n 0, 1) := by decide +kernel
theorem dl1328 : decode code 1328 = .ok (.iload_n 3, 1) := by decide +kernel
theorem dl1329 : decode code 1329 = .ok (.bipush 6, 2) := by decide +kernel
theorem dl1331 : decode code 1331 = .ok (.iadd, 1) := by decide +kernel
theorem dl1332 : decode code 1332 = .ok (.iaload, 1) := by decide +kernel
theorem dl1333 : decode code 1333 = .ok (.invokevirtual 157, 3) := by decide +kernel
theorem dl1336 : decode code 1336 = .ok (.aload_n 2, 1) := by decide +kernel
theorem dl1337 : decode code 1337 = .ok (.aload_n 0, 1) := by decide +kernel
theorem dl1338 : decode code 1338 = .ok (.iload_n 3, 1) := by decide +kernel
theorem dl1339 : decode code 1339 = .ok (.iconst 1, 1) := by decide +kernel
theorem dl1340 : decode code 1340 = .ok (.iadd, 1) := by decide +kernel
theorem dl1341 : decode code 1341 = .ok (.iaload, 1) := by decide +kernel
theorem dl1342 : decode code 1342 = .ok (.aload_n 0, 1) := by decide +kernel
theorem dl1343 : decode code 1343 = .ok (.iload_n 3, 1) := by decide +kernel
theorem dl1344 : decode code 1344 = .ok (.iconst 2, 1) := by decide +kernel
theorem dl1345 : decode code 1345 = .ok (.iadd, 1) := by decide +kernel
theorem dl1346 : decode code 1346 = .ok (.iaload, 1) := by decide +kernel
theorem dl1347 : decode code 1347 = .ok (.aload_n 0, 1) := by decide +kernel
theorem dl1348 : decode code 1348 = .ok (.iload_n 3, 1) := by decide +kernel
theorem dl1349 : decode code 1349 = .ok (.iconst 3, 1) := by decide +kernel
theorem dl1350 : decode code 1350 = .ok (.iadd, 1) := by decide +kernel
theorem dl1351 : decode code 1351 = .ok (.iaload, 1) := by decide +kernel
theorem dl1352 : decode code 1352 = .ok (.aload_n 0, 1) := by decide +kernel
theorem dl1353 : decode code 1353 = .ok (.iload_n 3, 1) := by decide +kernel
theorem dl1354 : decode code 1354 = .ok (.iconst 4, 1) := by decide +kernel
theorem dl1355 : decode code 1355 = .ok (.iadd, 1) := by decide +kernel
theorem dl1356 : decode code 1356 = .ok (.iaload, 1) := by decide +kernel
theorem dl1357 : decode code 1357 = .ok (.aload_n 0, 1) := by decide +kernel
theorem dl1358 : decode code 1358 = .ok (.iload_n 3, 1) := by decide +kernel
theorem dl1359 : decode code 1359 = .ok (.iconst 5, 1) := by decide +kernel
theorem dl1360 : decode code 1360 = .ok (.iadd, 1) := by decide +kernel
theorem dl1361 : decode code 1361 = .ok (.iaload, 1) := by decide +kernel
theorem dl1362 : decode code 1362 = .ok (.aload_n 0, 1) := by decide +kernel
theorem dl1363 : decode code 1363 = .ok (.iload_n 3, 1) := by decide +kernel
theorem dl1364 : decode code 1364 = .ok (.bipush 6, 2) := by decide +kernel
theorem dl1366 : decode code 1366 = .ok (.iadd, 1) := by decide +kernel
theorem dl1367 : decode code 1367 = .ok (.iaload, 1) := by decide +kernel
theorem dl1368 : decode code 1368 = .ok (.invokevirtual 161, 3) := by decide +kernel
theorem dl1371 : decode code 1371 = .ok (.if_icmp .eq 404, 3) := by decide +kernel
theorem dl1374 : decode code 1374 = .ok (.iconst 0, 1) := by decide +kernel
theorem dl1375 : decode code 1375 = .ok (.ireturn, 1) := by decide +kernel
theorem dl1376 : decode code 1376 = .ok (.aload_n 1, 1) := by decide +kernel
theorem dl1377 : decode code 1377 = .ok (.aload_n 0, 1) := by decide +kernel
theorem dl1378 : decode code 1378 = .ok (.iload_n 3, 1) := by decide +kernel
theorem dl1379 : decode code 1379 = .ok (.iconst 1, 1) := by decide +kernel
theorem dl1380 : decode code 1380 = .ok (.iadd, 1) := by decide +kernel
theorem dl1381 : decode code 1381 = .ok (.iaload, 1) := by decide +kernel
theorem dl1382 : decode code 1382 = .ok (.aload_n 0, 1) := by decide +kernel
theorem dl1383 : decode code 1383 = .ok (.iload_n 3, 1) := by decide +kernel
theorem dl1384 : decode code 1384 = .ok (.iconst 2, 1) := by decide +kernel
theorem dl1385 : decode code 1385 = .ok (.iadd, 1) := by decide +kernel
theorem dl1386 : decode code 1386 = .ok (.iaload, 1) := by decide +kernel
theorem dl1387 : decode code 1387 = .ok (.invokevirtual 162, 3) := by decide +kernel
theorem dl1390 : decode code 1390 = .ok (.aload_n 2, 1) := by decide +kernel
theorem dl1391 : decode code 1391 = .ok (.aload_n 0, 1) := by decide +kernel
theorem dl1392 : decode code 1392 = .ok (.iload_n 3, 1) := by decide +kernel
theorem dl1393 : decode code 1393 = .ok (.iconst 1, 1) := by decide +kernel
theorem dl1394 : decode code 1394 = .ok (.iadd, 1) := by decide +kernel
theorem dl1395 : decode code 1395 = .ok (.iaload, 1) := by decide +kernel
theorem dl1396 : decode code 1396 = .ok (.aload_n 0, 1) := by decide +kernel
theorem dl1397 : decode code 1397 = .ok (.iload_n 3, 1) := by decide +kernel
theorem dl1398 : decode code 1398 = .ok (.iconst 2, 1) := by decide +kernel
theorem dl1399 : decode code 1399 = .ok (.iadd, 1) := by decide +kernel
theorem dl1400 : decode code 1400 = .ok (.iaload, 1) := by decide +kernel
theorem dl1401 : decode code 1401 = .ok (.invokevirtual 165, 3) := by decide +kernel
theorem dl1404 : decode code 1404 = .ok (.if_icmp .eq 371, 3) := by decide +kernel
theorem dl1407 : decode code 1407 = .ok (.iconst 0, 1) := by decide +kernel
theorem dl1408 : decode code 1408 = .ok (.ireturn, 1) := by decide +kernel
theorem dl1409 : decode code 1409 = .ok (.aload_n 1, 1) := by decide +kernel
theorem dl1410 : decode code 1410 = .ok (.aload_n 0, 1) := by decide +kernel
theorem dl1411 : decode code 1411 = .ok (.iload_n 3, 1) := by decide +kernel
theorem dl1412 : decode code 1412 = .ok (.iconst 1, 1) := by decide +kernel
theorem dl1413 : decode code 1413 = .ok (.iadd, 1) := by decide +kernel
theorem dl1414 : decode code 1414 = .ok (.iaload, 1) := by decide +kernel
theorem dl1415 : decode code 1415 = .ok (.invokevirtual 166, 3) := by decide +kernel
theorem dl1418 : decode code 1418 = .ok (.aload_n 2, 1) := by decide +kernel
theorem dl1419 : decode code 1419 = .ok (.aload_n 0, 1) := by decide +kernel
theorem dl1420 : decode code 1420 = .ok (.iload_n 3, 1) := by decide +kernel
theorem dl1421 : decode code 1421 = .ok (.iconst 1, 1) := by decide +kernel
theorem dl1422 : decode code 1422 = .ok (.iadd, 1) := by decide +kernel
theorem dl1423 : decode code 1423 = .ok (.iaload, 1) := by decide +kernel
theorem dl1424 : decode code 1424 = .ok (.invokevirtual 169, 3) := by decide +kernel
theorem dl1427 : decode code 1427 = .ok (.if_icmp .eq 348, 3) := by decide +kernel
theorem dl1430 : decode code 1430 = .ok (.iconst 0, 1) := by decide +kernel
theorem dl1431 : decode code 1431 = .ok (.ireturn, 1) := by decide +kernel
theorem dl1432 : decode code 1432 = .ok (.aload_n 1, 1) := by decide +kernel
theorem dl1433 : decode code 1433 = .ok (.aload_n 0, 1) := by decide +kernel
theorem dl1434 : decode code 1434 = .ok (.iload_n 3, 1) := by decide +kernel
theorem dl1435 : decode code 1435 = .ok (.iconst 1, 1) := by decide +kernel
theorem dl1436 : decode code 1436 = .ok (.iadd, 1) := by decide +kernel
theorem dl1437 : decode code 1437 = .ok (.iaload, 1) := by decide +kernel
theorem dl1438 : decode code 1438 = .ok (.invokevirtual 170, 3) := by decide +kernel
theorem dl1441 : decode code 1441 = .ok (.aload_n 2, 1) := by decide +kernel
theorem dl1442 : decode code 1442 = .ok (.aload_n 0, 1) := by decide +kernel
theorem dl1443 : decode code 1443 = .ok (.iload_n 3, 1) := by decide +kernel
theorem dl1444 : decode code 1444 = .ok (.iconst 1, 1) := by decide +kernel
theorem dl1445 : decode code 1445 = .ok (.iadd, 1) := by decide +kernel
theorem dl1446 : decode code 1446 = .ok (.iaload, 1) := by decide +kernel
theorem dl1447 : decode code 1447 = .ok (.invokevirtual 173, 3) := by decide +kernel
theorem dl1450 : decode code 1450 = .ok (.if_icmp .eq 325, 3) := by decide +kernel
theorem dl1453 : decode code 1453 = .ok (.iconst 0, 1) := by decide +kernel
theorem dl1454 : decode code 1454 = .ok (.ireturn, 1) := by decide +kernel
theorem dl1455 : decode code 1455 = .ok (.aload_n 1, 1) := by decide +kernel
theorem dl1456 : decode code 1456 = .ok (.aload_n 0, 1) := by decide +kernel
theorem dl1457 : decode code 1457 = .ok (.iload_n 3, 1) := by decide +kernel
theorem dl1458 : decode code 1458 = .ok (.iconst 1, 1) := by decide +kernel
theorem dl1459 : decode code 1459 = .ok (.iadd, 1) := by decide +kernel
theorem dl1460 : decode code 1460 = .ok (.iaload, 1) := by decide +kernel
theorem dl1461 : decode code 1461 = .ok (.aload_n 0, 1) := by decide +kernel
theorem dl1462 : decode code 1462 = .ok (.iload_n 3, 1) := by decide +kernel
theorem dl1463 : decode code 1463 = .ok (.iconst 2, 1) := by decide +kernel
theorem dl1464 : decode code 1464 = .ok (.iadd, 1) := by decide +kernel
theorem dl1465 : decode code 1465 = .ok (.iaload, 1) := by decide +kernel
theorem dl1466 : decode code 1466 = .ok (.invokevirtual 174, 3) := by decide +kernel
theorem dl1469 : decode code 1469 = .ok (.aload_n 2, 1) := by decide +kernel
theorem dl1470 : decode code 1470 = .ok (.aload_n 0, 1) := by decide +kernel
theorem dl1471 : decode code 1471 = .ok (.iload_n 3, 1) := by decide +kernel
theorem dl1472 : decode code 1472 = .ok (.iconst 1, 1) := by decide +kernel
theorem dl1473 : decode code 1473 = .ok (.iadd, 1) := by decide +kernel
theorem dl1474 : decode code 1474 = .ok (.iaload, 1) := by decide +kernel
theorem dl1475 : decode code 1475 = .ok (.aload_n 0, 1) := by decide +kernel
theorem dl1476 : decode code 1476 = .ok (.iload_n 3, 1) := by decide +kernel
theorem dl1477 : decode code 1477 = .ok (.iconst 2, 1) := by decide +kernel
theorem dl1478 : decode code 1478 = .ok (.iadd, 1) := by decide +kernel
theorem dl1479 : decode code 1479 = .ok (.iaload, 1) := by decide +kernel
theorem dl1480 : decode code 1480 = .ok (.invokevirtual 177, 3) := by decide +kernel
theorem dl1483 : decode code 1483 = .ok (.if_icmp .eq 292, 3) := by decide +kernel
theorem dl1486 : decode code 1486 = .ok (.iconst 0, 1) := by decide +kernel
theorem dl1487 : decode code 1487 = .ok (.ireturn, 1) := by decide +kernel
theorem dl1488 : decode code 1488 = .ok (.aload_n 1, 1) := by decide +kernel
theorem dl1489 : decode code 1489 = .ok (.aload_n 0, 1) := by decide +kernel
theorem dl1490 : decode code 1490 = .ok (.iload_n 3, 1) := by decide +kernel
theorem dl1491 : decode code 1491 = .ok (.iconst 1, 1) := by decide +kernel
theorem dl1492 : decode code 1492 = .ok (.iadd, 1) := by decide +kernel
theorem dl1493 : decode code 1493 = .ok (.iaload, 1) := by decide +kernel
theorem dl1494 : decode code 1494 = .ok (.invokevirtual 178, 3) := by decide +kernel
theorem dl1497 : decode code 1497 = .ok (.aload_n 2, 1) := by decide +kernel
theorem dl1498 : decode code 1498 = .ok (.aload_n 0, 1) := by decide +kernel
theorem dl1499 : decode code 1499 = .ok (.iload_n 3, 1) := by decide +kernel
theorem dl1500 : decode code 1500 = .ok (.iconst 1, 1) := by decide +kernel
theorem dl1501 : decode code 1501 = .ok (.iadd, 1) := by decide +kernel
theorem dl1502 : decode code 1502 = .ok (.iaload, 1) := by decide +kernel
theorem dl1503 : decode code 1503 = .ok (.invokevirtual 181, 3) := by decide +kernel
theorem dl1506 : decode code 1506 = .ok (.if_icmp .eq 269, 3) := by decide +kernel
theorem dl1509 : decode code 1509 = .ok (.iconst 0, 1) := by decide +kernel
theorem dl1510 : decode code 1510 = .ok (.ireturn, 1) := by decide +kernel
theorem dl1511 : decode code 1511 = .ok (.aload_n 1, 1) := by decide +kernel
theorem dl1512 : decode code 1512 = .ok (.aload_n 0, 1) := by decide +kernel
theorem dl1513 : decode code 1513 = .ok (.iload_n 3, 1) := by decide +kernel
theorem dl1514 : decode code 1514 = .ok (.iconst 1, 1) := by decide +kernel
theorem dl1515 : decode code 1515 = .ok (.iadd, 1) := by decide +kernel
theorem dl1516 : decode code 1516 = .ok (.iaload, 1) := by decide +kernel
theorem dl1517 : decode code 1517 = .ok (.invokevirtual 182, 3) := by decide +kernel
theorem dl1520 : decode code 1520 = .ok (.aload_n 2, 1) := by decide +kernel
theorem dl1521 : decode code 1521 = .ok (.aload_n 0, 1) := by decide +kernel
theorem dl1522 : decode code 1522 = .ok (.iload_n 3, 1) := by decide +kernel
theorem dl1523 : decode code 1523 = .ok (.iconst 1, 1) := by decide +kernel
theorem dl1524 : decode code 1524 = .ok (.iadd, 1) := by decide +kernel
theorem dl1525 : decode code 1525 = .ok (.iaload, 1) := by decide +kernel
theorem dl1526 : decode code 1526 = .ok (.invokevirtual 185, 3) := by decide +kernel
theorem dl1529 : decode code 1529 = .ok (.if_icmp .eq 246, 3) := by decide +kernel
theorem dl1532 : decode code 1532 = .ok (.iconst 0, 1) := by decide +kernel
theorem dl1533 : decode code 1533 = .ok (.ireturn, 1) := by decide +kernel
theorem dl1534 : decode code 1534 = .ok (.aload_n 1, 1) := by decide +kernel
theorem dl1535 : decode code 1535 = .ok (.aload_n 0, 1) := by decide +kernel
theorem dl1536 : decode code 1536 = .ok (.iload_n 3, 1) := by decide +kernel
theorem dl1537 : decode code 1537 = .ok (.iconst 1, 1) := by decide +kernel
theorem dl1538 : decode code 1538 = .ok (.iadd, 1) := by decide +kernel
theorem dl1539 : decode code 1539 = .ok (.iaload, 1) := by decide +kernel
theorem dl1540 : decode code 1540 = .ok (.aload_n 0, 1) := by decide +kernel
theorem dl1541 : decode code 1541 = .ok (.iload_n 3, 1) := by decide +kernel
theorem dl1542 : decode code 1542 = .ok (.iconst 2, 1) := by decide +kernel
theorem dl1543 : decode code 1543 = .ok (.iadd, 1) := by decide +kernel
theorem dl1544 : decode code 1544 = .ok (.iaload, 1) := by decide +kernel
theorem dl1545 : decode code 1545 = .ok (.aload_n 0, 1) := by decide +kernel
theorem dl1546 : decode code 1546 = .ok (.iload_n 3, 1) := by decide +kernel
theorem dl1547 : decode code 1547 = .ok (.iconst 3, 1) := by decide +kernel
theorem dl1548 : decode code 1548 = .ok (.iadd, 1) := by decide +kernel
theorem dl1549 : decode code 1549 = .ok (.iaload, 1) := by decide +kernel
theorem dl1550 : decode code 1550 = .ok (.invokevirtual 186, 3) := by decide +kernel
theorem dl1553 : decode code 1553 = .ok (.aload_n 2, 1) := by decide +kernel
theorem dl1554 : decode code 1554 = .ok (.aload_n 0, 1) := by decide +kernel
theorem dl1555 : decode code 1555 = .ok (.iload_n 3, 1) := by decide +kernel
theorem dl1556 : decode code 1556 = .ok (.iconst 1, 1) := by decide +kernel
theorem dl1557 : decode code 1557 = .ok (.iadd, 1) := by decide +kernel
theorem dl1558 : decode code 1558 = .ok (.iaload, 1) := by decide +kernel
theorem dl1559 : decode code 1559 = .ok (.aload_n 0, 1) := by decide +kernel
theorem dl1560 : decode code 1560 = .ok (.iload_n 3, 1) := by decide +kernel
theorem dl1561 : decode code 1561 = .ok (.iconst 2, 1) := by decide +kernel
theorem dl1562 : decode code 1562 = .ok (.iadd, 1) := by decide +kernel
theorem dl1563 : decode code 1563 = .ok (.iaload, 1) := by decide +kernel
theorem dl1564 : decode code 1564 = .ok (.aload_n 0, 1) := by decide +kernel
theorem dl1565 : decode code 1565 = .ok (.iload_n 3, 1) := by decide +kernel
theorem dl1566 : decode code 1566 = .ok (.iconst 3, 1) := by decide +kernel
theorem dl1567 : decode code 1567 = .ok (.iadd, 1) := by decide +kernel
theorem dl1568 : decode code 1568 = .ok (.iaload, 1) := by decide +kernel
theorem dl1569 : decode code 1569 = .ok (.invokevirtual 189, 3) := by decide +kernel
theorem dl1572 : decode code 1572 = .ok (.if_icmp .eq 203, 3) := by decide +kernel
theorem dl1575 : decode code 1575 = .ok (.iconst 0, 1) := by decide +kernel
theorem dl1576 : decode code 1576 = .ok (.ireturn, 1) := by decide +kernel
theorem dl1577 : decode code 1577 = .ok (.aload_n 1, 1) := by decide +kernel
theorem dl1578 : decode code 1578 = .ok (.invokevirtual 190, 3) := by decide +kernel
theorem dl1581 : decode code 1581 = .ok (.aload_n 2, 1) := by decide +kernel
theorem dl1582 : decode code 1582 = .ok (.invokevirtual 193, 3) := by decide +kernel
theorem dl1585 : decode code 1585 = .ok (.if_icmp .eq 190, 3) := by decide +kernel
theorem dl1588 : decode code 1588 = .ok (.iconst 0, 1) := by decide +kernel
theorem dl1589 : decode code 1589 = .ok (.ireturn, 1) := by decide +kernel
theorem dl1590 : decode code 1590 = .ok (.aload_n 1, 1) := by decide +kernel
theorem dl1591 : decode code 1591 = .ok (.aload_n 0, 1) := by decide +kernel
theorem dl1592 : decode code 1592 = .ok (.iload_n 3, 1) := by decide +kernel
theorem dl1593 : decode code 1593 = .ok (.iconst 1, 1) := by decide +kernel
theorem dl1594 : decode code 1594 = .ok (.iadd, 1) := by decide +kernel
theorem dl1595 : decode code 1595 = .ok (.iaload, 1) := by decide +kernel
theorem dl1596 : decode code 1596 = .ok (.aload_n 0, 1) := by decide +kernel
theorem dl1597 : decode code 1597 = .ok (.iload_n 3, 1) := by decide +kernel
theorem dl1598 : decode code 1598 = .ok (.iconst 2, 1) := by decide +kernel
theorem dl1599 : decode code 1599 = .ok (.iadd, 1) := by decide +kernel
theorem dl1600 : decode code 1600 = .ok (.iaload, 1) := by decide +kernel
theorem dl1601 : decode code 1601 = .ok (.invokevirtual 194, 3) := by decide +kernel
theorem dl1604 : decode code 1604 = .ok (.aload_n 2, 1) := by decide +kernel
theorem dl1605 : decode code 1605 = .ok (.aload_n 0, 1) := by decide +kernel
theorem dl1606 : decode code 1606 = .ok (.iload_n 3, 1) := by decide +kernel
theorem dl1607 : decode code 1607 = .ok (.iconst 1, 1) := by decide +kernel
theorem dl1608 : decode code 1608 = .ok (.iadd, 1) := by decide +kernel
theorem dl1609 : decode code 1609 = .ok (.iaload, 1) := by decide +kernel
theorem dl1610 : decode code 1610 = .ok (.aload_n 0, 1) := by decide +kernel
theorem dl1611 : decode code 1611 = .ok (.iload_n 3, 1) := by decide +kernel
theorem dl1612 : decode code 1612 = .ok (.iconst 2, 1) := by decide +kernel
theorem dl1613 : decode code 1613 = .ok (.iadd, 1) := by decide +kernel
theorem dl1614 : decode code 1614 = .ok (.iaload, 1) := by decide +kernel
theorem dl1615 : decode code 1615 = .ok (.invokevirtual 197, 3) := by decide +kernel
theorem dl1618 : decode code 1618 = .ok (.if_icmp .eq 157, 3) := by decide +kernel
theorem dl1621 : decode code 1621 = .ok (.iconst 0, 1) := by decide +kernel
theorem dl1622 : decode code 1622 = .ok (.ireturn, 1) := by decide +kernel
theorem dl1623 : decode code 1623 = .ok (.aload_n 1, 1) := by decide +kernel
theorem dl1624 : decode code 1624 = .ok (.aload_n 0, 1) := by decide +kernel
theorem dl1625 : decode code 1625 = .ok (.iload_n 3, 1) := by decide +kernel
theorem dl1626 : decode code 1626 = .ok (.iconst 1, 1) := by decide +kernel
theorem dl1627 : decode code 1627 = .ok (.iadd, 1) := by decide +kernel
theorem dl1628 : decode code 1628 = .ok (.iaload, 1) := by decide +kernel
theorem dl1629 : decode code 1629 = .ok (.aload_n 0, 1) := by decide +kernel
theorem dl1630 : decode code 1630 = .ok (.iload_n 3, 1) := by decide +kernel
theorem dl1631 : decode code 1631 = .ok (.iconst 2, 1) := by decide +kernel
theorem dl1632 : decode code 1632 = .ok (.iadd, 1) := by decide +kernel
theorem dl1633 : decode code 1633 = .ok (.iaload, 1) := by decide +kernel
theorem dl1634 : decode code 1634 = .ok (.invokevirtual 198, 3) := by decide +kernel
theorem dl1637 : decode code 1637 = .ok (.aload_n 2, 1) := by decide +kernel
theorem dl1638 : decode code 1638 = .ok (.aload_n 0, 1) := by decide +kernel
theorem dl1639 : decode code 1639 = .ok (.iload_n 3, 1) := by decide +kernel
theorem dl1640 : decode code 1640 = .ok (.iconst 1, 1) := by decide +kernel
theorem dl1641 : decode code 1641 = .ok (.iadd, 1) := by decide +kernel
theorem dl1642 : decode code 1642 = .ok (.iaload, 1) := by decide +kernel
theorem dl1643 : decode code 1643 = .ok (.aload_n 0, 1) := by decide +kernel
theorem dl1644 : decode code 1644 = .ok (.iload_n 3, 1) := by decide +kernel
theorem dl1645 : decode code 1645 = .ok (.iconst 2, 1) := by decide +kernel
theorem dl1646 : decode code 1646 = .ok (.iadd, 1) := by decide +kernel
theorem dl1647 : decode code 1647 = .ok (.iaload, 1) := by decide +kernel
theorem dl1648 : decode code 1648 = .ok (.invokevirtual 201, 3) := by decide +kernel
theorem dl1651 : decode code 1651 = .ok (.if_icmp .eq 124, 3) := by decide +kernel
theorem dl1654 : decode code 1654 = .ok (.iconst 0, 1) := by decide +kernel
theorem dl1655 : decode code 1655 = .ok (.ireturn, 1) := by decide +kernel
theorem dl1656 : decode code 1656 = .ok (.aload_n 1, 1) := by decide +kernel
theorem dl1657 : decode code 1657 = .ok (.aload_n 0, 1) := by decide +kernel
theorem dl1658 : decode code 1658 = .ok (.iload_n 3, 1) := by decide +kernel
theorem dl1659 : decode code 1659 = .ok (.iconst 1, 1) := by decide +kernel
theorem dl1660 : decode code 1660 = .ok (.iadd, 1) := by decide +kernel
theorem dl1661 : decode code 1661 = .ok (.iaload, 1) := by decide +kernel
theorem dl1662 : decode code 1662 = .ok (.invokevirtual 202, 3) := by decide +kernel
theorem dl1665 : decode code 1665 = .ok (.aload_n 2, 1) := by decide +kernel
theorem dl1666 : decode code 1666 = .ok (.aload_n 0, 1) := by decide +kernel
theorem dl1667 : decode code 1667 = .ok (.iload_n 3, 1) := by decide +kernel
theorem dl1668 : decode code 1668 = .ok (.iconst 1, 1) := by decide +kernel
theorem dl1669 : decode code 1669 = .ok (.iadd, 1) := by decide +kernel
theorem dl1670 : decode code 1670 = .ok (.iaload, 1) := by decide +kernel
theorem dl1671 : decode code 1671 = .ok (.invokevirtual 205, 3) := by decide +kernel
theorem dl1674 : decode code 1674 = .ok (.if_icmp .eq 101, 3) := by decide +kernel
theorem dl1677 : decode code 1677 = .ok (.iconst 0, 1) := by decide +kernel
theorem dl1678 : decode code 1678 = .ok (.ireturn, 1) := by decide +kernel
theorem dl1679 : decode code 1679 = .ok (.aload_n 1, 1) := by decide +kernel
theorem dl1680 : decode code 1680 = .ok (.aload_n 0, 1) := by decide +kernel
theorem dl1681 : decode code 1681 = .ok (.iload_n 3, 1) := by decide +kernel
theorem dl1682 : decode code 1682 = .ok (.iconst 1, 1) := by decide +kernel
theorem dl1683 : decode code 1683 = .ok (.iadd, 1) := by decide +kernel
theorem dl1684 : decode code 1684 = .ok (.iaload, 1) := by decide +kernel
theorem dl1685 : decode code 1685 = .ok (.aload_n 0, 1) := by decide +kernel
theorem dl1686 : decode code 1686 = .ok (.iload_n 3, 1) := by decide +kernel
theorem dl1687 : decode code 1687 = .ok (.iconst 2, 1) := by decide +kernel
theorem dl1688 : decode code 1688 = .ok (.iadd, 1) := by decide +kernel
theorem dl1689 : decode code 1689 = .ok (.iaload, 1) := by decide +kernel
theorem dl1690 : decode code 1690 = .ok (.invokevirtual 206, 3) := by decide +kernel
theorem dl1693 : decode code 1693 = .ok (.aload_n 2, 1) := by decide +kernel
theorem dl1694 : decode code 1694 = .ok (.aload_n 0, 1) := by decide +kernel
theorem dl1695 : decode code 1695 = .ok (.iload_n 3, 1) := by decide +kernel
theorem dl1696 : decode code 1696 = .ok (.iconst 1, 1) := by decide +kernel
theorem dl1697 : decode code 1697 = .ok (.iadd, 1) := by decide +kernel
theorem dl1698 : decode code 1698 = .ok (.iaload, 1) := by decide +kernel
theorem dl1699 : decode code 1699 = .ok (.aload_n 0, 1) := by decide +kernel
theorem dl1700 : decode code 1700 = .ok (.iload_n 3, 1) := by decide +kernel
theorem dl1701 : decode code 1701 = .ok (.iconst 2, 1) := by decide +kernel
theorem dl1702 : decode code 1702 = .ok (.iadd, 1) := by decide +kernel
theorem dl1703 : decode code 1703 = .ok (.iaload, 1) := by decide +kernel
theorem dl1704 : decode code 1704 = .ok (.invokevirtual 209, 3) := by decide +kernel
theorem dl1707 : decode code 1707 = .ok (.if_icmp .eq 68, 3) := by decide +kernel
theorem dl1710 : decode code 1710 = .ok (.iconst 0, 1) := by decide +kernel
theorem dl1711 : decode code 1711 = .ok (.ireturn, 1) := by decide +kernel
theorem dl1712 : decode code 1712 = .ok (.aload_n 1, 1) := by decide +kernel
theorem dl1713 : decode code 1713 = .ok (.invokevirtual 210, 3) := by decide +kernel
theorem dl1716 : decode code 1716 = .ok (.aload_n 2, 1) := by decide +kernel
theorem dl1717 : decode code 1717 = .ok (.invokevirtual 214, 3) := by decide +kernel
theorem dl1720 : decode code 1720 = .ok (.lcmp, 1) := by decide +kernel
theorem dl1721 : decode code 1721 = .ok (.ifCond .eq 54, 3) := by decide +kernel
theorem dl1724 : decode code 1724 = .ok (.iconst 0, 1) := by decide +kernel
theorem dl1725 : decode code 1725 = .ok (.ireturn, 1) := by decide +kernel
theorem dl1726 : decode code 1726 = .ok (.aload_n 1, 1) := by decide +kernel
theorem dl1727 : decode code 1727 = .ok (.invokevirtual 215, 3) := by decide +kernel
theorem dl1730 : decode code 1730 = .ok (.aload_n 2, 1) := by decide +kernel
theorem dl1731 : decode code 1731 = .ok (.invokevirtual 218, 3) := by decide +kernel
theorem dl1734 : decode code 1734 = .ok (.if_icmp .eq 41, 3) := by decide +kernel
theorem dl1737 : decode code 1737 = .ok (.iconst 0, 1) := by decide +kernel
theorem dl1738 : decode code 1738 = .ok (.ireturn, 1) := by decide +kernel
theorem dl1739 : decode code 1739 = .ok (.aload_n 1, 1) := by decide +kernel
theorem dl1740 : decode code 1740 = .ok (.aload_n 0, 1) := by decide +kernel
theorem dl1741 : decode code 1741 = .ok (.iload_n 3, 1) := by decide +kernel
theorem dl1742 : decode code 1742 = .ok (.iconst 1, 1) := by decide +kernel
theorem dl1743 : decode code 1743 = .ok (.iadd, 1) := by decide +kernel
theorem dl1744 : decode code 1744 = .ok (.iaload, 1) := by decide +kernel
theorem dl1745 : decode code 1745 = .ok (.invokevirtual 219, 3) := by decide +kernel
theorem dl1748 : decode code 1748 = .ok (.aload_n 2, 1) := by decide +kernel
theorem dl1749 : decode code 1749 = .ok (.aload_n 0, 1) := by decide +kernel
theorem dl1750 : decode code 1750 = .ok (.iload_n 3, 1) := by decide +kernel
theorem dl1751 : decode code 1751 = .ok (.iconst 1, 1) := by decide +kernel
theorem dl1752 : decode code 1752 = .ok (.iadd, 1) := by decide +kernel
theorem dl1753 : decode code 1753 = .ok (.iaload, 1) := by decide +kernel
theorem dl1754 : decode code 1754 = .ok (.invokevirtual 222, 3) := by decide +kernel
theorem dl1757 : decode code 1757 = .ok (.if_icmp .eq 18, 3) := by decide +kernel
theorem dl1760 : decode code 1760 = .ok (.iconst 0, 1) := by decide +kernel
theorem dl1761 : decode code 1761 = .ok (.ireturn, 1) := by decide +kernel
theorem dl1762 : decode code 1762 = .ok (.aload_n 1, 1) := by decide +kernel
theorem dl1763 : decode code 1763 = .ok (.invokevirtual 223, 3) := by decide +kernel
theorem dl1766 : decode code 1766 = .ok (.aload_n 2, 1) := by decide +kernel
theorem dl1767 : decode code 1767 = .ok (.invokevirtual 226, 3) := by decide +kernel
theorem dl1770 : decode code 1770 = .ok (.if_icmp .eq 5, 3) := by decide +kernel
theorem dl1773 : decode code 1773 = .ok (.iconst 0, 1) := by decide +kernel
theorem dl1774 : decode code 1774 = .ok (.ireturn, 1) := by decide +kernel
theorem dl1775 : decode code 1775 = .ok (.iinc 3 7, 3) := by decide +kernel
theorem dl1778 : decode code 1778 = .ok (.goto (-1760), 3) := by decide +kernel
theorem dl1781 : decode code 1781 = .ok (.iconst 1, 1) := by decide +kernel
theorem dl1782 : decode code 1782 = .ok (.ireturn, 1) := by decide +kernel
