theorem dL_1078 : decode code 1078 = .ok (.iload_n 3, 1) := by decide +kernel
theorem dL_1079 : decode code 1079 = .ok (.iconst 2, 1) := by decide +kernel
theorem dL_1080 : decode code 1080 = .ok (.iadd, 1) := by decide +kernel
theorem dL_1081 : decode code 1081 = .ok (.iaload, 1) := by decide +kernel
theorem dL_1082 : decode code 1082 = .ok (.invokevirtual 117, 3) := by decide +kernel
theorem dL_1085 : decode code 1085 = .ok (.if_icmp .eq 463, 3) := by decide +kernel
theorem dL_1088 : decode code 1088 = .ok (.iconst 0, 1) := by decide +kernel
theorem dL_1089 : decode code 1089 = .ok (.ireturn, 1) := by decide +kernel
theorem dL_1090 : decode code 1090 = .ok (.aload_n 1, 1) := by decide +kernel
theorem dL_1091 : decode code 1091 = .ok (.aload_n 0, 1) := by decide +kernel
theorem dL_1092 : decode code 1092 = .ok (.iload_n 3, 1) := by decide +kernel
theorem dL_1093 : decode code 1093 = .ok (.iconst 1, 1) := by decide +kernel
theorem dL_1094 : decode code 1094 = .ok (.iadd, 1) := by decide +kernel
theorem dL_1095 : decode code 1095 = .ok (.iaload, 1) := by decide +kernel
theorem dL_1096 : decode code 1096 = .ok (.aload_n 0, 1) := by decide +kernel
theorem dL_1097 : decode code 1097 = .ok (.iload_n 3, 1) := by decide +kernel
theorem dL_1098 : decode code 1098 = .ok (.iconst 2, 1) := by decide +kernel
theorem dL_1099 : decode code 1099 = .ok (.iadd, 1) := by decide +kernel
theorem dL_1100 : decode code 1100 = .ok (.iaload, 1) := by decide +kernel
theorem dL_1101 : decode code 1101 = .ok (.invokevirtual 118, 3) := by decide +kernel
theorem dL_1104 : decode code 1104 = .ok (.aload_n 2, 1) := by decide +kernel
theorem dL_1105 : decode code 1105 = .ok (.aload_n 0, 1) := by decide +kernel
theorem dL_1106 : decode code 1106 = .ok (.iload_n 3, 1) := by decide +kernel
theorem dL_1107 : decode code 1107 = .ok (.iconst 1, 1) := by decide +kernel
theorem dL_1108 : decode code 1108 = .ok (.iadd, 1) := by decide +kernel
theorem dL_1109 : decode code 1109 = .ok (.iaload, 1) := by decide +kernel
theorem dL_1110 : decode code 1110 = .ok (.aload_n 0, 1) := by decide +kernel
theorem dL_1111 : decode code 1111 = .ok (.iload_n 3, 1) := by decide +kernel
theorem dL_1112 : decode code 1112 = .ok (.iconst 2, 1) := by decide +kernel
theorem dL_1113 : decode code 1113 = .ok (.iadd, 1) := by decide +kernel
theorem dL_1114 : decode code 1114 = .ok (.iaload, 1) := by decide +kernel
theorem dL_1115 : decode code 1115 = .ok (.invokevirtual 121, 3) := by decide +kernel
theorem dL_1118 : decode code 1118 = .ok (.if_icmp .eq 430, 3) := by decide +kernel
theorem dL_1121 : decode code 1121 = .ok (.iconst 0, 1) := by decide +kernel
theorem dL_1122 : decode code 1122 = .ok (.ireturn, 1) := by decide +kernel
theorem dL_1123 : decode code 1123 = .ok (.aload_n 1, 1) := by decide +kernel
theorem dL_1124 : decode code 1124 = .ok (.aload_n 0, 1) := by decide +kernel
theorem dL_1125 : decode code 1125 = .ok (.iload_n 3, 1) := by decide +kernel
theorem dL_1126 : decode code 1126 = .ok (.iconst 1, 1) := by decide +kernel
theorem dL_1127 : decode code 1127 = .ok (.iadd, 1) := by decide +kernel
theorem dL_1128 : decode code 1128 = .ok (.iaload, 1) := by decide +kernel
theorem dL_1129 : decode code 1129 = .ok (.aload_n 0, 1) := by decide +kernel
theorem dL_1130 : decode code 1130 = .ok (.iload_n 3, 1) := by decide +kernel
theorem dL_1131 : decode code 1131 = .ok (.iconst 2, 1) := by decide +kernel
theorem dL_1132 : decode code 1132 = .ok (.iadd, 1) := by decide +kernel
theorem dL_1133 : decode code 1133 = .ok (.iaload, 1) := by decide +kernel
theorem dL_1134 : decode code 1134 = .ok (.invokevirtual 122, 3) := by decide +kernel
theorem dL_1137 : decode code 1137 = .ok (.aload_n 2, 1) := by decide +kernel
theorem dL_1138 : decode code 1138 = .ok (.aload_n 0, 1) := by decide +kernel
theorem dL_1139 : decode code 1139 = .ok (.iload_n 3, 1) := by decide +kernel
theorem dL_1140 : decode code 1140 = .ok (.iconst 1, 1) := by decide +kernel
theorem dL_1141 : decode code 1141 = .ok (.iadd, 1) := by decide +kernel
theorem dL_1142 : decode code 1142 = .ok (.iaload, 1) := by decide +kernel
theorem dL_1143 : decode code 1143 = .ok (.aload_n 0, 1) := by decide +kernel
theorem dL_1144 : decode code 1144 = .ok (.iload_n 3, 1) := by decide +kernel
theorem dL_1145 : decode code 1145 = .ok (.iconst 2, 1) := by decide +kernel
theorem dL_1146 : decode code 1146 = .ok (.iadd, 1) := by decide +kernel
theorem dL_1147 : decode code 1147 = .ok (.iaload, 1) := by decide +kernel
theorem dL_1148 : decode code 1148 = .ok (.invokevirtual 125, 3) := by decide +kernel
theorem dL_1151 : decode code 1151 = .ok (.if_icmp .eq 397, 3) := by decide +kernel
theorem dL_1154 : decode code 1154 = .ok (.iconst 0, 1) := by decide +kernel
theorem dL_1155 : decode code 1155 = .ok (.ireturn, 1) := by decide +kernel
theorem dL_1156 : decode code 1156 = .ok (.aload_n 1, 1) := by decide +kernel
theorem dL_1157 : decode code 1157 = .ok (.aload_n 0, 1) := by decide +kernel
theorem dL_1158 : decode code 1158 = .ok (.iload_n 3, 1) := by decide +kernel
theorem dL_1159 : decode code 1159 = .ok (.iconst 1, 1) := by decide +kernel
theorem dL_1160 : decode code 1160 = .ok (.iadd, 1) := by decide +kernel
theorem dL_1161 : decode code 1161 = .ok (.iaload, 1) := by decide +kernel
theorem dL_1162 : decode code 1162 = .ok (.invokevirtual 126, 3) := by decide +kernel
theorem dL_1165 : decode code 1165 = .ok (.aload_n 2, 1) := by decide +kernel
theorem dL_1166 : decode code 1166 = .ok (.aload_n 0, 1) := by decide +kernel
theorem dL_1167 : decode code 1167 = .ok (.iload_n 3, 1) := by decide +kernel
theorem dL_1168 : decode code 1168 = .ok (.iconst 1, 1) := by decide +kernel
theorem dL_1169 : decode code 1169 = .ok (.iadd, 1) := by decide +kernel
theorem dL_1170 : decode code 1170 = .ok (.iaload, 1) := by decide +kernel
theorem dL_1171 : decode code 1171 = .ok (.invokevirtual 129, 3) := by decide +kernel
theorem dL_1174 : decode code 1174 = .ok (.if_icmp .eq 374, 3) := by decide +kernel
theorem dL_1177 : decode code 1177 = .ok (.iconst 0, 1) := by decide +kernel
theorem dL_1178 : decode code 1178 = .ok (.ireturn, 1) := by decide +kernel
theorem dL_1179 : decode code 1179 = .ok (.aload_n 1, 1) := by decide +kernel
theorem dL_1180 : decode code 1180 = .ok (.aload_n 0, 1) := by decide +kernel
theorem dL_1181 : decode code 1181 = .ok (.iload_n 3, 1) := by decide +kernel
theorem dL_1182 : decode code 1182 = .ok (.iconst 1, 1) := by decide +kernel
theorem dL_1183 : decode code 1183 = .ok (.iadd, 1) := by decide +kernel
theorem dL_1184 : decode code 1184 = .ok (.iaload, 1) := by decide +kernel
theorem dL_1185 : decode code 1185 = .ok (.invokevirtual 130, 3) := by decide +kernel
theorem dL_1188 : decode code 1188 = .ok (.aload_n 2, 1) := by decide +kernel
theorem dL_1189 : decode code 1189 = .ok (.aload_n 0, 1) := by decide +kernel
theorem dL_1190 : decode code 1190 = .ok (.iload_n 3, 1) := by decide +kernel
theorem dL_1191 : decode code 1191 = .ok (.iconst 1, 1) := by decide +kernel
theorem dL_1192 : decode code 1192 = .ok (.iadd, 1) := by decide +kernel
theorem dL_1193 : decode code 1193 = .ok (.iaload, 1) := by decide +kernel
theorem dL_1194 : decode code 1194 = .ok (.invokevirtual 133, 3) := by decide +kernel
theorem dL_1197 : decode code 1197 = .ok (.if_icmp .eq 351, 3) := by decide +kernel
theorem dL_1200 : decode code 1200 = .ok (.iconst 0, 1) := by decide +kernel
theorem dL_1201 : decode code 1201 = .ok (.ireturn, 1) := by decide +kernel
theorem dL_1202 : decode code 1202 = .ok (.aload_n 1, 1) := by decide +kernel
theorem dL_1203 : decode code 1203 = .ok (.aload_n 0, 1) := by decide +kernel
theorem dL_1204 : decode code 1204 = .ok (.iload_n 3, 1) := by decide +kernel
theorem dL_1205 : decode code 1205 = .ok (.iconst 1, 1) := by decide +kernel
theorem dL_1206 : decode code 1206 = .ok (.iadd, 1) := by decide +kernel
theorem dL_1207 : decode code 1207 = .ok (.iaload, 1) := by decide +kernel
theorem dL_1208 : decode code 1208 = .ok (.invokevirtual 134, 3) := by decide +kernel
theorem dL_1211 : decode code 1211 = .ok (.aload_n 2, 1) := by decide +kernel
theorem dL_1212 : decode code 1212 = .ok (.aload_n 0, 1) := by decide +kernel
theorem dL_1213 : decode code 1213 = .ok (.iload_n 3, 1) := by decide +kernel
theorem dL_1214 : decode code 1214 = .ok (.iconst 1, 1) := by decide +kernel
theorem dL_1215 : decode code 1215 = .ok (.iadd, 1) := by decide +kernel
theorem dL_1216 : decode code 1216 = .ok (.iaload, 1) := by decide +kernel
theorem dL_1217 : decode code 1217 = .ok (.invokevirtual 137, 3) := by decide +kernel
theorem dL_1220 : decode code 1220 = .ok (.if_icmp .eq 328, 3) := by decide +kernel
theorem dL_1223 : decode code 1223 = .ok (.iconst 0, 1) := by decide +kernel
theorem dL_1224 : decode code 1224 = .ok (.ireturn, 1) := by decide +kernel
theorem dL_1225 : decode code 1225 = .ok (.aload_n 1, 1) := by decide +kernel
theorem dL_1226 : decode code 1226 = .ok (.aload_n 0, 1) := by decide +kernel
theorem dL_1227 : decode code 1227 = .ok (.iload_n 3, 1) := by decide +kernel
theorem dL_1228 : decode code 1228 = .ok (.iconst 1, 1) := by decide +kernel
theorem dL_1229 : decode code 1229 = .ok (.iadd, 1) := by decide +kernel
theorem dL_1230 : decode code 1230 = .ok (.iaload, 1) := by decide +kernel
theorem dL_1231 : decode code 1231 = .ok (.aload_n 0, 1) := by decide +kernel
theorem dL_1232 : decode code 1232 = .ok (.iload_n 3, 1) := by decide +kernel
theorem dL_1233 : decode code 1233 = .ok (.iconst 2, 1) := by decide +kernel
theorem dL_1234 : decode code 1234 = .ok (.iadd, 1) := by decide +kernel
theorem dL_1235 : decode code 1235 = .ok (.iaload, 1) := by decide +kernel
theorem dL_1236 : decode code 1236 = .ok (.aload_n 0, 1) := by decide +kernel
theorem dL_1237 : decode code 1237 = .ok (.iload_n 3, 1) := by decide +kernel
theorem dL_1238 : decode code 1238 = .ok (.iconst 3, 1) := by decide +kernel
theorem dL_1239 : decode code 1239 = .ok (.iadd, 1) := by decide +kernel
theorem dL_1240 : decode code 1240 = .ok (.iaload, 1) := by decide +kernel
theorem dL_1241 : decode code 1241 = .ok (.invokevirtual 138, 3) := by decide +kernel
theorem dL_1244 : decode code 1244 = .ok (.aload_n 2, 1) := by decide +kernel
theorem dL_1245 : decode code 1245 = .ok (.aload_n 0, 1) := by decide +kernel
theorem dL_1246 : decode code 1246 = .ok (.iload_n 3, 1) := by decide +kernel
theorem dL_1247 : decode code 1247 = .ok (.iconst 1, 1) := by decide +kernel
theorem dL_1248 : decode code 1248 = .ok (.iadd, 1) := by decide +kernel
theorem dL_1249 : decode code 1249 = .ok (.iaload, 1) := by decide +kernel
theorem dL_1250 : decode code 1250 = .ok (.aload_n 0, 1) := by decide +kernel
theorem dL_1251 : decode code 1251 = .ok (.iload_n 3, 1) := by decide +kernel
theorem dL_1252 : decode code 1252 = .ok (.iconst 2, 1) := by decide +kernel
theorem dL_1253 : decode code 1253 = .ok (.iadd, 1) := by decide +kernel
theorem dL_1254 : decode code 1254 = .ok (.iaload, 1) := by decide +kernel
theorem dL_1255 : decode code 1255 = .ok (.aload_n 0, 1) := by decide +kernel
theorem dL_1256 : decode code 1256 = .ok (.iload_n 3, 1) := by decide +kernel
theorem dL_1257 : decode code 1257 = .ok (.iconst 3, 1) := by decide +kernel
theorem dL_1258 : decode code 1258 = .ok (.iadd, 1) := by decide +kernel
theorem dL_1259 : decode code 1259 = .ok (.iaload, 1) := by decide +kernel
theorem dL_1260 : decode code 1260 = .ok (.invokevirtual 141, 3) := by decide +kernel
theorem dL_1263 : decode code 1263 = .ok (.if_icmp .eq 285, 3) := by decide +kernel
theorem dL_1266 : decode code 1266 = .ok (.iconst 0, 1) := by decide +kernel
theorem dL_1267 : decode code 1267 = .ok (.ireturn, 1) := by decide +kernel
theorem dL_1268 : decode code 1268 = .ok (.aload_n 1, 1) := by decide +kernel
theorem dL_1269 : decode code 1269 = .ok (.aload_n 0, 1) := by decide +kernel
theorem dL_1270 : decode code 1270 = .ok (.iload_n 3, 1) := by decide +kernel
theorem dL_1271 : decode code 1271 = .ok (.iconst 1, 1) := by decide +kernel
theorem dL_1272 : decode code 1272 = .ok (.iadd, 1) := by decide +kernel
theorem dL_1273 : decode code 1273 = .ok (.iaload, 1) := by decide +kernel
theorem dL_1274 : decode code 1274 = .ok (.aload_n 0, 1) := by decide +kernel
theorem dL_1275 : decode code 1275 = .ok (.iload_n 3, 1) := by decide +kernel
theorem dL_1276 : decode code 1276 = .ok (.iconst 2, 1) := by decide +kernel
theorem dL_1277 : decode code 1277 = .ok (.iadd, 1) := by decide +kernel
theorem dL_1278 : decode code 1278 = .ok (.iaload, 1) := by decide +kernel
theorem dL_1279 : decode code 1279 = .ok (.aload_n 0, 1) := by decide +kernel
theorem dL_1280 : decode code 1280 = .ok (.iload_n 3, 1) := by decide +kernel
theorem dL_1281 : decode code 1281 = .ok (.iconst 3, 1) := by decide +kernel
theorem dL_1282 : decode code 1282 = .ok (.iadd, 1) := by decide +kernel
theorem dL_1283 : decode code 1283 = .ok (.iaload, 1) := by decide +kernel
theorem dL_1284 : decode code 1284 = .ok (.aload_n 0, 1) := by decide +kernel
theorem dL_1285 : decode code 1285 = .ok (.iload_n 3, 1) := by decide +kernel
theorem dL_1286 : decode code 1286 = .ok (.iconst 4, 1) := by decide +kernel
theorem dL_1287 : decode code 1287 = .ok (.iadd, 1) := by decide +kernel
theorem dL_1288 : decode code 1288 = .ok (.iaload, 1) := by decide +kernel
theorem dL_1289 : decode code 1289 = .ok (.invokevirtual 142, 3) := by decide +kernel
theorem dL_1292 : decode code 1292 = .ok (.aload_n 2, 1) := by decide +kernel
theorem dL_1293 : decode code 1293 = .ok (.aload_n 0, 1) := by decide +kernel
theorem dL_1294 : decode code 1294 = .ok (.iload_n 3, 1) := by decide +kernel
theorem dL_1295 : decode code 1295 = .ok (.iconst 1, 1) := by decide +kernel
theorem dL_1296 : decode code 1296 = .ok (.iadd, 1) := by decide +kernel
theorem dL_1297 : decode code 1297 = .ok (.iaload, 1) := by decide +kernel
theorem dL_1298 : decode code 1298 = .ok (.aload_n 0, 1) := by decide +kernel
theorem dL_1299 : decode code 1299 = .ok (.iload_n 3, 1) := by decide +kernel
theorem dL_1300 : decode code 1300 = .ok (.iconst 2, 1) := by decide +kernel
theorem dL_1301 : decode code 1301 = .ok (.iadd, 1) := by decide +kernel
theorem dL_1302 : decode code 1302 = .ok (.iaload, 1) := by decide +kernel
theorem dL_1303 : decode code 1303 = .ok (.aload_n 0, 1) := by decide +kernel
theorem dL_1304 : decode code 1304 = .ok (.iload_n 3, 1) := by decide +kernel
theorem dL_1305 : decode code 1305 = .ok (.iconst 3, 1) := by decide +kernel
theorem dL_1306 : decode code 1306 = .ok (.iadd, 1) := by decide +kernel
theorem dL_1307 : decode code 1307 = .ok (.iaload, 1) := by decide +kernel
theorem dL_1308 : decode code 1308 = .ok (.aload_n 0, 1) := by decide +kernel
theorem dL_1309 : decode code 1309 = .ok (.iload_n 3, 1) := by decide +kernel
theorem dL_1310 : decode code 1310 = .ok (.iconst 4, 1) := by decide +kernel
theorem dL_1311 : decode code 1311 = .ok (.iadd, 1) := by decide +kernel
theorem dL_1312 : decode code 1312 = .ok (.iaload, 1) := by decide +kernel
theorem dL_1313 : decode code 1313 = .ok (.invokevirtual 145, 3) := by decide +kernel
theorem dL_1316 : decode code 1316 = .ok (.if_icmp .eq 232, 3) := by decide +kernel
theorem dL_1319 : decode code 1319 = .ok (.iconst 0, 1) := by decide +kernel
theorem dL_1320 : decode code 1320 = .ok (.ireturn, 1) := by decide +kernel
theorem dL_1321 : decode code 1321 = .ok (.aload_n 1, 1) := by decide +kernel
theorem dL_1322 : decode code 1322 = .ok (.invokevirtual 146, 3) := by decide +kernel
theorem dL_1325 : decode code 1325 = .ok (.aload_n 2, 1) := by decide +kernel
theorem dL_1326 : decode code 1326 = .ok (.invokevirtual 149, 3) := by decide +kernel
theorem dL_1329 : decode code 1329 = .ok (.if_icmp .eq 219, 3) := by decide +kernel
theorem dL_1332 : decode code 1332 = .ok (.iconst 0, 1) := by decide +kernel
theorem dL_1333 : decode code 1333 = .ok (.ireturn, 1) := by decide +kernel
theorem dL_1334 : decode code 1334 = .ok (.aload_n 1, 1) := by decide +kernel
theorem dL_1335 : decode code 1335 = .ok (.invokevirtual 150, 3) := by decide +kernel
theorem dL_1338 : decode code 1338 = .ok (.aload_n 2, 1) := by decide +kernel
theorem dL_1339 : decode code 1339 = .ok (.invokevirtual 153, 3) := by decide +kernel
theorem dL_1342 : decode code 1342 = .ok (.if_icmp .eq 206, 3) := by decide +kernel
theorem dL_1345 : decode code 1345 = .ok (.iconst 0, 1) := by decide +kernel
theorem dL_1346 : decode code 1346 = .ok (.ireturn, 1) := by decide +kernel
theorem dL_1347 : decode code 1347 = .ok (.aload_n 1, 1) := by decide +kernel
theorem dL_1348 : decode code 1348 = .ok (.invokevirtual 154, 3) := by decide +kernel
theorem dL_1351 : decode code 1351 = .ok (.aload_n 2, 1) := by decide +kernel
theorem dL_1352 : decode code 1352 = .ok (.invokevirtual 157, 3) := by decide +kernel
theorem dL_1355 : decode code 1355 = .ok (.if_icmp .eq 193, 3) := by decide +kernel
theorem dL_1358 : decode code 1358 = .ok (.iconst 0, 1) := by decide +kernel
theorem dL_1359 : decode code 1359 = .ok (.ireturn, 1) := by decide +kernel
theorem dL_1360 : decode code 1360 = .ok (.aload_n 1, 1) := by decide +kernel
theorem dL_1361 : decode code 1361 = .ok (.aload_n 0, 1) := by decide +kernel
theorem dL_1362 : decode code 1362 = .ok (.iload_n 3, 1) := by decide +kernel
theorem dL_1363 : decode code 1363 = .ok (.iconst 1, 1) := by decide +kernel
theorem dL_1364 : decode code 1364 = .ok (.iadd, 1) := by decide +kernel
theorem dL_1365 : decode code 1365 = .ok (.iaload, 1) := by decide +kernel
theorem dL_1366 : decode code 1366 = .ok (.aload_n 0, 1) := by decide +kernel
theorem dL_1367 : decode code 1367 = .ok (.iload_n 3, 1) := by decide +kernel
theorem dL_1368 : decode code 1368 = .ok (.iconst 2, 1) := by decide +kernel
theorem dL_1369 : decode code 1369 = .ok (.iadd, 1) := by decide +kernel
theorem dL_1370 : decode code 1370 = .ok (.iaload, 1) := by decide +kernel
theorem dL_1371 : decode code 1371 = .ok (.invokevirtual 158, 3) := by decide +kernel
theorem dL_1374 : decode code 1374 = .ok (.aload_n 2, 1) := by decide +kernel
theorem dL_1375 : decode code 1375 = .ok (.aload_n 0, 1) := by decide +kernel
theorem dL_1376 : decode code 1376 = .ok (.iload_n 3, 1) := by decide +kernel
theorem dL_1377 : decode code 1377 = .ok (.iconst 1, 1) := by decide +kernel
theorem dL_1378 : decode code 1378 = .ok (.iadd, 1) := by decide +kernel
theorem dL_1379 : decode code 1379 = .ok (.iaload, 1) := by decide +kernel
theorem dL_1380 : decode code 1380 = .ok (.aload_n 0, 1) := by decide +kernel
theorem dL_1381 : decode code 1381 = .ok (.iload_n 3, 1) := by decide +kernel
theorem dL_1382 : decode code 1382 = .ok (.iconst 2, 1) := by decide +kernel
theorem dL_1383 : decode code 1383 = .ok (.iadd, 1) := by decide +kernel
theorem dL_1384 : decode code 1384 = .ok (.iaload, 1) := by decide +kernel
theorem dL_1385 : decode code 1385 = .ok (.invokevirtual 161, 3) := by decide +kernel
theorem dL_1388 : decode code 1388 = .ok (.if_icmp .eq 160, 3) := by decide +kernel
theorem dL_1391 : decode code 1391 = .ok (.iconst 0, 1) := by decide +kernel
theorem dL_1392 : decode code 1392 = .ok (.ireturn, 1) := by decide +kernel
theorem dL_1393 : decode code 1393 = .ok (.aload_n 1, 1) := by decide +kernel
theorem dL_1394 : decode code 1394 = .ok (.aload_n 0, 1) := by decide +kernel
theorem dL_1395 : decode code 1395 = .ok (.iload_n 3, 1) := by decide +kernel
theorem dL_1396 : decode code 1396 = .ok (.iconst 1, 1) := by decide +kernel
theorem dL_1397 : decode code 1397 = .ok (.iadd, 1) := by decide +kernel
theorem dL_1398 : decode code 1398 = .ok (.iaload, 1) := by decide +kernel
theorem dL_1399 : decode code 1399 = .ok (.aload_n 0, 1) := by decide +kernel
theorem dL_1400 : decode code 1400 = .ok (.iload_n 3, 1) := by decide +kernel
theorem dL_1401 : decode code 1401 = .ok (.iconst 2, 1) := by decide +kernel
theorem dL_1402 : decode code 1402 = .ok (.iadd, 1) := by decide +kernel
theorem dL_1403 : decode code 1403 = .ok (.iaload, 1) := by decide +kernel
theorem dL_1404 : decode code 1404 = .ok (.invokevirtual 162, 3) := by decide +kernel
theorem dL_1407 : decode code 1407 = .ok (.aload_n 2, 1) := by decide +kernel
theorem dL_1408 : decode code 1408 = .ok (.aload_n 0, 1) := by decide +kernel
theorem dL_1409 : decode code 1409 = .ok (.iload_n 3, 1) := by decide +kernel
theorem dL_1410 : decode code 1410 = .ok (.iconst 1, 1) := by decide +kernel
theorem dL_1411 : decode code 1411 = .ok (.iadd, 1) := by decide +kernel
theorem dL_1412 : decode code 1412 = .ok (.iaload, 1) := by decide +kernel
theorem dL_1413 : decode code 1413 = .ok (.aload_n 0, 1) := by decide +kernel
theorem dL_1414 : decode code 1414 = .ok (.iload_n 3, 1) := by decide +kernel
theorem dL_1415 : decode code 1415 = .ok (.iconst 2, 1) := by decide +kernel
theorem dL_1416 : decode code 1416 = .ok (.iadd, 1) := by decide +kernel
theorem dL_1417 : decode code 1417 = .ok (.iaload, 1) := by decide +kernel
theorem dL_1418 : decode code 1418 = .ok (.invokevirtual 165, 3) := by decide +kernel
theorem dL_1421 : decode code 1421 = .ok (.if_icmp .eq 127, 3) := by decide +kernel
theorem dL_1424 : decode code 1424 = .ok (.iconst 0, 1) := by decide +kernel
theorem dL_1425 : decode code 1425 = .ok (.ireturn, 1) := by decide +kernel
theorem dL_1426 : decode code 1426 = .ok (.aload_n 1, 1) := by decide +kernel
theorem dL_1427 : decode code 1427 = .ok (.aload_n 0, 1) := by decide +kernel
theorem dL_1428 : decode code 1428 = .ok (.iload_n 3, 1) := by decide +kernel
theorem dL_1429 : decode code 1429 = .ok (.iconst 1, 1) := by decide +kernel
theorem dL_1430 : decode code 1430 = .ok (.iadd, 1) := by decide +kernel
theorem dL_1431 : decode code 1431 = .ok (.iaload, 1) := by decide +kernel
theorem dL_1432 : decode code 1432 = .ok (.aload_n 0, 1) := by decide +kernel
theorem dL_1433 : decode code 1433 = .ok (.iload_n 3, 1) := by decide +kernel
theorem dL_1434 : decode code 1434 = .ok (.iconst 2, 1) := by decide +kernel
theorem dL_1435 : decode code 1435 = .ok (.iadd, 1) := by decide +kernel
theorem dL_1436 : decode code 1436 = .ok (.iaload, 1) := by decide +kernel
theorem dL_1437 : decode code 1437 = .ok (.invokevirtual 166, 3) := by decide +kernel
theorem dL_1440 : decode code 1440 = .ok (.aload_n 2, 1) := by decide +kernel
theorem dL_1441 : decode code 1441 = .ok (.aload_n 0, 1) := by decide +kernel
theorem dL_1442 : decode code 1442 = .ok (.iload_n 3, 1) := by decide +kernel
theorem dL_1443 : decode code 1443 = .ok (.iconst 1, 1) := by decide +kernel
theorem dL_1444 : decode code 1444 = .ok (.iadd, 1) := by decide +kernel
theorem dL_1445 : decode code 1445 = .ok (.iaload, 1) := by decide +kernel
theorem dL_1446 : decode code 1446 = .ok (.aload_n 0, 1) := by decide +kernel
theorem dL_1447 : decode code 1447 = .ok (.iload_n 3, 1) := by decide +kernel
theorem dL_1448 : decode code 1448 = .ok (.iconst 2, 1) := by decide +kernel
theorem dL_1449 : decode code 1449 = .ok (.iadd, 1) := by decide +kernel
theorem dL_1450 : decode code 1450 = .ok (.iaload, 1) := by decide +kernel
theorem dL_1451 : decode code 1451 = .ok (.invokevirtual 169, 3) := by decide +kernel
theorem dL_1454 : decode code 1454 = .ok (.if_icmp .eq 94, 3) := by decide +kernel
theorem dL_1457 : decode code 1457 = .ok (.iconst 0, 1) := by decide +kernel
theorem dL_1458 : decode code 1458 = .ok (.ireturn, 1) := by decide +kernel
theorem dL_1459 : decode code 1459 = .ok (.aload_n 1, 1) := by decide +kernel
theorem dL_1460 : decode code 1460 = .ok (.aload_n 0, 1) := by decide +kernel
theorem dL_1461 : decode code 1461 = .ok (.iload_n 3, 1) := by decide +kernel
theorem dL_1462 : decode code 1462 = .ok (.iconst 1, 1) := by decide +kernel
theorem dL_1463 : decode code 1463 = .ok (.iadd, 1) := by decide +kernel
theorem dL_1464 : decode code 1464 = .ok (.iaload, 1) := by decide +kernel
theorem dL_1465 : decode code 1465 = .ok (.invokevirtual 170, 3) := by decide +kernel
theorem dL_1468 : decode code 1468 = .ok (.aload_n 2, 1) := by decide +kernel
theorem dL_1469 : decode code 1469 = .ok (.aload_n 0, 1) := by decide +kernel
theorem dL_1470 : decode code 1470 = .ok (.iload_n 3, 1) := by decide +kernel
theorem dL_1471 : decode code 1471 = .ok (.iconst 1, 1) := by decide +kernel
theorem dL_1472 : decode code 1472 = .ok (.iadd, 1) := by decide +kernel
theorem dL_1473 : decode code 1473 = .ok (.iaload, 1) := by decide +kernel
theorem dL_1474 : decode code 1474 = .ok (.invokevirtual 173, 3) := by decide +kernel
theorem dL_1477 : decode code 1477 = .ok (.if_icmp .eq 71, 3) := by decide +kernel
theorem dL_1480 : decode code 1480 = .ok (.iconst 0, 1) := by decide +kernel
theorem dL_1481 : decode code 1481 = .ok (.ireturn, 1) := by decide +kernel
theorem dL_1482 : decode code 1482 = .ok (.aload_n 1, 1) := by decide +kernel
theorem dL_1483 : decode code 1483 = .ok (.aload_n 0, 1) := by decide +kernel
theorem dL_1484 : decode code 1484 = .ok (.iload_n 3, 1) := by decide +kernel
theorem dL_1485 : decode code 1485 = .ok (.iconst 1, 1) := by decide +kernel
theorem dL_1486 : decode code 1486 = .ok (.iadd, 1) := by decide +kernel
theorem dL_1487 : decode code 1487 = .ok (.iaload, 1) := by decide +kernel
theorem dL_1488 : decode code 1488 = .ok (.aload_n 0, 1) := by decide +kernel
theorem dL_1489 : decode code 1489 = .ok (.iload_n 3, 1) := by decide +kernel
theorem dL_1490 : decode code 1490 = .ok (.iconst 2, 1) := by decide +kernel
theorem dL_1491 : decode code 1491 = .ok (.iadd, 1) := by decide +kernel
theorem dL_1492 : decode code 1492 = .ok (.iaload, 1) := by decide +kernel
theorem dL_1493 : decode code 1493 = .ok (.aload_n 0, 1) := by decide +kernel
theorem dL_1494 : decode code 1494 = .ok (.iload_n 3, 1) := by decide +kernel
theorem dL_1495 : decode code 1495 = .ok (.iconst 3, 1) := by decide +kernel
theorem dL_1496 : decode code 1496 = .ok (.iadd, 1) := by decide +kernel
theorem dL_1497 : decode code 1497 = .ok (.iaload, 1) := by decide +kernel
theorem dL_1498 : decode code 1498 = .ok (.invokevirtual 174, 3) := by decide +kernel
theorem dL_1501 : decode code 1501 = .ok (.aload_n 2, 1) := by decide +kernel
theorem dL_1502 : decode code 1502 = .ok (.aload_n 0, 1) := by decide +kernel
theorem dL_1503 : decode code 1503 = .ok (.iload_n 3, 1) := by decide +kernel
theorem dL_1504 : decode code 1504 = .ok (.iconst 1, 1) := by decide +kernel
theorem dL_1505 : decode code 1505 = .ok (.iadd, 1) := by decide +kernel
theorem dL_1506 : decode code 1506 = .ok (.iaload, 1) := by decide +kernel
theorem dL_1507 : decode code 1507 = .ok (.aload_n 0, 1) := by decide +kernel
theorem dL_1508 : decode code 1508 = .ok (.iload_n 3, 1) := by decide +kernel
theorem dL_1509 : decode code 1509 = .ok (.iconst 2, 1) := by decide +kernel
theorem dL_1510 : decode code 1510 = .ok (.iadd, 1) := by decide +kernel
theorem dL_1511 : decode code 1511 = .ok (.iaload, 1) := by decide +kernel
theorem dL_1512 : decode code 1512 = .ok (.aload_n 0, 1) := by decide +kernel
theorem dL_1513 : decode code 1513 = .ok (.iload_n 3, 1) := by decide +kernel
theorem dL_1514 : decode code 1514 = .ok (.iconst 3, 1) := by decide +kernel
theorem dL_1515 : decode code 1515 = .ok (.iadd, 1) := by decide +kernel
theorem dL_1516 : decode code 1516 = .ok (.iaload, 1) := by decide +kernel
theorem dL_1517 : decode code 1517 = .ok (.invokevirtual 177, 3) := by decide +kernel
theorem dL_1520 : decode code 1520 = .ok (.if_icmp .eq 28, 3) := by decide +kernel
theorem dL_1523 : decode code 1523 = .ok (.iconst 0, 1) := by decide +kernel
theorem dL_1524 : decode code 1524 = .ok (.ireturn, 1) := by decide +kernel
theorem dL_1525 : decode code 1525 = .ok (.aload_n 1, 1) := by decide +kernel
theorem dL_1526 : decode code 1526 = .ok (.aload_n 0, 1) := by decide +kernel
theorem dL_1527 : decode code 1527 = .ok (.iload_n 3, 1) := by decide +kernel
theorem dL_1528 : decode code 1528 = .ok (.iconst 1, 1) := by decide +kernel
theorem dL_1529 : decode code 1529 = .ok (.iadd, 1) := by decide +kernel
theorem dL_1530 : decode code 1530 = .ok (.iaload, 1) := by decide +kernel
theorem dL_1531 : decode code 1531 = .ok (.invokevirtual 178, 3) := by decide +kernel
theorem dL_1534 : decode code 1534 = .ok (.aload_n 2, 1) := by decide +kernel
theorem dL_1535 : decode code 1535 = .ok (.aload_n 0, 1) := by decide +kernel
theorem dL_1536 : decode code 1536 = .ok (.iload_n 3, 1) := by decide +kernel
theorem dL_1537 : decode code 1537 = .ok (.iconst 1, 1) := by decide +kernel
theorem dL_1538 : decode code 1538 = .ok (.iadd, 1) := by decide +kernel
theorem dL_1539 : decode code 1539 = .ok (.iaload, 1) := by decide +kernel
theorem dL_1540 : decode code 1540 = .ok (.invokevirtual 181, 3) := by decide +kernel
theorem dL_1543 : decode code 1543 = .ok (.if_icmp .eq 5, 3) := by decide +kernel
theorem dL_1546 : decode code 1546 = .ok (.iconst 0, 1) := by decide +kernel
theorem dL_1547 : decode code 1547 = .ok (.ireturn, 1) := by decide +kernel
theorem dL_1548 : decode code 1548 = .ok (.iinc 3 6, 3) := by decide +kernel
theorem dL_1551 : decode code 1551 = .ok (.goto (-1533), 3) := by decide +kernel
theorem dL_1554 : decode code 1554 = .ok (.iconst 1, 1) := by decide +kernel
theorem dL_1555 : decode code 1555 = .ok (.ireturn, 1) := by decide +kernel
