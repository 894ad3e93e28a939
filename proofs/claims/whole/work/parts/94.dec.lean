theorem dL_law_1144 : decode code 1144 = .ok (.iadd, 1) := by decide +kernel
theorem dL_law_1145 : decode code 1145 = .ok (.iaload, 1) := by decide +kernel
theorem dL_law_1146 : decode code 1146 = .ok (.aload_n 3, 1) := by decide +kernel
theorem dL_law_1147 : decode code 1147 = .ok (.invokestatic 184, 3) := by decide +kernel
theorem dL_law_1150 : decode code 1150 = .ok (.istore 6, 2) := by decide +kernel
theorem dL_law_1152 : decode code 1152 = .ok (.aload_n 2, 1) := by decide +kernel
theorem dL_law_1153 : decode code 1153 = .ok (.aload_n 0, 1) := by decide +kernel
theorem dL_law_1154 : decode code 1154 = .ok (.iload 5, 2) := by decide +kernel
theorem dL_law_1156 : decode code 1156 = .ok (.iconst 1, 1) := by decide +kernel
theorem dL_law_1157 : decode code 1157 = .ok (.iadd, 1) := by decide +kernel
theorem dL_law_1158 : decode code 1158 = .ok (.iaload, 1) := by decide +kernel
theorem dL_law_1159 : decode code 1159 = .ok (.aload_n 0, 1) := by decide +kernel
theorem dL_law_1160 : decode code 1160 = .ok (.iload 5, 2) := by decide +kernel
theorem dL_law_1162 : decode code 1162 = .ok (.iconst 2, 1) := by decide +kernel
theorem dL_law_1163 : decode code 1163 = .ok (.iadd, 1) := by decide +kernel
theorem dL_law_1164 : decode code 1164 = .ok (.iaload, 1) := by decide +kernel
theorem dL_law_1165 : decode code 1165 = .ok (.aload_n 0, 1) := by decide +kernel
theorem dL_law_1166 : decode code 1166 = .ok (.iload 5, 2) := by decide +kernel
theorem dL_law_1168 : decode code 1168 = .ok (.iconst 3, 1) := by decide +kernel
theorem dL_law_1169 : decode code 1169 = .ok (.iadd, 1) := by decide +kernel
theorem dL_law_1170 : decode code 1170 = .ok (.iaload, 1) := by decide +kernel
theorem dL_law_1171 : decode code 1171 = .ok (.invokevirtual 186, 3) := by decide +kernel
theorem dL_law_1174 : decode code 1174 = .ok (.istore 7, 2) := by decide +kernel
theorem dL_law_1176 : decode code 1176 = .ok (.aload_n 2, 1) := by decide +kernel
theorem dL_law_1177 : decode code 1177 = .ok (.invokevirtual 149, 3) := by decide +kernel
theorem dL_law_1180 : decode code 1180 = .ok (.iload 6, 2) := by decide +kernel
theorem dL_law_1182 : decode code 1182 = .ok (.if_icmp .eq 5, 3) := by decide +kernel
theorem dL_law_1185 : decode code 1185 = .ok (.iconst 0, 1) := by decide +kernel
theorem dL_law_1187 : decode code 1187 = .ok (.iload 6, 2) := by decide +kernel
theorem dL_law_1189 : decode code 1189 = .ok (.ifCond .ne 15, 3) := by decide +kernel
theorem dL_law_1192 : decode code 1192 = .ok (.aload_n 3, 1) := by decide +kernel
theorem dL_law_1193 : decode code 1193 = .ok (.iconst 0, 1) := by decide +kernel
theorem dL_law_1194 : decode code 1194 = .ok (.laload, 1) := by decide +kernel
theorem dL_law_1195 : decode code 1195 = .ok (.iload 7, 2) := by decide +kernel
theorem dL_law_1197 : decode code 1197 = .ok (.i2l, 1) := by decide +kernel
theorem dL_law_1198 : decode code 1198 = .ok (.lcmp, 1) := by decide +kernel
theorem dL_law_1199 : decode code 1199 = .ok (.ifCond .eq 5, 3) := by decide +kernel
theorem dL_law_1202 : decode code 1202 = .ok (.iconst 0, 1) := by decide +kernel
theorem dL_law_1204 : decode code 1204 = .ok (.goto 1315, 3) := by decide +kernel
theorem dL_law_1207 : decode code 1207 = .ok (.aload_n 1, 1) := by decide +kernel
theorem dL_law_1208 : decode code 1208 = .ok (.aload_n 0, 1) := by decide +kernel
theorem dL_law_1209 : decode code 1209 = .ok (.iload 5, 2) := by decide +kernel
theorem dL_law_1211 : decode code 1211 = .ok (.iconst 1, 1) := by decide +kernel
theorem dL_law_1212 : decode code 1212 = .ok (.iadd, 1) := by decide +kernel
theorem dL_law_1213 : decode code 1213 = .ok (.iaload, 1) := by decide +kernel
theorem dL_law_1214 : decode code 1214 = .ok (.aload_n 0, 1) := by decide +kernel
theorem dL_law_1215 : decode code 1215 = .ok (.iload 5, 2) := by decide +kernel
theorem dL_law_1217 : decode code 1217 = .ok (.iconst 2, 1) := by decide +kernel
theorem dL_law_1218 : decode code 1218 = .ok (.iadd, 1) := by decide +kernel
theorem dL_law_1219 : decode code 1219 = .ok (.iaload, 1) := by decide +kernel
theorem dL_law_1220 : decode code 1220 = .ok (.aload_n 0, 1) := by decide +kernel
theorem dL_law_1221 : decode code 1221 = .ok (.iload 5, 2) := by decide +kernel
theorem dL_law_1223 : decode code 1223 = .ok (.iconst 3, 1) := by decide +kernel
theorem dL_law_1224 : decode code 1224 = .ok (.iadd, 1) := by decide +kernel
theorem dL_law_1225 : decode code 1225 = .ok (.iaload, 1) := by decide +kernel
theorem dL_law_1226 : decode code 1226 = .ok (.aload_n 0, 1) := by decide +kernel
theorem dL_law_1227 : decode code 1227 = .ok (.iload 5, 2) := by decide +kernel
theorem dL_law_1229 : decode code 1229 = .ok (.iconst 4, 1) := by decide +kernel
theorem dL_law_1230 : decode code 1230 = .ok (.iadd, 1) := by decide +kernel
theorem dL_law_1231 : decode code 1231 = .ok (.iaload, 1) := by decide +kernel
theorem dL_law_1232 : decode code 1232 = .ok (.aload_n 0, 1) := by decide +kernel
theorem dL_law_1233 : decode code 1233 = .ok (.iload 5, 2) := by decide +kernel
theorem dL_law_1235 : decode code 1235 = .ok (.iconst 5, 1) := by decide +kernel
theorem dL_law_1236 : decode code 1236 = .ok (.iadd, 1) := by decide +kernel
theorem dL_law_1237 : decode code 1237 = .ok (.iaload, 1) := by decide +kernel
theorem dL_law_1238 : decode code 1238 = .ok (.aload_n 3, 1) := by decide +kernel
theorem dL_law_1239 : decode code 1239 = .ok (.invokestatic 187, 3) := by decide +kernel
theorem dL_law_1242 : decode code 1242 = .ok (.istore 6, 2) := by decide +kernel
theorem dL_law_1244 : decode code 1244 = .ok (.aload_n 2, 1) := by decide +kernel
theorem dL_law_1245 : decode code 1245 = .ok (.aload_n 0, 1) := by decide +kernel
theorem dL_law_1246 : decode code 1246 = .ok (.iload 5, 2) := by decide +kernel
theorem dL_law_1248 : decode code 1248 = .ok (.iconst 1, 1) := by decide +kernel
theorem dL_law_1249 : decode code 1249 = .ok (.iadd, 1) := by decide +kernel
theorem dL_law_1250 : decode code 1250 = .ok (.iaload, 1) := by decide +kernel
theorem dL_law_1251 : decode code 1251 = .ok (.aload_n 0, 1) := by decide +kernel
theorem dL_law_1252 : decode code 1252 = .ok (.iload 5, 2) := by decide +kernel
theorem dL_law_1254 : decode code 1254 = .ok (.iconst 2, 1) := by decide +kernel
theorem dL_law_1255 : decode code 1255 = .ok (.iadd, 1) := by decide +kernel
theorem dL_law_1256 : decode code 1256 = .ok (.iaload, 1) := by decide +kernel
theorem dL_law_1257 : decode code 1257 = .ok (.aload_n 0, 1) := by decide +kernel
theorem dL_law_1258 : decode code 1258 = .ok (.iload 5, 2) := by decide +kernel
theorem dL_law_1260 : decode code 1260 = .ok (.iconst 3, 1) := by decide +kernel
theorem dL_law_1261 : decode code 1261 = .ok (.iadd, 1) := by decide +kernel
theorem dL_law_1262 : decode code 1262 = .ok (.iaload, 1) := by decide +kernel
theorem dL_law_1263 : decode code 1263 = .ok (.aload_n 0, 1) := by decide +kernel
theorem dL_law_1264 : decode code 1264 = .ok (.iload 5, 2) := by decide +kernel
theorem dL_law_1266 : decode code 1266 = .ok (.iconst 4, 1) := by decide +kernel
theorem dL_law_1267 : decode code 1267 = .ok (.iadd, 1) := by decide +kernel
theorem dL_law_1268 : decode code 1268 = .ok (.iaload, 1) := by decide +kernel
theorem dL_law_1269 : decode code 1269 = .ok (.aload_n 0, 1) := by decide +kernel
theorem dL_law_1270 : decode code 1270 = .ok (.iload 5, 2) := by decide +kernel
theorem dL_law_1272 : decode code 1272 = .ok (.iconst 5, 1) := by decide +kernel
theorem dL_law_1273 : decode code 1273 = .ok (.iadd, 1) := by decide +kernel
theorem dL_law_1274 : decode code 1274 = .ok (.iaload, 1) := by decide +kernel
theorem dL_law_1275 : decode code 1275 = .ok (.invokevirtual 190, 3) := by decide +kernel
theorem dL_law_1278 : decode code 1278 = .ok (.istore 7, 2) := by decide +kernel
theorem dL_law_1280 : decode code 1280 = .ok (.aload_n 2, 1) := by decide +kernel
theorem dL_law_1281 : decode code 1281 = .ok (.invokevirtual 149, 3) := by decide +kernel
theorem dL_law_1284 : decode code 1284 = .ok (.iload 6, 2) := by decide +kernel
theorem dL_law_1286 : decode code 1286 = .ok (.if_icmp .eq 5, 3) := by decide +kernel
theorem dL_law_1289 : decode code 1289 = .ok (.iconst 0, 1) := by decide +kernel
theorem dL_law_1291 : decode code 1291 = .ok (.iload 6, 2) := by decide +kernel
theorem dL_law_1293 : decode code 1293 = .ok (.ifCond .ne 15, 3) := by decide +kernel
theorem dL_law_1296 : decode code 1296 = .ok (.aload_n 3, 1) := by decide +kernel
theorem dL_law_1297 : decode code 1297 = .ok (.iconst 0, 1) := by decide +kernel
theorem dL_law_1298 : decode code 1298 = .ok (.laload, 1) := by decide +kernel
theorem dL_law_1299 : decode code 1299 = .ok (.iload 7, 2) := by decide +kernel
theorem dL_law_1301 : decode code 1301 = .ok (.i2l, 1) := by decide +kernel
theorem dL_law_1302 : decode code 1302 = .ok (.lcmp, 1) := by decide +kernel
theorem dL_law_1303 : decode code 1303 = .ok (.ifCond .eq 5, 3) := by decide +kernel
theorem dL_law_1306 : decode code 1306 = .ok (.iconst 0, 1) := by decide +kernel
theorem dL_law_1308 : decode code 1308 = .ok (.goto 1211, 3) := by decide +kernel
theorem dL_law_1311 : decode code 1311 = .ok (.aload_n 1, 1) := by decide +kernel
theorem dL_law_1312 : decode code 1312 = .ok (.aload_n 0, 1) := by decide +kernel
theorem dL_law_1313 : decode code 1313 = .ok (.iload 5, 2) := by decide +kernel
theorem dL_law_1315 : decode code 1315 = .ok (.iconst 1, 1) := by decide +kernel
theorem dL_law_1316 : decode code 1316 = .ok (.iadd, 1) := by decide +kernel
theorem dL_law_1317 : decode code 1317 = .ok (.iaload, 1) := by decide +kernel
theorem dL_law_1318 : decode code 1318 = .ok (.aload_n 0, 1) := by decide +kernel
theorem dL_law_1319 : decode code 1319 = .ok (.iload 5, 2) := by decide +kernel
theorem dL_law_1321 : decode code 1321 = .ok (.iconst 2, 1) := by decide +kernel
theorem dL_law_1322 : decode code 1322 = .ok (.iadd, 1) := by decide +kernel
theorem dL_law_1323 : decode code 1323 = .ok (.iaload, 1) := by decide +kernel
theorem dL_law_1324 : decode code 1324 = .ok (.aload_n 3, 1) := by decide +kernel
theorem dL_law_1325 : decode code 1325 = .ok (.invokestatic 191, 3) := by decide +kernel
theorem dL_law_1328 : decode code 1328 = .ok (.istore 6, 2) := by decide +kernel
theorem dL_law_1330 : decode code 1330 = .ok (.aload_n 2, 1) := by decide +kernel
theorem dL_law_1331 : decode code 1331 = .ok (.aload_n 0, 1) := by decide +kernel
theorem dL_law_1332 : decode code 1332 = .ok (.iload 5, 2) := by decide +kernel
theorem dL_law_1334 : decode code 1334 = .ok (.iconst 1, 1) := by decide +kernel
theorem dL_law_1335 : decode code 1335 = .ok (.iadd, 1) := by decide +kernel
theorem dL_law_1336 : decode code 1336 = .ok (.iaload, 1) := by decide +kernel
theorem dL_law_1337 : decode code 1337 = .ok (.aload_n 0, 1) := by decide +kernel
theorem dL_law_1338 : decode code 1338 = .ok (.iload 5, 2) := by decide +kernel
theorem dL_law_1340 : decode code 1340 = .ok (.iconst 2, 1) := by decide +kernel
theorem dL_law_1341 : decode code 1341 = .ok (.iadd, 1) := by decide +kernel
theorem dL_law_1342 : decode code 1342 = .ok (.iaload, 1) := by decide +kernel
theorem dL_law_1343 : decode code 1343 = .ok (.invokevirtual 193, 3) := by decide +kernel
theorem dL_law_1346 : decode code 1346 = .ok (.istore 7, 2) := by decide +kernel
theorem dL_law_1348 : decode code 1348 = .ok (.aload_n 2, 1) := by decide +kernel
theorem dL_law_1349 : decode code 1349 = .ok (.invokevirtual 149, 3) := by decide +kernel
theorem dL_law_1352 : decode code 1352 = .ok (.iload 6, 2) := by decide +kernel
theorem dL_law_1354 : decode code 1354 = .ok (.if_icmp .eq 5, 3) := by decide +kernel
theorem dL_law_1357 : decode code 1357 = .ok (.iconst 0, 1) := by decide +kernel
theorem dL_law_1359 : decode code 1359 = .ok (.iload 6, 2) := by decide +kernel
theorem dL_law_1361 : decode code 1361 = .ok (.ifCond .ne 15, 3) := by decide +kernel
theorem dL_law_1364 : decode code 1364 = .ok (.aload_n 3, 1) := by decide +kernel
theorem dL_law_1365 : decode code 1365 = .ok (.iconst 0, 1) := by decide +kernel
theorem dL_law_1366 : decode code 1366 = .ok (.laload, 1) := by decide +kernel
theorem dL_law_1367 : decode code 1367 = .ok (.iload 7, 2) := by decide +kernel
theorem dL_law_1369 : decode code 1369 = .ok (.i2l, 1) := by decide +kernel
theorem dL_law_1370 : decode code 1370 = .ok (.lcmp, 1) := by decide +kernel
theorem dL_law_1371 : decode code 1371 = .ok (.ifCond .eq 5, 3) := by decide +kernel
theorem dL_law_1374 : decode code 1374 = .ok (.iconst 0, 1) := by decide +kernel
theorem dL_law_1376 : decode code 1376 = .ok (.goto 1143, 3) := by decide +kernel
theorem dL_law_1379 : decode code 1379 = .ok (.aload_n 1, 1) := by decide +kernel
theorem dL_law_1380 : decode code 1380 = .ok (.aload_n 0, 1) := by decide +kernel
theorem dL_law_1381 : decode code 1381 = .ok (.iload 5, 2) := by decide +kernel
theorem dL_law_1383 : decode code 1383 = .ok (.iconst 1, 1) := by decide +kernel
theorem dL_law_1384 : decode code 1384 = .ok (.iadd, 1) := by decide +kernel
theorem dL_law_1385 : decode code 1385 = .ok (.iaload, 1) := by decide +kernel
theorem dL_law_1386 : decode code 1386 = .ok (.aload_n 3, 1) := by decide +kernel
theorem dL_law_1387 : decode code 1387 = .ok (.invokestatic 194, 3) := by decide +kernel
theorem dL_law_1390 : decode code 1390 = .ok (.istore 6, 2) := by decide +kernel
theorem dL_law_1392 : decode code 1392 = .ok (.aload_n 2, 1) := by decide +kernel
theorem dL_law_1393 : decode code 1393 = .ok (.aload_n 0, 1) := by decide +kernel
theorem dL_law_1394 : decode code 1394 = .ok (.iload 5, 2) := by decide +kernel
theorem dL_law_1396 : decode code 1396 = .ok (.iconst 1, 1) := by decide +kernel
theorem dL_law_1397 : decode code 1397 = .ok (.iadd, 1) := by decide +kernel
theorem dL_law_1398 : decode code 1398 = .ok (.iaload, 1) := by decide +kernel
theorem dL_law_1399 : decode code 1399 = .ok (.invokevirtual 196, 3) := by decide +kernel
theorem dL_law_1402 : decode code 1402 = .ok (.istore 7, 2) := by decide +kernel
theorem dL_law_1404 : decode code 1404 = .ok (.aload_n 2, 1) := by decide +kernel
theorem dL_law_1405 : decode code 1405 = .ok (.invokevirtual 149, 3) := by decide +kernel
theorem dL_law_1408 : decode code 1408 = .ok (.iload 6, 2) := by decide +kernel
theorem dL_law_1410 : decode code 1410 = .ok (.if_icmp .eq 5, 3) := by decide +kernel
theorem dL_law_1413 : decode code 1413 = .ok (.iconst 0, 1) := by decide +kernel
theorem dL_law_1415 : decode code 1415 = .ok (.iload 6, 2) := by decide +kernel
theorem dL_law_1417 : decode code 1417 = .ok (.ifCond .ne 15, 3) := by decide +kernel
theorem dL_law_1420 : decode code 1420 = .ok (.aload_n 3, 1) := by decide +kernel
theorem dL_law_1421 : decode code 1421 = .ok (.iconst 0, 1) := by decide +kernel
theorem dL_law_1422 : decode code 1422 = .ok (.laload, 1) := by decide +kernel
theorem dL_law_1423 : decode code 1423 = .ok (.iload 7, 2) := by decide +kernel
theorem dL_law_1425 : decode code 1425 = .ok (.i2l, 1) := by decide +kernel
theorem dL_law_1426 : decode code 1426 = .ok (.lcmp, 1) := by decide +kernel
theorem dL_law_1427 : decode code 1427 = .ok (.ifCond .eq 5, 3) := by decide +kernel
theorem dL_law_1430 : decode code 1430 = .ok (.iconst 0, 1) := by decide +kernel
theorem dL_law_1432 : decode code 1432 = .ok (.goto 1087, 3) := by decide +kernel
theorem dL_law_1435 : decode code 1435 = .ok (.aload_n 1, 1) := by decide +kernel
theorem dL_law_1436 : decode code 1436 = .ok (.aload_n 0, 1) := by decide +kernel
theorem dL_law_1437 : decode code 1437 = .ok (.iload 5, 2) := by decide +kernel
theorem dL_law_1439 : decode code 1439 = .ok (.iconst 1, 1) := by decide +kernel
theorem dL_law_1440 : decode code 1440 = .ok (.iadd, 1) := by decide +kernel
theorem dL_law_1441 : decode code 1441 = .ok (.iaload, 1) := by decide +kernel
theorem dL_law_1442 : decode code 1442 = .ok (.aload_n 3, 1) := by decide +kernel
theorem dL_law_1443 : decode code 1443 = .ok (.invokestatic 197, 3) := by decide +kernel
theorem dL_law_1446 : decode code 1446 = .ok (.istore 6, 2) := by decide +kernel
theorem dL_law_1448 : decode code 1448 = .ok (.aload_n 2, 1) := by decide +kernel
theorem dL_law_1449 : decode code 1449 = .ok (.aload_n 0, 1) := by decide +kernel
theorem dL_law_1450 : decode code 1450 = .ok (.iload 5, 2) := by decide +kernel
theorem dL_law_1452 : decode code 1452 = .ok (.iconst 1, 1) := by decide +kernel
theorem dL_law_1453 : decode code 1453 = .ok (.iadd, 1) := by decide +kernel
theorem dL_law_1454 : decode code 1454 = .ok (.iaload, 1) := by decide +kernel
theorem dL_law_1455 : decode code 1455 = .ok (.invokevirtual 199, 3) := by decide +kernel
theorem dL_law_1458 : decode code 1458 = .ok (.istore 7, 2) := by decide +kernel
theorem dL_law_1460 : decode code 1460 = .ok (.aload_n 2, 1) := by decide +kernel
theorem dL_law_1461 : decode code 1461 = .ok (.invokevirtual 149, 3) := by decide +kernel
theorem dL_law_1464 : decode code 1464 = .ok (.iload 6, 2) := by decide +kernel
theorem dL_law_1466 : decode code 1466 = .ok (.if_icmp .eq 5, 3) := by decide +kernel
theorem dL_law_1469 : decode code 1469 = .ok (.iconst 0, 1) := by decide +kernel
theorem dL_law_1471 : decode code 1471 = .ok (.iload 6, 2) := by decide +kernel
theorem dL_law_1473 : decode code 1473 = .ok (.ifCond .ne 15, 3) := by decide +kernel
theorem dL_law_1476 : decode code 1476 = .ok (.aload_n 3, 1) := by decide +kernel
theorem dL_law_1477 : decode code 1477 = .ok (.iconst 0, 1) := by decide +kernel
theorem dL_law_1478 : decode code 1478 = .ok (.laload, 1) := by decide +kernel
theorem dL_law_1479 : decode code 1479 = .ok (.iload 7, 2) := by decide +kernel
theorem dL_law_1481 : decode code 1481 = .ok (.i2l, 1) := by decide +kernel
theorem dL_law_1482 : decode code 1482 = .ok (.lcmp, 1) := by decide +kernel
theorem dL_law_1483 : decode code 1483 = .ok (.ifCond .eq 5, 3) := by decide +kernel
theorem dL_law_1486 : decode code 1486 = .ok (.iconst 0, 1) := by decide +kernel
theorem dL_law_1488 : decode code 1488 = .ok (.goto 1031, 3) := by decide +kernel
theorem dL_law_1491 : decode code 1491 = .ok (.aload_n 1, 1) := by decide +kernel
theorem dL_law_1492 : decode code 1492 = .ok (.aload_n 0, 1) := by decide +kernel
theorem dL_law_1493 : decode code 1493 = .ok (.iload 5, 2) := by decide +kernel
theorem dL_law_1495 : decode code 1495 = .ok (.iconst 1, 1) := by decide +kernel
theorem dL_law_1496 : decode code 1496 = .ok (.iadd, 1) := by decide +kernel
theorem dL_law_1497 : decode code 1497 = .ok (.iaload, 1) := by decide +kernel
theorem dL_law_1498 : decode code 1498 = .ok (.aload_n 3, 1) := by decide +kernel
theorem dL_law_1499 : decode code 1499 = .ok (.invokestatic 200, 3) := by decide +kernel
theorem dL_law_1502 : decode code 1502 = .ok (.istore 6, 2) := by decide +kernel
theorem dL_law_1504 : decode code 1504 = .ok (.aload_n 2, 1) := by decide +kernel
theorem dL_law_1505 : decode code 1505 = .ok (.aload_n 0, 1) := by decide +kernel
theorem dL_law_1506 : decode code 1506 = .ok (.iload 5, 2) := by decide +kernel
theorem dL_law_1508 : decode code 1508 = .ok (.iconst 1, 1) := by decide +kernel
theorem dL_law_1509 : decode code 1509 = .ok (.iadd, 1) := by decide +kernel
theorem dL_law_1510 : decode code 1510 = .ok (.iaload, 1) := by decide +kernel
theorem dL_law_1511 : decode code 1511 = .ok (.invokevirtual 202, 3) := by decide +kernel
theorem dL_law_1514 : decode code 1514 = .ok (.istore 7, 2) := by decide +kernel
theorem dL_law_1516 : decode code 1516 = .ok (.aload_n 2, 1) := by decide +kernel
theorem dL_law_1517 : decode code 1517 = .ok (.invokevirtual 149, 3) := by decide +kernel
theorem dL_law_1520 : decode code 1520 = .ok (.iload 6, 2) := by decide +kernel
theorem dL_law_1522 : decode code 1522 = .ok (.if_icmp .eq 5, 3) := by decide +kernel
theorem dL_law_1525 : decode code 1525 = .ok (.iconst 0, 1) := by decide +kernel
theorem dL_law_1527 : decode code 1527 = .ok (.iload 6, 2) := by decide +kernel
theorem dL_law_1529 : decode code 1529 = .ok (.ifCond .ne 15, 3) := by decide +kernel
theorem dL_law_1532 : decode code 1532 = .ok (.aload_n 3, 1) := by decide +kernel
theorem dL_law_1533 : decode code 1533 = .ok (.iconst 0, 1) := by decide +kernel
theorem dL_law_1534 : decode code 1534 = .ok (.laload, 1) := by decide +kernel
theorem dL_law_1535 : decode code 1535 = .ok (.iload 7, 2) := by decide +kernel
theorem dL_law_1537 : decode code 1537 = .ok (.i2l, 1) := by decide +kernel
theorem dL_law_1538 : decode code 1538 = .ok (.lcmp, 1) := by decide +kernel
theorem dL_law_1539 : decode code 1539 = .ok (.ifCond .eq 5, 3) := by decide +kernel
theorem dL_law_1542 : decode code 1542 = .ok (.iconst 0, 1) := by decide +kernel
theorem dL_law_1544 : decode code 1544 = .ok (.goto 975, 3) := by decide +kernel
theorem dL_law_1547 : decode code 1547 = .ok (.aload_n 1, 1) := by decide +kernel
theorem dL_law_1548 : decode code 1548 = .ok (.aload_n 0, 1) := by decide +kernel
theorem dL_law_1549 : decode code 1549 = .ok (.iload 5, 2) := by decide +kernel
theorem dL_law_1551 : decode code 1551 = .ok (.iconst 1, 1) := by decide +kernel
theorem dL_law_1552 : decode code 1552 = .ok (.iadd, 1) := by decide +kernel
theorem dL_law_1553 : decode code 1553 = .ok (.iaload, 1) := by decide +kernel
theorem dL_law_1554 : decode code 1554 = .ok (.aload_n 3, 1) := by decide +kernel
theorem dL_law_1555 : decode code 1555 = .ok (.invokestatic 203, 3) := by decide +kernel
theorem dL_law_1558 : decode code 1558 = .ok (.istore 6, 2) := by decide +kernel
theorem dL_law_1560 : decode code 1560 = .ok (.aload_n 2, 1) := by decide +kernel
theorem dL_law_1561 : decode code 1561 = .ok (.aload_n 0, 1) := by decide +kernel
theorem dL_law_1562 : decode code 1562 = .ok (.iload 5, 2) := by decide +kernel
theorem dL_law_1564 : decode code 1564 = .ok (.iconst 1, 1) := by decide +kernel
theorem dL_law_1565 : decode code 1565 = .ok (.iadd, 1) := by decide +kernel
theorem dL_law_1566 : decode code 1566 = .ok (.iaload, 1) := by decide +kernel
theorem dL_law_1567 : decode code 1567 = .ok (.invokevirtual 205, 3) := by decide +kernel
theorem dL_law_1570 : decode code 1570 = .ok (.istore 7, 2) := by decide +kernel
theorem dL_law_1572 : decode code 1572 = .ok (.aload_n 2, 1) := by decide +kernel
theorem dL_law_1573 : decode code 1573 = .ok (.invokevirtual 149, 3) := by decide +kernel
theorem dL_law_1576 : decode code 1576 = .ok (.iload 6, 2) := by decide +kernel
theorem dL_law_1578 : decode code 1578 = .ok (.if_icmp .eq 5, 3) := by decide +kernel
theorem dL_law_1581 : decode code 1581 = .ok (.iconst 0, 1) := by decide +kernel
theorem dL_law_1583 : decode code 1583 = .ok (.iload 6, 2) := by decide +kernel
theorem dL_law_1585 : decode code 1585 = .ok (.ifCond .ne 15, 3) := by decide +kernel
theorem dL_law_1588 : decode code 1588 = .ok (.aload_n 3, 1) := by decide +kernel
theorem dL_law_1589 : decode code 1589 = .ok (.iconst 0, 1) := by decide +kernel
theorem dL_law_1590 : decode code 1590 = .ok (.laload, 1) := by decide +kernel
theorem dL_law_1591 : decode code 1591 = .ok (.iload 7, 2) := by decide +kernel
theorem dL_law_1593 : decode code 1593 = .ok (.i2l, 1) := by decide +kernel
theorem dL_law_1594 : decode code 1594 = .ok (.lcmp, 1) := by decide +kernel
theorem dL_law_1595 : decode code 1595 = .ok (.ifCond .eq 5, 3) := by decide +kernel
theorem dL_law_1598 : decode code 1598 = .ok (.iconst 0, 1) := by decide +kernel
theorem dL_law_1600 : decode code 1600 = .ok (.goto 919, 3) := by decide +kernel
theorem dL_law_1603 : decode code 1603 = .ok (.aload_n 1, 1) := by decide +kernel
theorem dL_law_1604 : decode code 1604 = .ok (.invokevirtual 206, 3) := by decide +kernel
theorem dL_law_1607 : decode code 1607 = .ok (.aload_n 2, 1) := by decide +kernel
theorem dL_law_1608 : decode code 1608 = .ok (.invokevirtual 209, 3) := by decide +kernel
theorem dL_law_1611 : decode code 1611 = .ok (.if_icmp .eq 908, 3) := by decide +kernel
theorem dL_law_1614 : decode code 1614 = .ok (.iconst 0, 1) := by decide +kernel
theorem dL_law_1616 : decode code 1616 = .ok (.aload_n 1, 1) := by decide +kernel
theorem dL_law_1617 : decode code 1617 = .ok (.invokevirtual 210, 3) := by decide +kernel
theorem dL_law_1620 : decode code 1620 = .ok (.dstore 6, 2) := by decide +kernel
theorem dL_law_1622 : decode code 1622 = .ok (.aload_n 2, 1) := by decide +kernel
theorem dL_law_1623 : decode code 1623 = .ok (.invokevirtual 214, 3) := by decide +kernel
theorem dL_law_1626 : decode code 1626 = .ok (.dstore 8, 2) := by decide +kernel
theorem dL_law_1628 : decode code 1628 = .ok (.dload 6, 2) := by decide +kernel
