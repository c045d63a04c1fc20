theorem dL_law_1137 : decode cL_law 1137 = .ok (.aload_n 1, 1) := by decide +kernel
theorem dL_law_1138 : decode cL_law 1138 = .ok (.bipush 7, 2) := by decide +kernel
theorem dL_law_1140 : decode cL_law 1140 = .ok (.invokevirtual 54, 3) := by decide +kernel
theorem dL_law_1143 : decode cL_law 1143 = .ok (.iload 7, 2) := by decide +kernel
theorem dL_law_1145 : decode cL_law 1145 = .ok (.if_icmp .ne 102, 3) := by decide +kernel
theorem dL_law_1148 : decode cL_law 1148 = .ok (.aload_n 1, 1) := by decide +kernel
theorem dL_law_1149 : decode cL_law 1149 = .ok (.bipush 8, 2) := by decide +kernel
theorem dL_law_1151 : decode cL_law 1151 = .ok (.invokevirtual 54, 3) := by decide +kernel
theorem dL_law_1154 : decode cL_law 1154 = .ok (.iload 8, 2) := by decide +kernel
theorem dL_law_1156 : decode cL_law 1156 = .ok (.if_icmp .ne 91, 3) := by decide +kernel
theorem dL_law_1159 : decode cL_law 1159 = .ok (.aload_n 1, 1) := by decide +kernel
theorem dL_law_1160 : decode cL_law 1160 = .ok (.bipush 9, 2) := by decide +kernel
theorem dL_law_1162 : decode cL_law 1162 = .ok (.invokevirtual 54, 3) := by decide +kernel
theorem dL_law_1165 : decode cL_law 1165 = .ok (.iload 9, 2) := by decide +kernel
theorem dL_law_1167 : decode cL_law 1167 = .ok (.if_icmp .ne 80, 3) := by decide +kernel
theorem dL_law_1170 : decode cL_law 1170 = .ok (.aload_n 1, 1) := by decide +kernel
theorem dL_law_1171 : decode cL_law 1171 = .ok (.bipush 12, 2) := by decide +kernel
theorem dL_law_1173 : decode cL_law 1173 = .ok (.invokevirtual 54, 3) := by decide +kernel
theorem dL_law_1176 : decode cL_law 1176 = .ok (.iload 10, 2) := by decide +kernel
theorem dL_law_1178 : decode cL_law 1178 = .ok (.if_icmp .ne 69, 3) := by decide +kernel
theorem dL_law_1181 : decode cL_law 1181 = .ok (.aload_n 1, 1) := by decide +kernel
theorem dL_law_1182 : decode cL_law 1182 = .ok (.invokevirtual 159, 3) := by decide +kernel
theorem dL_law_1185 : decode cL_law 1185 = .ok (.iconst 1, 1) := by decide +kernel
theorem dL_law_1186 : decode cL_law 1186 = .ok (.if_icmp .ne 61, 3) := by decide +kernel
theorem dL_law_1189 : decode cL_law 1189 = .ok (.aload_n 1, 1) := by decide +kernel
theorem dL_law_1190 : decode cL_law 1190 = .ok (.invokevirtual 162, 3) := by decide +kernel
theorem dL_law_1193 : decode cL_law 1193 = .ok (.iload 5, 2) := by decide +kernel
theorem dL_law_1195 : decode cL_law 1195 = .ok (.ifCond .ne 7, 3) := by decide +kernel
theorem dL_law_1198 : decode cL_law 1198 = .ok (.dconst 0, 1) := by decide +kernel
theorem dL_law_1199 : decode cL_law 1199 = .ok (.goto 10, 3) := by decide +kernel
theorem dL_law_1202 : decode cL_law 1202 = .ok (.ldc2_w 166, 3) := by decide +kernel
theorem dL_law_1205 : decode cL_law 1205 = .ok (.iload 5, 2) := by decide +kernel
theorem dL_law_1207 : decode cL_law 1207 = .ok (.i2d, 1) := by decide +kernel
theorem dL_law_1208 : decode cL_law 1208 = .ok (.ddiv, 1) := by decide +kernel
theorem dL_law_1209 : decode cL_law 1209 = .ok (.dcmp .l, 1) := by decide +kernel
theorem dL_law_1210 : decode cL_law 1210 = .ok (.ifCond .ne 37, 3) := by decide +kernel
theorem dL_law_1213 : decode cL_law 1213 = .ok (.aload_n 1, 1) := by decide +kernel
theorem dL_law_1214 : decode cL_law 1214 = .ok (.invokevirtual 168, 3) := by decide +kernel
theorem dL_law_1217 : decode cL_law 1217 = .ok (.iload 9, 2) := by decide +kernel
theorem dL_law_1219 : decode cL_law 1219 = .ok (.ifCond .ne 7, 3) := by decide +kernel
theorem dL_law_1222 : decode cL_law 1222 = .ok (.fconst 0, 1) := by decide +kernel
theorem dL_law_1223 : decode cL_law 1223 = .ok (.goto 10, 3) := by decide +kernel
theorem dL_law_1226 : decode cL_law 1226 = .ok (.iload 8, 2) := by decide +kernel
theorem dL_law_1228 : decode cL_law 1228 = .ok (.i2f, 1) := by decide +kernel
theorem dL_law_1229 : decode cL_law 1229 = .ok (.iload 9, 2) := by decide +kernel
theorem dL_law_1231 : decode cL_law 1231 = .ok (.i2f, 1) := by decide +kernel
theorem dL_law_1232 : decode cL_law 1232 = .ok (.fdiv, 1) := by decide +kernel
theorem dL_law_1233 : decode cL_law 1233 = .ok (.fcmp .l, 1) := by decide +kernel
theorem dL_law_1234 : decode cL_law 1234 = .ok (.ifCond .ne 13, 3) := by decide +kernel
theorem dL_law_1237 : decode cL_law 1237 = .ok (.aload_n 1, 1) := by decide +kernel
theorem dL_law_1238 : decode cL_law 1238 = .ok (.iload_n 3, 1) := by decide +kernel
theorem dL_law_1239 : decode cL_law 1239 = .ok (.invokevirtual 172, 3) := by decide +kernel
theorem dL_law_1242 : decode cL_law 1242 = .ok (.bipush (-11), 2) := by decide +kernel
theorem dL_law_1244 : decode cL_law 1244 = .ok (.if_icmp .eq 5, 3) := by decide +kernel
theorem dL_law_1247 : decode cL_law 1247 = .ok (.iconst 0, 1) := by decide +kernel
theorem dL_law_1248 : decode cL_law 1248 = .ok (.ireturn, 1) := by decide +kernel
theorem dL_law_1249 : decode cL_law 1249 = .ok (.iconst 1, 1) := by decide +kernel
theorem dL_law_1250 : decode cL_law 1250 = .ok (.istore 21, 2) := by decide +kernel
theorem dL_law_1252 : decode cL_law 1252 = .ok (.iload 21, 2) := by decide +kernel
theorem dL_law_1254 : decode cL_law 1254 = .ok (.iload_n 3, 1) := by decide +kernel
theorem dL_law_1255 : decode cL_law 1255 = .ok (.if_icmp .ge 104, 3) := by decide +kernel
theorem dL_law_1258 : decode cL_law 1258 = .ok (.aload_n 1, 1) := by decide +kernel
theorem dL_law_1259 : decode cL_law 1259 = .ok (.iload 21, 2) := by decide +kernel
theorem dL_law_1261 : decode cL_law 1261 = .ok (.iconst 1, 1) := by decide +kernel
theorem dL_law_1262 : decode cL_law 1262 = .ok (.isub, 1) := by decide +kernel
theorem dL_law_1263 : decode cL_law 1263 = .ok (.invokevirtual 172, 3) := by decide +kernel
theorem dL_law_1266 : decode cL_law 1266 = .ok (.istore 22, 2) := by decide +kernel
theorem dL_law_1268 : decode cL_law 1268 = .ok (.aload_n 1, 1) := by decide +kernel
theorem dL_law_1269 : decode cL_law 1269 = .ok (.iload 21, 2) := by decide +kernel
theorem dL_law_1271 : decode cL_law 1271 = .ok (.invokevirtual 172, 3) := by decide +kernel
theorem dL_law_1274 : decode cL_law 1274 = .ok (.istore 23, 2) := by decide +kernel
theorem dL_law_1276 : decode cL_law 1276 = .ok (.aload 15, 2) := by decide +kernel
theorem dL_law_1278 : decode cL_law 1278 = .ok (.iload 22, 2) := by decide +kernel
theorem dL_law_1280 : decode cL_law 1280 = .ok (.iaload, 1) := by decide +kernel
theorem dL_law_1281 : decode cL_law 1281 = .ok (.aload_n 1, 1) := by decide +kernel
theorem dL_law_1282 : decode cL_law 1282 = .ok (.iload 22, 2) := by decide +kernel
theorem dL_law_1284 : decode cL_law 1284 = .ok (.bipush 8, 2) := by decide +kernel
theorem dL_law_1286 : decode cL_law 1286 = .ok (.invokevirtual 81, 3) := by decide +kernel
theorem dL_law_1289 : decode cL_law 1289 = .ok (.isub, 1) := by decide +kernel
theorem dL_law_1290 : decode cL_law 1290 = .ok (.aload 15, 2) := by decide +kernel
theorem dL_law_1292 : decode cL_law 1292 = .ok (.iload 23, 2) := by decide +kernel
theorem dL_law_1294 : decode cL_law 1294 = .ok (.iaload, 1) := by decide +kernel
theorem dL_law_1295 : decode cL_law 1295 = .ok (.isub, 1) := by decide +kernel
theorem dL_law_1296 : decode cL_law 1296 = .ok (.aload_n 1, 1) := by decide +kernel
theorem dL_law_1297 : decode cL_law 1297 = .ok (.iload 23, 2) := by decide +kernel
theorem dL_law_1299 : decode cL_law 1299 = .ok (.bipush 8, 2) := by decide +kernel
theorem dL_law_1301 : decode cL_law 1301 = .ok (.invokevirtual 81, 3) := by decide +kernel
theorem dL_law_1304 : decode cL_law 1304 = .ok (.iadd, 1) := by decide +kernel
theorem dL_law_1305 : decode cL_law 1305 = .ok (.istore 24, 2) := by decide +kernel
theorem dL_law_1307 : decode cL_law 1307 = .ok (.aload_n 1, 1) := by decide +kernel
theorem dL_law_1308 : decode cL_law 1308 = .ok (.iload 23, 2) := by decide +kernel
theorem dL_law_1310 : decode cL_law 1310 = .ok (.iconst 0, 1) := by decide +kernel
theorem dL_law_1311 : decode cL_law 1311 = .ok (.invokevirtual 81, 3) := by decide +kernel
theorem dL_law_1314 : decode cL_law 1314 = .ok (.aload_n 1, 1) := by decide +kernel
theorem dL_law_1315 : decode cL_law 1315 = .ok (.iload 22, 2) := by decide +kernel
theorem dL_law_1317 : decode cL_law 1317 = .ok (.iconst 0, 1) := by decide +kernel
theorem dL_law_1318 : decode cL_law 1318 = .ok (.invokevirtual 81, 3) := by decide +kernel
theorem dL_law_1321 : decode cL_law 1321 = .ok (.isub, 1) := by decide +kernel
theorem dL_law_1322 : decode cL_law 1322 = .ok (.istore 25, 2) := by decide +kernel
theorem dL_law_1324 : decode cL_law 1324 = .ok (.iload 24, 2) := by decide +kernel
theorem dL_law_1326 : decode cL_law 1326 = .ok (.ifCond .lt 25, 3) := by decide +kernel
theorem dL_law_1329 : decode cL_law 1329 = .ok (.iload 24, 2) := by decide +kernel
theorem dL_law_1331 : decode cL_law 1331 = .ok (.ifCond .ne 22, 3) := by decide +kernel
theorem dL_law_1334 : decode cL_law 1334 = .ok (.iload 25, 2) := by decide +kernel
theorem dL_law_1336 : decode cL_law 1336 = .ok (.ifCond .lt 15, 3) := by decide +kernel
theorem dL_law_1339 : decode cL_law 1339 = .ok (.iload 25, 2) := by decide +kernel
theorem dL_law_1341 : decode cL_law 1341 = .ok (.ifCond .ne 12, 3) := by decide +kernel
theorem dL_law_1344 : decode cL_law 1344 = .ok (.iload 22, 2) := by decide +kernel
theorem dL_law_1346 : decode cL_law 1346 = .ok (.iload 23, 2) := by decide +kernel
theorem dL_law_1348 : decode cL_law 1348 = .ok (.if_icmp .le 5, 3) := by decide +kernel
theorem dL_law_1351 : decode cL_law 1351 = .ok (.iconst 0, 1) := by decide +kernel
theorem dL_law_1352 : decode cL_law 1352 = .ok (.ireturn, 1) := by decide +kernel
theorem dL_law_1353 : decode cL_law 1353 = .ok (.iinc 21 1, 3) := by decide +kernel
theorem dL_law_1356 : decode cL_law 1356 = .ok (.goto (-104), 3) := by decide +kernel
theorem dL_law_1359 : decode cL_law 1359 = .ok (.iconst 0, 1) := by decide +kernel
theorem dL_law_1360 : decode cL_law 1360 = .ok (.istore 21, 2) := by decide +kernel
theorem dL_law_1362 : decode cL_law 1362 = .ok (.iconst 0, 1) := by decide +kernel
theorem dL_law_1363 : decode cL_law 1363 = .ok (.istore 22, 2) := by decide +kernel
theorem dL_law_1365 : decode cL_law 1365 = .ok (.iconst 0, 1) := by decide +kernel
theorem dL_law_1366 : decode cL_law 1366 = .ok (.istore 23, 2) := by decide +kernel
theorem dL_law_1368 : decode cL_law 1368 = .ok (.iload 23, 2) := by decide +kernel
theorem dL_law_1370 : decode cL_law 1370 = .ok (.sipush 360, 3) := by decide +kernel
theorem dL_law_1373 : decode cL_law 1373 = .ok (.if_icmp .ge 106, 3) := by decide +kernel
theorem dL_law_1376 : decode cL_law 1376 = .ok (.aload 12, 2) := by decide +kernel
theorem dL_law_1378 : decode cL_law 1378 = .ok (.iload 23, 2) := by decide +kernel
theorem dL_law_1380 : decode cL_law 1380 = .ok (.iaload, 1) := by decide +kernel
theorem dL_law_1381 : decode cL_law 1381 = .ok (.ifCond .ge 6, 3) := by decide +kernel
theorem dL_law_1384 : decode cL_law 1384 = .ok (.goto 89, 3) := by decide +kernel
theorem dL_law_1387 : decode cL_law 1387 = .ok (.aload 12, 2) := by decide +kernel
theorem dL_law_1389 : decode cL_law 1389 = .ok (.iload 23, 2) := by decide +kernel
theorem dL_law_1391 : decode cL_law 1391 = .ok (.iaload, 1) := by decide +kernel
theorem dL_law_1392 : decode cL_law 1392 = .ok (.istore 24, 2) := by decide +kernel
theorem dL_law_1394 : decode cL_law 1394 = .ok (.aload_n 1, 1) := by decide +kernel
theorem dL_law_1395 : decode cL_law 1395 = .ok (.iload 21, 2) := by decide +kernel
theorem dL_law_1397 : decode cL_law 1397 = .ok (.iconst 2, 1) := by decide +kernel
theorem dL_law_1398 : decode cL_law 1398 = .ok (.invokevirtual 87, 3) := by decide +kernel
theorem dL_law_1401 : decode cL_law 1401 = .ok (.istore 25, 2) := by decide +kernel
theorem dL_law_1403 : decode cL_law 1403 = .ok (.aload_n 1, 1) := by decide +kernel
theorem dL_law_1404 : decode cL_law 1404 = .ok (.iload 21, 2) := by decide +kernel
theorem dL_law_1406 : decode cL_law 1406 = .ok (.iconst 0, 1) := by decide +kernel
theorem dL_law_1407 : decode cL_law 1407 = .ok (.invokevirtual 87, 3) := by decide +kernel
theorem dL_law_1410 : decode cL_law 1410 = .ok (.iload 23, 2) := by decide +kernel
theorem dL_law_1412 : decode cL_law 1412 = .ok (.if_icmp .ne 40, 3) := by decide +kernel
theorem dL_law_1415 : decode cL_law 1415 = .ok (.aload_n 1, 1) := by decide +kernel
theorem dL_law_1416 : decode cL_law 1416 = .ok (.iload 21, 2) := by decide +kernel
theorem dL_law_1418 : decode cL_law 1418 = .ok (.iconst 1, 1) := by decide +kernel
theorem dL_law_1419 : decode cL_law 1419 = .ok (.invokevirtual 87, 3) := by decide +kernel
theorem dL_law_1422 : decode cL_law 1422 = .ok (.iload 24, 2) := by decide +kernel
theorem dL_law_1424 : decode cL_law 1424 = .ok (.if_icmp .ne 28, 3) := by decide +kernel
theorem dL_law_1427 : decode cL_law 1427 = .ok (.bipush 8, 2) := by decide +kernel
theorem dL_law_1429 : decode cL_law 1429 = .ok (.bipush 17, 2) := by decide +kernel
theorem dL_law_1431 : decode cL_law 1431 = .ok (.iload 24, 2) := by decide +kernel
theorem dL_law_1433 : decode cL_law 1433 = .ok (.imul, 1) := by decide +kernel
theorem dL_law_1434 : decode cL_law 1434 = .ok (.bipush 7, 2) := by decide +kernel
theorem dL_law_1436 : decode cL_law 1436 = .ok (.iload 25, 2) := by decide +kernel
theorem dL_law_1438 : decode cL_law 1438 = .ok (.imul, 1) := by decide +kernel
theorem dL_law_1439 : decode cL_law 1439 = .ok (.iadd, 1) := by decide +kernel
theorem dL_law_1440 : decode cL_law 1440 = .ok (.bipush 45, 2) := by decide +kernel
theorem dL_law_1442 : decode cL_law 1442 = .ok (.irem, 1) := by decide +kernel
theorem dL_law_1443 : decode cL_law 1443 = .ok (.imul, 1) := by decide +kernel
theorem dL_law_1444 : decode cL_law 1444 = .ok (.iload 24, 2) := by decide +kernel
theorem dL_law_1446 : decode cL_law 1446 = .ok (.iadd, 1) := by decide +kernel
theorem dL_law_1447 : decode cL_law 1447 = .ok (.iload 23, 2) := by decide +kernel
theorem dL_law_1449 : decode cL_law 1449 = .ok (.if_icmp .eq 5, 3) := by decide +kernel
theorem dL_law_1452 : decode cL_law 1452 = .ok (.iconst 0, 1) := by decide +kernel
theorem dL_law_1453 : decode cL_law 1453 = .ok (.ireturn, 1) := by decide +kernel
theorem dL_law_1454 : decode cL_law 1454 = .ok (.iload 22, 2) := by decide +kernel
theorem dL_law_1456 : decode cL_law 1456 = .ok (.aload_n 1, 1) := by decide +kernel
theorem dL_law_1457 : decode cL_law 1457 = .ok (.iload 21, 2) := by decide +kernel
theorem dL_law_1459 : decode cL_law 1459 = .ok (.iconst 3, 1) := by decide +kernel
theorem dL_law_1460 : decode cL_law 1460 = .ok (.invokevirtual 87, 3) := by decide +kernel
theorem dL_law_1463 : decode cL_law 1463 = .ok (.iconst 1, 1) := by decide +kernel
theorem dL_law_1464 : decode cL_law 1464 = .ok (.iadd, 1) := by decide +kernel
theorem dL_law_1465 : decode cL_law 1465 = .ok (.invokestatic 57, 3) := by decide +kernel
theorem dL_law_1468 : decode cL_law 1468 = .ok (.istore 22, 2) := by decide +kernel
theorem dL_law_1470 : decode cL_law 1470 = .ok (.iinc 21 1, 3) := by decide +kernel
theorem dL_law_1473 : decode cL_law 1473 = .ok (.iinc 23 1, 3) := by decide +kernel
theorem dL_law_1476 : decode cL_law 1476 = .ok (.goto (-108), 3) := by decide +kernel
theorem dL_law_1479 : decode cL_law 1479 = .ok (.iload 21, 2) := by decide +kernel
theorem dL_law_1481 : decode cL_law 1481 = .ok (.iload 6, 2) := by decide +kernel
theorem dL_law_1483 : decode cL_law 1483 = .ok (.if_icmp .ne 24, 3) := by decide +kernel
theorem dL_law_1486 : decode cL_law 1486 = .ok (.aload_n 1, 1) := by decide +kernel
theorem dL_law_1487 : decode cL_law 1487 = .ok (.iload 6, 2) := by decide +kernel
theorem dL_law_1489 : decode cL_law 1489 = .ok (.iconst 0, 1) := by decide +kernel
theorem dL_law_1490 : decode cL_law 1490 = .ok (.invokevirtual 87, 3) := by decide +kernel
theorem dL_law_1493 : decode cL_law 1493 = .ok (.bipush (-11), 2) := by decide +kernel
theorem dL_law_1495 : decode cL_law 1495 = .ok (.if_icmp .ne 12, 3) := by decide +kernel
theorem dL_law_1498 : decode cL_law 1498 = .ok (.aload_n 1, 1) := by decide +kernel
theorem dL_law_1499 : decode cL_law 1499 = .ok (.invokevirtual 175, 3) := by decide +kernel
theorem dL_law_1502 : decode cL_law 1502 = .ok (.iload 22, 2) := by decide +kernel
theorem dL_law_1504 : decode cL_law 1504 = .ok (.if_icmp .eq 5, 3) := by decide +kernel
theorem dL_law_1507 : decode cL_law 1507 = .ok (.iconst 0, 1) := by decide +kernel
theorem dL_law_1508 : decode cL_law 1508 = .ok (.ireturn, 1) := by decide +kernel
theorem dL_law_1509 : decode cL_law 1509 = .ok (.iconst 0, 1) := by decide +kernel
theorem dL_law_1510 : decode cL_law 1510 = .ok (.istore 23, 2) := by decide +kernel
theorem dL_law_1512 : decode cL_law 1512 = .ok (.iload 23, 2) := by decide +kernel
theorem dL_law_1514 : decode cL_law 1514 = .ok (.iconst 3, 1) := by decide +kernel
theorem dL_law_1515 : decode cL_law 1515 = .ok (.if_icmp .ge 169, 3) := by decide +kernel
theorem dL_law_1518 : decode cL_law 1518 = .ok (.iload 6, 2) := by decide +kernel
theorem dL_law_1520 : decode cL_law 1520 = .ok (.ifCond .le 164, 3) := by decide +kernel
theorem dL_law_1523 : decode cL_law 1523 = .ok (.aload_n 0, 1) := by decide +kernel
theorem dL_law_1524 : decode cL_law 1524 = .ok (.bipush 60, 2) := by decide +kernel
theorem dL_law_1526 : decode cL_law 1526 = .ok (.iload 23, 2) := by decide +kernel
theorem dL_law_1528 : decode cL_law 1528 = .ok (.iadd, 1) := by decide +kernel
theorem dL_law_1529 : decode cL_law 1529 = .ok (.iload 6, 2) := by decide +kernel
theorem dL_law_1531 : decode cL_law 1531 = .ok (.invokestatic 36, 3) := by decide +kernel
theorem dL_law_1534 : decode cL_law 1534 = .ok (.istore 24, 2) := by decide +kernel
theorem dL_law_1536 : decode cL_law 1536 = .ok (.aload_n 1, 1) := by decide +kernel
theorem dL_law_1537 : decode cL_law 1537 = .ok (.iload 24, 2) := by decide +kernel
theorem dL_law_1539 : decode cL_law 1539 = .ok (.invokestatic 90, 3) := by decide +kernel
theorem dL_law_1542 : decode cL_law 1542 = .ok (.istore 25, 2) := by decide +kernel
theorem dL_law_1544 : decode cL_law 1544 = .ok (.iconst 0, 1) := by decide +kernel
theorem dL_law_1545 : decode cL_law 1545 = .ok (.istore 26, 2) := by decide +kernel
theorem dL_law_1547 : decode cL_law 1547 = .ok (.iconst 0, 1) := by decide +kernel
theorem dL_law_1548 : decode cL_law 1548 = .ok (.istore 27, 2) := by decide +kernel
theorem dL_law_1550 : decode cL_law 1550 = .ok (.iload 27, 2) := by decide +kernel
theorem dL_law_1552 : decode cL_law 1552 = .ok (.iconst 2, 1) := by decide +kernel
theorem dL_law_1553 : decode cL_law 1553 = .ok (.if_icmp .ge 111, 3) := by decide +kernel
theorem dL_law_1556 : decode cL_law 1556 = .ok (.sipush 1000, 3) := by decide +kernel
theorem dL_law_1559 : decode cL_law 1559 = .ok (.istore 28, 2) := by decide +kernel
theorem dL_law_1561 : decode cL_law 1561 = .ok (.iload 24, 2) := by decide +kernel
theorem dL_law_1563 : decode cL_law 1563 = .ok (.iload 27, 2) := by decide +kernel
theorem dL_law_1565 : decode cL_law 1565 = .ok (.ifCond .ne 7, 3) := by decide +kernel
theorem dL_law_1568 : decode cL_law 1568 = .ok (.iconst (-1), 1) := by decide +kernel
theorem dL_law_1569 : decode cL_law 1569 = .ok (.goto 4, 3) := by decide +kernel
theorem dL_law_1572 : decode cL_law 1572 = .ok (.iconst 1, 1) := by decide +kernel
theorem dL_law_1573 : decode cL_law 1573 = .ok (.iadd, 1) := by decide +kernel
theorem dL_law_1574 : decode cL_law 1574 = .ok (.istore 29, 2) := by decide +kernel
theorem dL_law_1576 : decode cL_law 1576 = .ok (.iload 29, 2) := by decide +kernel
theorem dL_law_1578 : decode cL_law 1578 = .ok (.ifCond .lt 80, 3) := by decide +kernel
theorem dL_law_1581 : decode cL_law 1581 = .ok (.iload 29, 2) := by decide +kernel
theorem dL_law_1583 : decode cL_law 1583 = .ok (.iload 6, 2) := by decide +kernel
theorem dL_law_1585 : decode cL_law 1585 = .ok (.if_icmp .ge 73, 3) := by decide +kernel
theorem dL_law_1588 : decode cL_law 1588 = .ok (.aload_n 1, 1) := by decide +kernel
theorem dL_law_1589 : decode cL_law 1589 = .ok (.iload 29, 2) := by decide +kernel
theorem dL_law_1591 : decode cL_law 1591 = .ok (.invokestatic 90, 3) := by decide +kernel
theorem dL_law_1594 : decode cL_law 1594 = .ok (.istore 30, 2) := by decide +kernel
theorem dL_law_1596 : decode cL_law 1596 = .ok (.iload 30, 2) := by decide +kernel
theorem dL_law_1598 : decode cL_law 1598 = .ok (.iload 25, 2) := by decide +kernel
theorem dL_law_1600 : decode cL_law 1600 = .ok (.if_icmp .ge 31, 3) := by decide +kernel
theorem dL_law_1603 : decode cL_law 1603 = .ok (.iload 30, 2) := by decide +kernel
theorem dL_law_1605 : decode cL_law 1605 = .ok (.iload 28, 2) := by decide +kernel
theorem dL_law_1607 : decode cL_law 1607 = .ok (.if_icmp .ge 24, 3) := by decide +kernel
theorem dL_law_1610 : decode cL_law 1610 = .ok (.iload 26, 2) := by decide +kernel
theorem dL_law_1612 : decode cL_law 1612 = .ok (.aload_n 1, 1) := by decide +kernel
theorem dL_law_1613 : decode cL_law 1613 = .ok (.iload 29, 2) := by decide +kernel
theorem dL_law_1615 : decode cL_law 1615 = .ok (.iload 24, 2) := by decide +kernel
theorem dL_law_1617 : decode cL_law 1617 = .ok (.invokestatic 178, 3) := by decide +kernel
theorem dL_law_1620 : decode cL_law 1620 = .ok (.ifCond .eq 7, 3) := by decide +kernel
theorem dL_law_1623 : decode cL_law 1623 = .ok (.iconst 1, 1) := by decide +kernel
theorem dL_law_1624 : decode cL_law 1624 = .ok (.goto 4, 3) := by decide +kernel
theorem dL_law_1627 : decode cL_law 1627 = .ok (.iconst 0, 1) := by decide +kernel
theorem dL_law_1628 : decode cL_law 1628 = .ok (.iadd, 1) := by decide +kernel
theorem dL_law_1629 : decode cL_law 1629 = .ok (.istore 26, 2) := by decide +kernel
theorem dL_law_1631 : decode cL_law 1631 = .ok (.iload 28, 2) := by decide +kernel
theorem dL_law_1633 : decode cL_law 1633 = .ok (.iload 30, 2) := by decide +kernel
theorem dL_law_1635 : decode cL_law 1635 = .ok (.invokestatic 94, 3) := by decide +kernel
theorem dL_law_1638 : decode cL_law 1638 = .ok (.istore 28, 2) := by decide +kernel
theorem dL_law_1640 : decode cL_law 1640 = .ok (.iload 29, 2) := by decide +kernel
theorem dL_law_1642 : decode cL_law 1642 = .ok (.iload 27, 2) := by decide +kernel
theorem dL_law_1644 : decode cL_law 1644 = .ok (.ifCond .ne 7, 3) := by decide +kernel
theorem dL_law_1647 : decode cL_law 1647 = .ok (.iconst (-1), 1) := by decide +kernel
theorem dL_law_1648 : decode cL_law 1648 = .ok (.goto 4, 3) := by decide +kernel
theorem dL_law_1651 : decode cL_law 1651 = .ok (.iconst 1, 1) := by decide +kernel
theorem dL_law_1652 : decode cL_law 1652 = .ok (.iadd, 1) := by decide +kernel
theorem dL_law_1653 : decode cL_law 1653 = .ok (.istore 29, 2) := by decide +kernel
theorem dL_law_1655 : decode cL_law 1655 = .ok (.goto (-79), 3) := by decide +kernel
theorem dL_law_1658 : decode cL_law 1658 = .ok (.iinc 27 1, 3) := by decide +kernel
theorem dL_law_1661 : decode cL_law 1661 = .ok (.goto (-111), 3) := by decide +kernel
theorem dL_law_1664 : decode cL_law 1664 = .ok (.aload_n 1, 1) := by decide +kernel
theorem dL_law_1665 : decode cL_law 1665 = .ok (.iload 24, 2) := by decide +kernel
theorem dL_law_1667 : decode cL_law 1667 = .ok (.iconst 3, 1) := by decide +kernel
theorem dL_law_1668 : decode cL_law 1668 = .ok (.invokevirtual 87, 3) := by decide +kernel
theorem dL_law_1671 : decode cL_law 1671 = .ok (.iload 26, 2) := by decide +kernel
theorem dL_law_1673 : decode cL_law 1673 = .ok (.if_icmp .eq 5, 3) := by decide +kernel
theorem dL_law_1676 : decode cL_law 1676 = .ok (.iconst 0, 1) := by decide +kernel
theorem dL_law_1677 : decode cL_law 1677 = .ok (.ireturn, 1) := by decide +kernel
theorem dL_law_1678 : decode cL_law 1678 = .ok (.iinc 23 1, 3) := by decide +kernel
theorem dL_law_1681 : decode cL_law 1681 = .ok (.goto (-169), 3) := by decide +kernel
theorem dL_law_1684 : decode cL_law 1684 = .ok (.aload_n 1, 1) := by decide +kernel
theorem dL_law_1685 : decode cL_law 1685 = .ok (.aload_n 0, 1) := by decide +kernel
theorem dL_law_1686 : decode cL_law 1686 = .ok (.bipush 70, 2) := by decide +kernel
theorem dL_law_1688 : decode cL_law 1688 = .ok (.iconst 4, 1) := by decide +kernel
theorem dL_law_1689 : decode cL_law 1689 = .ok (.iload_n 2, 1) := by decide +kernel
theorem dL_law_1690 : decode cL_law 1690 = .ok (.imul, 1) := by decide +kernel
theorem dL_law_1691 : decode cL_law 1691 = .ok (.iadd, 1) := by decide +kernel
theorem dL_law_1692 : decode cL_law 1692 = .ok (.invokestatic 50, 3) := by decide +kernel
theorem dL_law_1695 : decode cL_law 1695 = .ok (.iinc 2 1, 3) := by decide +kernel
theorem dL_law_1698 : decode cL_law 1698 = .ok (.goto (-1683), 3) := by decide +kernel
theorem dL_law_1701 : decode cL_law 1701 = .ok (.iconst 1, 1) := by decide +kernel
theorem dL_law_1702 : decode cL_law 1702 = .ok (.ireturn, 1) := by decide +kernel
