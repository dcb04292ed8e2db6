theorem d_W_law_1209 : decode code 1209 = .ok (.aload_n 1, 1) := by decide +kernel
theorem d_W_law_1210 : decode code 1210 = .ok (.aload_n 0, 1) := by decide +kernel
theorem d_W_law_1211 : decode code 1211 = .ok (.iload 4, 2) := by decide +kernel
theorem d_W_law_1213 : decode code 1213 = .ok (.iconst 1, 1) := by decide +kernel
theorem d_W_law_1214 : decode code 1214 = .ok (.iadd, 1) := by decide +kernel
theorem d_W_law_1215 : decode code 1215 = .ok (.iaload, 1) := by decide +kernel
theorem d_W_law_1216 : decode code 1216 = .ok (.aload_n 0, 1) := by decide +kernel
theorem d_W_law_1217 : decode code 1217 = .ok (.iload 4, 2) := by decide +kernel
theorem d_W_law_1219 : decode code 1219 = .ok (.iconst 2, 1) := by decide +kernel
theorem d_W_law_1220 : decode code 1220 = .ok (.iadd, 1) := by decide +kernel
theorem d_W_law_1221 : decode code 1221 = .ok (.iaload, 1) := by decide +kernel
theorem d_W_law_1222 : decode code 1222 = .ok (.aload_n 0, 1) := by decide +kernel
theorem d_W_law_1223 : decode code 1223 = .ok (.iload 4, 2) := by decide +kernel
theorem d_W_law_1225 : decode code 1225 = .ok (.iconst 3, 1) := by decide +kernel
theorem d_W_law_1226 : decode code 1226 = .ok (.iadd, 1) := by decide +kernel
theorem d_W_law_1227 : decode code 1227 = .ok (.iaload, 1) := by decide +kernel
theorem d_W_law_1228 : decode code 1228 = .ok (.aload_n 3, 1) := by decide +kernel
theorem d_W_law_1229 : decode code 1229 = .ok (.invokestatic 142, 3) := by decide +kernel
theorem d_W_law_1232 : decode code 1232 = .ok (.istore 5, 2) := by decide +kernel
theorem d_W_law_1234 : decode code 1234 = .ok (.aload_n 2, 1) := by decide +kernel
theorem d_W_law_1235 : decode code 1235 = .ok (.aload_n 0, 1) := by decide +kernel
theorem d_W_law_1236 : decode code 1236 = .ok (.iload 4, 2) := by decide +kernel
theorem d_W_law_1238 : decode code 1238 = .ok (.iconst 1, 1) := by decide +kernel
theorem d_W_law_1239 : decode code 1239 = .ok (.iadd, 1) := by decide +kernel
theorem d_W_law_1240 : decode code 1240 = .ok (.iaload, 1) := by decide +kernel
theorem d_W_law_1241 : decode code 1241 = .ok (.aload_n 0, 1) := by decide +kernel
theorem d_W_law_1242 : decode code 1242 = .ok (.iload 4, 2) := by decide +kernel
theorem d_W_law_1244 : decode code 1244 = .ok (.iconst 2, 1) := by decide +kernel
theorem d_W_law_1245 : decode code 1245 = .ok (.iadd, 1) := by decide +kernel
theorem d_W_law_1246 : decode code 1246 = .ok (.iaload, 1) := by decide +kernel
theorem d_W_law_1247 : decode code 1247 = .ok (.aload_n 0, 1) := by decide +kernel
theorem d_W_law_1248 : decode code 1248 = .ok (.iload 4, 2) := by decide +kernel
theorem d_W_law_1250 : decode code 1250 = .ok (.iconst 3, 1) := by decide +kernel
theorem d_W_law_1251 : decode code 1251 = .ok (.iadd, 1) := by decide +kernel
theorem d_W_law_1252 : decode code 1252 = .ok (.iaload, 1) := by decide +kernel
theorem d_W_law_1253 : decode code 1253 = .ok (.invokevirtual 144, 3) := by decide +kernel
theorem d_W_law_1256 : decode code 1256 = .ok (.istore 6, 2) := by decide +kernel
theorem d_W_law_1258 : decode code 1258 = .ok (.aload_n 2, 1) := by decide +kernel
theorem d_W_law_1259 : decode code 1259 = .ok (.invokevirtual 91, 3) := by decide +kernel
theorem d_W_law_1262 : decode code 1262 = .ok (.iload 5, 2) := by decide +kernel
theorem d_W_law_1264 : decode code 1264 = .ok (.if_icmp .eq 5, 3) := by decide +kernel
theorem d_W_law_1267 : decode code 1267 = .ok (.iconst 0, 1) := by decide +kernel
theorem d_W_law_1268 : decode code 1268 = .ok (.ireturn, 1) := by decide +kernel
theorem d_W_law_1269 : decode code 1269 = .ok (.iload 5, 2) := by decide +kernel
theorem d_W_law_1271 : decode code 1271 = .ok (.ifCond .ne 15, 3) := by decide +kernel
theorem d_W_law_1274 : decode code 1274 = .ok (.aload_n 3, 1) := by decide +kernel
theorem d_W_law_1275 : decode code 1275 = .ok (.iconst 0, 1) := by decide +kernel
theorem d_W_law_1276 : decode code 1276 = .ok (.laload, 1) := by decide +kernel
theorem d_W_law_1277 : decode code 1277 = .ok (.iload 6, 2) := by decide +kernel
theorem d_W_law_1279 : decode code 1279 = .ok (.i2l, 1) := by decide +kernel
theorem d_W_law_1280 : decode code 1280 = .ok (.lcmp, 1) := by decide +kernel
theorem d_W_law_1281 : decode code 1281 = .ok (.ifCond .eq 5, 3) := by decide +kernel
theorem d_W_law_1284 : decode code 1284 = .ok (.iconst 0, 1) := by decide +kernel
theorem d_W_law_1285 : decode code 1285 = .ok (.ireturn, 1) := by decide +kernel
theorem d_W_law_1286 : decode code 1286 = .ok (.goto 306, 3) := by decide +kernel
theorem d_W_law_1289 : decode code 1289 = .ok (.aload_n 1, 1) := by decide +kernel
theorem d_W_law_1290 : decode code 1290 = .ok (.aload_n 0, 1) := by decide +kernel
theorem d_W_law_1291 : decode code 1291 = .ok (.iload 4, 2) := by decide +kernel
theorem d_W_law_1293 : decode code 1293 = .ok (.iconst 1, 1) := by decide +kernel
theorem d_W_law_1294 : decode code 1294 = .ok (.iadd, 1) := by decide +kernel
theorem d_W_law_1295 : decode code 1295 = .ok (.iaload, 1) := by decide +kernel
theorem d_W_law_1296 : decode code 1296 = .ok (.aload_n 3, 1) := by decide +kernel
theorem d_W_law_1297 : decode code 1297 = .ok (.invokestatic 145, 3) := by decide +kernel
theorem d_W_law_1300 : decode code 1300 = .ok (.istore 5, 2) := by decide +kernel
theorem d_W_law_1302 : decode code 1302 = .ok (.aload_n 2, 1) := by decide +kernel
theorem d_W_law_1303 : decode code 1303 = .ok (.aload_n 0, 1) := by decide +kernel
theorem d_W_law_1304 : decode code 1304 = .ok (.iload 4, 2) := by decide +kernel
theorem d_W_law_1306 : decode code 1306 = .ok (.iconst 1, 1) := by decide +kernel
theorem d_W_law_1307 : decode code 1307 = .ok (.iadd, 1) := by decide +kernel
theorem d_W_law_1308 : decode code 1308 = .ok (.iaload, 1) := by decide +kernel
theorem d_W_law_1309 : decode code 1309 = .ok (.invokevirtual 147, 3) := by decide +kernel
theorem d_W_law_1312 : decode code 1312 = .ok (.istore 6, 2) := by decide +kernel
theorem d_W_law_1314 : decode code 1314 = .ok (.aload_n 2, 1) := by decide +kernel
theorem d_W_law_1315 : decode code 1315 = .ok (.invokevirtual 91, 3) := by decide +kernel
theorem d_W_law_1318 : decode code 1318 = .ok (.iload 5, 2) := by decide +kernel
theorem d_W_law_1320 : decode code 1320 = .ok (.if_icmp .eq 5, 3) := by decide +kernel
theorem d_W_law_1323 : decode code 1323 = .ok (.iconst 0, 1) := by decide +kernel
theorem d_W_law_1324 : decode code 1324 = .ok (.ireturn, 1) := by decide +kernel
theorem d_W_law_1325 : decode code 1325 = .ok (.iload 5, 2) := by decide +kernel
theorem d_W_law_1327 : decode code 1327 = .ok (.ifCond .ne 15, 3) := by decide +kernel
theorem d_W_law_1330 : decode code 1330 = .ok (.aload_n 3, 1) := by decide +kernel
theorem d_W_law_1331 : decode code 1331 = .ok (.iconst 0, 1) := by decide +kernel
theorem d_W_law_1332 : decode code 1332 = .ok (.laload, 1) := by decide +kernel
theorem d_W_law_1333 : decode code 1333 = .ok (.iload 6, 2) := by decide +kernel
theorem d_W_law_1335 : decode code 1335 = .ok (.i2l, 1) := by decide +kernel
theorem d_W_law_1336 : decode code 1336 = .ok (.lcmp, 1) := by decide +kernel
theorem d_W_law_1337 : decode code 1337 = .ok (.ifCond .eq 5, 3) := by decide +kernel
theorem d_W_law_1340 : decode code 1340 = .ok (.iconst 0, 1) := by decide +kernel
theorem d_W_law_1341 : decode code 1341 = .ok (.ireturn, 1) := by decide +kernel
theorem d_W_law_1342 : decode code 1342 = .ok (.goto 250, 3) := by decide +kernel
theorem d_W_law_1345 : decode code 1345 = .ok (.aload_n 1, 1) := by decide +kernel
theorem d_W_law_1346 : decode code 1346 = .ok (.aload_n 0, 1) := by decide +kernel
theorem d_W_law_1347 : decode code 1347 = .ok (.iload 4, 2) := by decide +kernel
theorem d_W_law_1349 : decode code 1349 = .ok (.iconst 1, 1) := by decide +kernel
theorem d_W_law_1350 : decode code 1350 = .ok (.iadd, 1) := by decide +kernel
theorem d_W_law_1351 : decode code 1351 = .ok (.iaload, 1) := by decide +kernel
theorem d_W_law_1352 : decode code 1352 = .ok (.aload_n 0, 1) := by decide +kernel
theorem d_W_law_1353 : decode code 1353 = .ok (.iload 4, 2) := by decide +kernel
theorem d_W_law_1355 : decode code 1355 = .ok (.iconst 2, 1) := by decide +kernel
theorem d_W_law_1356 : decode code 1356 = .ok (.iadd, 1) := by decide +kernel
theorem d_W_law_1357 : decode code 1357 = .ok (.iaload, 1) := by decide +kernel
theorem d_W_law_1358 : decode code 1358 = .ok (.aload_n 3, 1) := by decide +kernel
theorem d_W_law_1359 : decode code 1359 = .ok (.invokestatic 148, 3) := by decide +kernel
theorem d_W_law_1362 : decode code 1362 = .ok (.istore 5, 2) := by decide +kernel
theorem d_W_law_1364 : decode code 1364 = .ok (.aload_n 2, 1) := by decide +kernel
theorem d_W_law_1365 : decode code 1365 = .ok (.aload_n 0, 1) := by decide +kernel
theorem d_W_law_1366 : decode code 1366 = .ok (.iload 4, 2) := by decide +kernel
theorem d_W_law_1368 : decode code 1368 = .ok (.iconst 1, 1) := by decide +kernel
theorem d_W_law_1369 : decode code 1369 = .ok (.iadd, 1) := by decide +kernel
theorem d_W_law_1370 : decode code 1370 = .ok (.iaload, 1) := by decide +kernel
theorem d_W_law_1371 : decode code 1371 = .ok (.aload_n 0, 1) := by decide +kernel
theorem d_W_law_1372 : decode code 1372 = .ok (.iload 4, 2) := by decide +kernel
theorem d_W_law_1374 : decode code 1374 = .ok (.iconst 2, 1) := by decide +kernel
theorem d_W_law_1375 : decode code 1375 = .ok (.iadd, 1) := by decide +kernel
theorem d_W_law_1376 : decode code 1376 = .ok (.iaload, 1) := by decide +kernel
theorem d_W_law_1377 : decode code 1377 = .ok (.invokevirtual 150, 3) := by decide +kernel
theorem d_W_law_1380 : decode code 1380 = .ok (.istore 6, 2) := by decide +kernel
theorem d_W_law_1382 : decode code 1382 = .ok (.aload_n 2, 1) := by decide +kernel
theorem d_W_law_1383 : decode code 1383 = .ok (.invokevirtual 91, 3) := by decide +kernel
theorem d_W_law_1386 : decode code 1386 = .ok (.iload 5, 2) := by decide +kernel
theorem d_W_law_1388 : decode code 1388 = .ok (.if_icmp .eq 5, 3) := by decide +kernel
theorem d_W_law_1391 : decode code 1391 = .ok (.iconst 0, 1) := by decide +kernel
theorem d_W_law_1392 : decode code 1392 = .ok (.ireturn, 1) := by decide +kernel
theorem d_W_law_1393 : decode code 1393 = .ok (.iload 5, 2) := by decide +kernel
theorem d_W_law_1395 : decode code 1395 = .ok (.ifCond .ne 15, 3) := by decide +kernel
theorem d_W_law_1398 : decode code 1398 = .ok (.aload_n 3, 1) := by decide +kernel
theorem d_W_law_1399 : decode code 1399 = .ok (.iconst 0, 1) := by decide +kernel
theorem d_W_law_1400 : decode code 1400 = .ok (.laload, 1) := by decide +kernel
theorem d_W_law_1401 : decode code 1401 = .ok (.iload 6, 2) := by decide +kernel
theorem d_W_law_1403 : decode code 1403 = .ok (.i2l, 1) := by decide +kernel
theorem d_W_law_1404 : decode code 1404 = .ok (.lcmp, 1) := by decide +kernel
theorem d_W_law_1405 : decode code 1405 = .ok (.ifCond .eq 5, 3) := by decide +kernel
theorem d_W_law_1408 : decode code 1408 = .ok (.iconst 0, 1) := by decide +kernel
theorem d_W_law_1409 : decode code 1409 = .ok (.ireturn, 1) := by decide +kernel
theorem d_W_law_1410 : decode code 1410 = .ok (.goto 182, 3) := by decide +kernel
theorem d_W_law_1413 : decode code 1413 = .ok (.aload_n 1, 1) := by decide +kernel
theorem d_W_law_1414 : decode code 1414 = .ok (.aload_n 0, 1) := by decide +kernel
theorem d_W_law_1415 : decode code 1415 = .ok (.iload 4, 2) := by decide +kernel
theorem d_W_law_1417 : decode code 1417 = .ok (.iconst 1, 1) := by decide +kernel
theorem d_W_law_1418 : decode code 1418 = .ok (.iadd, 1) := by decide +kernel
theorem d_W_law_1419 : decode code 1419 = .ok (.iaload, 1) := by decide +kernel
theorem d_W_law_1420 : decode code 1420 = .ok (.aload_n 0, 1) := by decide +kernel
theorem d_W_law_1421 : decode code 1421 = .ok (.iload 4, 2) := by decide +kernel
theorem d_W_law_1423 : decode code 1423 = .ok (.iconst 2, 1) := by decide +kernel
theorem d_W_law_1424 : decode code 1424 = .ok (.iadd, 1) := by decide +kernel
theorem d_W_law_1425 : decode code 1425 = .ok (.iaload, 1) := by decide +kernel
theorem d_W_law_1426 : decode code 1426 = .ok (.aload_n 3, 1) := by decide +kernel
theorem d_W_law_1427 : decode code 1427 = .ok (.invokestatic 151, 3) := by decide +kernel
theorem d_W_law_1430 : decode code 1430 = .ok (.istore 5, 2) := by decide +kernel
theorem d_W_law_1432 : decode code 1432 = .ok (.aload_n 2, 1) := by decide +kernel
theorem d_W_law_1433 : decode code 1433 = .ok (.aload_n 0, 1) := by decide +kernel
theorem d_W_law_1434 : decode code 1434 = .ok (.iload 4, 2) := by decide +kernel
theorem d_W_law_1436 : decode code 1436 = .ok (.iconst 1, 1) := by decide +kernel
theorem d_W_law_1437 : decode code 1437 = .ok (.iadd, 1) := by decide +kernel
theorem d_W_law_1438 : decode code 1438 = .ok (.iaload, 1) := by decide +kernel
theorem d_W_law_1439 : decode code 1439 = .ok (.aload_n 0, 1) := by decide +kernel
theorem d_W_law_1440 : decode code 1440 = .ok (.iload 4, 2) := by decide +kernel
theorem d_W_law_1442 : decode code 1442 = .ok (.iconst 2, 1) := by decide +kernel
theorem d_W_law_1443 : decode code 1443 = .ok (.iadd, 1) := by decide +kernel
theorem d_W_law_1444 : decode code 1444 = .ok (.iaload, 1) := by decide +kernel
theorem d_W_law_1445 : decode code 1445 = .ok (.invokevirtual 153, 3) := by decide +kernel
theorem d_W_law_1448 : decode code 1448 = .ok (.istore 6, 2) := by decide +kernel
theorem d_W_law_1450 : decode code 1450 = .ok (.aload_n 2, 1) := by decide +kernel
theorem d_W_law_1451 : decode code 1451 = .ok (.invokevirtual 91, 3) := by decide +kernel
theorem d_W_law_1454 : decode code 1454 = .ok (.iload 5, 2) := by decide +kernel
theorem d_W_law_1456 : decode code 1456 = .ok (.if_icmp .eq 5, 3) := by decide +kernel
theorem d_W_law_1459 : decode code 1459 = .ok (.iconst 0, 1) := by decide +kernel
theorem d_W_law_1460 : decode code 1460 = .ok (.ireturn, 1) := by decide +kernel
theorem d_W_law_1461 : decode code 1461 = .ok (.iload 5, 2) := by decide +kernel
theorem d_W_law_1463 : decode code 1463 = .ok (.ifCond .ne 15, 3) := by decide +kernel
theorem d_W_law_1466 : decode code 1466 = .ok (.aload_n 3, 1) := by decide +kernel
theorem d_W_law_1467 : decode code 1467 = .ok (.iconst 0, 1) := by decide +kernel
theorem d_W_law_1468 : decode code 1468 = .ok (.laload, 1) := by decide +kernel
theorem d_W_law_1469 : decode code 1469 = .ok (.iload 6, 2) := by decide +kernel
theorem d_W_law_1471 : decode code 1471 = .ok (.i2l, 1) := by decide +kernel
theorem d_W_law_1472 : decode code 1472 = .ok (.lcmp, 1) := by decide +kernel
theorem d_W_law_1473 : decode code 1473 = .ok (.ifCond .eq 5, 3) := by decide +kernel
theorem d_W_law_1476 : decode code 1476 = .ok (.iconst 0, 1) := by decide +kernel
theorem d_W_law_1477 : decode code 1477 = .ok (.ireturn, 1) := by decide +kernel
theorem d_W_law_1478 : decode code 1478 = .ok (.goto 114, 3) := by decide +kernel
theorem d_W_law_1481 : decode code 1481 = .ok (.aload_n 1, 1) := by decide +kernel
theorem d_W_law_1482 : decode code 1482 = .ok (.aload_n 0, 1) := by decide +kernel
theorem d_W_law_1483 : decode code 1483 = .ok (.iload 4, 2) := by decide +kernel
theorem d_W_law_1485 : decode code 1485 = .ok (.iconst 1, 1) := by decide +kernel
theorem d_W_law_1486 : decode code 1486 = .ok (.iadd, 1) := by decide +kernel
theorem d_W_law_1487 : decode code 1487 = .ok (.iaload, 1) := by decide +kernel
theorem d_W_law_1488 : decode code 1488 = .ok (.aload_n 3, 1) := by decide +kernel
theorem d_W_law_1489 : decode code 1489 = .ok (.invokestatic 154, 3) := by decide +kernel
theorem d_W_law_1492 : decode code 1492 = .ok (.istore 5, 2) := by decide +kernel
theorem d_W_law_1494 : decode code 1494 = .ok (.aload_n 2, 1) := by decide +kernel
theorem d_W_law_1495 : decode code 1495 = .ok (.aload_n 0, 1) := by decide +kernel
theorem d_W_law_1496 : decode code 1496 = .ok (.iload 4, 2) := by decide +kernel
theorem d_W_law_1498 : decode code 1498 = .ok (.iconst 1, 1) := by decide +kernel
theorem d_W_law_1499 : decode code 1499 = .ok (.iadd, 1) := by decide +kernel
theorem d_W_law_1500 : decode code 1500 = .ok (.iaload, 1) := by decide +kernel
theorem d_W_law_1501 : decode code 1501 = .ok (.invokevirtual 156, 3) := by decide +kernel
theorem d_W_law_1504 : decode code 1504 = .ok (.lstore 6, 2) := by decide +kernel
theorem d_W_law_1506 : decode code 1506 = .ok (.aload_n 2, 1) := by decide +kernel
theorem d_W_law_1507 : decode code 1507 = .ok (.invokevirtual 91, 3) := by decide +kernel
theorem d_W_law_1510 : decode code 1510 = .ok (.iload 5, 2) := by decide +kernel
theorem d_W_law_1512 : decode code 1512 = .ok (.if_icmp .eq 5, 3) := by decide +kernel
theorem d_W_law_1515 : decode code 1515 = .ok (.iconst 0, 1) := by decide +kernel
theorem d_W_law_1516 : decode code 1516 = .ok (.ireturn, 1) := by decide +kernel
theorem d_W_law_1517 : decode code 1517 = .ok (.iload 5, 2) := by decide +kernel
theorem d_W_law_1519 : decode code 1519 = .ok (.ifCond .ne 14, 3) := by decide +kernel
theorem d_W_law_1522 : decode code 1522 = .ok (.aload_n 3, 1) := by decide +kernel
theorem d_W_law_1523 : decode code 1523 = .ok (.iconst 0, 1) := by decide +kernel
theorem d_W_law_1524 : decode code 1524 = .ok (.laload, 1) := by decide +kernel
theorem d_W_law_1525 : decode code 1525 = .ok (.lload 6, 2) := by decide +kernel
theorem d_W_law_1527 : decode code 1527 = .ok (.lcmp, 1) := by decide +kernel
theorem d_W_law_1528 : decode code 1528 = .ok (.ifCond .eq 5, 3) := by decide +kernel
theorem d_W_law_1531 : decode code 1531 = .ok (.iconst 0, 1) := by decide +kernel
theorem d_W_law_1532 : decode code 1532 = .ok (.ireturn, 1) := by decide +kernel
theorem d_W_law_1533 : decode code 1533 = .ok (.goto 59, 3) := by decide +kernel
theorem d_W_law_1536 : decode code 1536 = .ok (.aload_n 1, 1) := by decide +kernel
theorem d_W_law_1537 : decode code 1537 = .ok (.aload_n 0, 1) := by decide +kernel
theorem d_W_law_1538 : decode code 1538 = .ok (.iload 4, 2) := by decide +kernel
theorem d_W_law_1540 : decode code 1540 = .ok (.iconst 1, 1) := by decide +kernel
theorem d_W_law_1541 : decode code 1541 = .ok (.iadd, 1) := by decide +kernel
theorem d_W_law_1542 : decode code 1542 = .ok (.iaload, 1) := by decide +kernel
theorem d_W_law_1543 : decode code 1543 = .ok (.aload_n 3, 1) := by decide +kernel
theorem d_W_law_1544 : decode code 1544 = .ok (.invokestatic 157, 3) := by decide +kernel
theorem d_W_law_1547 : decode code 1547 = .ok (.istore 5, 2) := by decide +kernel
theorem d_W_law_1549 : decode code 1549 = .ok (.aload_n 2, 1) := by decide +kernel
theorem d_W_law_1550 : decode code 1550 = .ok (.aload_n 0, 1) := by decide +kernel
theorem d_W_law_1551 : decode code 1551 = .ok (.iload 4, 2) := by decide +kernel
theorem d_W_law_1553 : decode code 1553 = .ok (.iconst 1, 1) := by decide +kernel
theorem d_W_law_1554 : decode code 1554 = .ok (.iadd, 1) := by decide +kernel
theorem d_W_law_1555 : decode code 1555 = .ok (.iaload, 1) := by decide +kernel
theorem d_W_law_1556 : decode code 1556 = .ok (.invokevirtual 159, 3) := by decide +kernel
theorem d_W_law_1559 : decode code 1559 = .ok (.istore 6, 2) := by decide +kernel
theorem d_W_law_1561 : decode code 1561 = .ok (.aload_n 2, 1) := by decide +kernel
theorem d_W_law_1562 : decode code 1562 = .ok (.invokevirtual 91, 3) := by decide +kernel
theorem d_W_law_1565 : decode code 1565 = .ok (.iload 5, 2) := by decide +kernel
theorem d_W_law_1567 : decode code 1567 = .ok (.if_icmp .eq 5, 3) := by decide +kernel
theorem d_W_law_1570 : decode code 1570 = .ok (.iconst 0, 1) := by decide +kernel
theorem d_W_law_1571 : decode code 1571 = .ok (.ireturn, 1) := by decide +kernel
theorem d_W_law_1572 : decode code 1572 = .ok (.iload 5, 2) := by decide +kernel
theorem d_W_law_1574 : decode code 1574 = .ok (.ifCond .ne 15, 3) := by decide +kernel
theorem d_W_law_1577 : decode code 1577 = .ok (.aload_n 3, 1) := by decide +kernel
theorem d_W_law_1578 : decode code 1578 = .ok (.iconst 0, 1) := by decide +kernel
theorem d_W_law_1579 : decode code 1579 = .ok (.laload, 1) := by decide +kernel
theorem d_W_law_1580 : decode code 1580 = .ok (.iload 6, 2) := by decide +kernel
theorem d_W_law_1582 : decode code 1582 = .ok (.i2l, 1) := by decide +kernel
theorem d_W_law_1583 : decode code 1583 = .ok (.lcmp, 1) := by decide +kernel
theorem d_W_law_1584 : decode code 1584 = .ok (.ifCond .eq 5, 3) := by decide +kernel
theorem d_W_law_1587 : decode code 1587 = .ok (.iconst 0, 1) := by decide +kernel
theorem d_W_law_1588 : decode code 1588 = .ok (.ireturn, 1) := by decide +kernel
theorem d_W_law_1589 : decode code 1589 = .ok (.goto 3, 3) := by decide +kernel
theorem d_W_law_1592 : decode code 1592 = .ok (.iinc 4 7, 3) := by decide +kernel
theorem d_W_law_1595 : decode code 1595 = .ok (.goto (-1572), 3) := by decide +kernel
theorem d_W_law_1598 : decode code 1598 = .ok (.iconst 1, 1) := by decide +kernel
theorem d_W_law_1599 : decode code 1599 = .ok (.ireturn, 1) := by decide +kernel
