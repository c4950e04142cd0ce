/-! ## the law: decode rows (printed by gen_law.py) -/
theorem dl_1270 : decode code 1270 = .ok (.iload_n 3, 1) := by decide +kernel
theorem dl_1271 : decode code 1271 = .ok (.iconst 1, 1) := by decide +kernel
theorem dl_1272 : decode code 1272 = .ok (.iadd, 1) := by decide +kernel
theorem dl_1273 : decode code 1273 = .ok (.iaload, 1) := by decide +kernel
theorem dl_1274 : decode code 1274 = .ok (.aload_n 0, 1) := by decide +kernel
theorem dl_1275 : decode code 1275 = .ok (.iload_n 3, 1) := by decide +kernel
theorem dl_1276 : decode code 1276 = .ok (.iconst 2, 1) := by decide +kernel
theorem dl_1277 : decode code 1277 = .ok (.iadd, 1) := by decide +kernel
theorem dl_1278 : decode code 1278 = .ok (.iaload, 1) := by decide +kernel
theorem dl_1279 : decode code 1279 = .ok (.invokevirtual 138, 3) := by decide +kernel
theorem dl_1282 : decode code 1282 = .ok (.aload_n 2, 1) := by decide +kernel
theorem dl_1283 : decode code 1283 = .ok (.aload_n 0, 1) := by decide +kernel
theorem dl_1284 : decode code 1284 = .ok (.iload_n 3, 1) := by decide +kernel
theorem dl_1285 : decode code 1285 = .ok (.iconst 1, 1) := by decide +kernel
theorem dl_1286 : decode code 1286 = .ok (.iadd, 1) := by decide +kernel
theorem dl_1287 : decode code 1287 = .ok (.iaload, 1) := by decide +kernel
theorem dl_1288 : decode code 1288 = .ok (.aload_n 0, 1) := by decide +kernel
theorem dl_1289 : decode code 1289 = .ok (.iload_n 3, 1) := by decide +kernel
theorem dl_1290 : decode code 1290 = .ok (.iconst 2, 1) := by decide +kernel
theorem dl_1291 : decode code 1291 = .ok (.iadd, 1) := by decide +kernel
theorem dl_1292 : decode code 1292 = .ok (.iaload, 1) := by decide +kernel
theorem dl_1293 : decode code 1293 = .ok (.invokevirtual 141, 3) := by decide +kernel
theorem dl_1296 : decode code 1296 = .ok (.if_icmp .eq 838, 3) := by decide +kernel
theorem dl_1301 : decode code 1301 = .ok (.aload_n 1, 1) := by decide +kernel
theorem dl_1302 : decode code 1302 = .ok (.aload_n 0, 1) := by decide +kernel
theorem dl_1303 : decode code 1303 = .ok (.iload_n 3, 1) := by decide +kernel
theorem dl_1304 : decode code 1304 = .ok (.iconst 1, 1) := by decide +kernel
theorem dl_1305 : decode code 1305 = .ok (.iadd, 1) := by decide +kernel
theorem dl_1306 : decode code 1306 = .ok (.iaload, 1) := by decide +kernel
theorem dl_1307 : decode code 1307 = .ok (.aload_n 0, 1) := by decide +kernel
theorem dl_1308 : decode code 1308 = .ok (.iload_n 3, 1) := by decide +kernel
theorem dl_1309 : decode code 1309 = .ok (.iconst 2, 1) := by decide +kernel
theorem dl_1310 : decode code 1310 = .ok (.iadd, 1) := by decide +kernel
theorem dl_1311 : decode code 1311 = .ok (.iaload, 1) := by decide +kernel
theorem dl_1312 : decode code 1312 = .ok (.invokevirtual 142, 3) := by decide +kernel
theorem dl_1315 : decode code 1315 = .ok (.aload_n 2, 1) := by decide +kernel
theorem dl_1316 : decode code 1316 = .ok (.aload_n 0, 1) := by decide +kernel
theorem dl_1317 : decode code 1317 = .ok (.iload_n 3, 1) := by decide +kernel
theorem dl_1318 : decode code 1318 = .ok (.iconst 1, 1) := by decide +kernel
theorem dl_1319 : decode code 1319 = .ok (.iadd, 1) := by decide +kernel
theorem dl_1320 : decode code 1320 = .ok (.iaload, 1) := by decide +kernel
theorem dl_1321 : decode code 1321 = .ok (.aload_n 0, 1) := by decide +kernel
theorem dl_1322 : decode code 1322 = .ok (.iload_n 3, 1) := by decide +kernel
theorem dl_1323 : decode code 1323 = .ok (.iconst 2, 1) := by decide +kernel
theorem dl_1324 : decode code 1324 = .ok (.iadd, 1) := by decide +kernel
theorem dl_1325 : decode code 1325 = .ok (.iaload, 1) := by decide +kernel
theorem dl_1326 : decode code 1326 = .ok (.invokevirtual 145, 3) := by decide +kernel
theorem dl_1329 : decode code 1329 = .ok (.if_icmp .eq 805, 3) := by decide +kernel
theorem dl_1334 : decode code 1334 = .ok (.aload_n 1, 1) := by decide +kernel
theorem dl_1335 : decode code 1335 = .ok (.aload_n 0, 1) := by decide +kernel
theorem dl_1336 : decode code 1336 = .ok (.iload_n 3, 1) := by decide +kernel
theorem dl_1337 : decode code 1337 = .ok (.iconst 1, 1) := by decide +kernel
theorem dl_1338 : decode code 1338 = .ok (.iadd, 1) := by decide +kernel
theorem dl_1339 : decode code 1339 = .ok (.iaload, 1) := by decide +kernel
theorem dl_1340 : decode code 1340 = .ok (.aload_n 0, 1) := by decide +kernel
theorem dl_1341 : decode code 1341 = .ok (.iload_n 3, 1) := by decide +kernel
theorem dl_1342 : decode code 1342 = .ok (.iconst 2, 1) := by decide +kernel
theorem dl_1343 : decode code 1343 = .ok (.iadd, 1) := by decide +kernel
theorem dl_1344 : decode code 1344 = .ok (.iaload, 1) := by decide +kernel
theorem dl_1345 : decode code 1345 = .ok (.aload_n 0, 1) := by decide +kernel
theorem dl_1346 : decode code 1346 = .ok (.iload_n 3, 1) := by decide +kernel
theorem dl_1347 : decode code 1347 = .ok (.iconst 3, 1) := by decide +kernel
theorem dl_1348 : decode code 1348 = .ok (.iadd, 1) := by decide +kernel
theorem dl_1349 : decode code 1349 = .ok (.iaload, 1) := by decide +kernel
theorem dl_1350 : decode code 1350 = .ok (.invokevirtual 146, 3) := by decide +kernel
theorem dl_1353 : decode code 1353 = .ok (.aload_n 2, 1) := by decide +kernel
theorem dl_1354 : decode code 1354 = .ok (.aload_n 0, 1) := by decide +kernel
theorem dl_1355 : decode code 1355 = .ok (.iload_n 3, 1) := by decide +kernel
theorem dl_1356 : decode code 1356 = .ok (.iconst 1, 1) := by decide +kernel
theorem dl_1357 : decode code 1357 = .ok (.iadd, 1) := by decide +kernel
theorem dl_1358 : decode code 1358 = .ok (.iaload, 1) := by decide +kernel
theorem dl_1359 : decode code 1359 = .ok (.aload_n 0, 1) := by decide +kernel
theorem dl_1360 : decode code 1360 = .ok (.iload_n 3, 1) := by decide +kernel
theorem dl_1361 : decode code 1361 = .ok (.iconst 2, 1) := by decide +kernel
theorem dl_1362 : decode code 1362 = .ok (.iadd, 1) := by decide +kernel
theorem dl_1363 : decode code 1363 = .ok (.iaload, 1) := by decide +kernel
theorem dl_1364 : decode code 1364 = .ok (.aload_n 0, 1) := by decide +kernel
theorem dl_1365 : decode code 1365 = .ok (.iload_n 3, 1) := by decide +kernel
theorem dl_1366 : decode code 1366 = .ok (.iconst 3, 1) := by decide +kernel
theorem dl_1367 : decode code 1367 = .ok (.iadd, 1) := by decide +kernel
theorem dl_1368 : decode code 1368 = .ok (.iaload, 1) := by decide +kernel
theorem dl_1369 : decode code 1369 = .ok (.invokevirtual 149, 3) := by decide +kernel
theorem dl_1372 : decode code 1372 = .ok (.if_icmp .eq 762, 3) := by decide +kernel
theorem dl_1377 : decode code 1377 = .ok (.aload_n 1, 1) := by decide +kernel
theorem dl_1378 : decode code 1378 = .ok (.aload_n 0, 1) := by decide +kernel
theorem dl_1379 : decode code 1379 = .ok (.iload_n 3, 1) := by decide +kernel
theorem dl_1380 : decode code 1380 = .ok (.iconst 1, 1) := by decide +kernel
theorem dl_1381 : decode code 1381 = .ok (.iadd, 1) := by decide +kernel
theorem dl_1382 : decode code 1382 = .ok (.iaload, 1) := by decide +kernel
theorem dl_1383 : decode code 1383 = .ok (.aload_n 0, 1) := by decide +kernel
theorem dl_1384 : decode code 1384 = .ok (.iload_n 3, 1) := by decide +kernel
theorem dl_1385 : decode code 1385 = .ok (.iconst 2, 1) := by decide +kernel
theorem dl_1386 : decode code 1386 = .ok (.iadd, 1) := by decide +kernel
theorem dl_1387 : decode code 1387 = .ok (.iaload, 1) := by decide +kernel
theorem dl_1388 : decode code 1388 = .ok (.aload_n 0, 1) := by decide +kernel
theorem dl_1389 : decode code 1389 = .ok (.iload_n 3, 1) := by decide +kernel
theorem dl_1390 : decode code 1390 = .ok (.iconst 3, 1) := by decide +kernel
theorem dl_1391 : decode code 1391 = .ok (.iadd, 1) := by decide +kernel
theorem dl_1392 : decode code 1392 = .ok (.iaload, 1) := by decide +kernel
theorem dl_1393 : decode code 1393 = .ok (.invokevirtual 150, 3) := by decide +kernel
theorem dl_1396 : decode code 1396 = .ok (.aload_n 2, 1) := by decide +kernel
theorem dl_1397 : decode code 1397 = .ok (.aload_n 0, 1) := by decide +kernel
theorem dl_1398 : decode code 1398 = .ok (.iload_n 3, 1) := by decide +kernel
theorem dl_1399 : decode code 1399 = .ok (.iconst 1, 1) := by decide +kernel
theorem dl_1400 : decode code 1400 = .ok (.iadd, 1) := by decide +kernel
theorem dl_1401 : decode code 1401 = .ok (.iaload, 1) := by decide +kernel
theorem dl_1402 : decode code 1402 = .ok (.aload_n 0, 1) := by decide +kernel
theorem dl_1403 : decode code 1403 = .ok (.iload_n 3, 1) := by decide +kernel
theorem dl_1404 : decode code 1404 = .ok (.iconst 2, 1) := by decide +kernel
theorem dl_1405 : decode code 1405 = .ok (.iadd, 1) := by decide +kernel
theorem dl_1406 : decode code 1406 = .ok (.iaload, 1) := by decide +kernel
theorem dl_1407 : decode code 1407 = .ok (.aload_n 0, 1) := by decide +kernel
theorem dl_1408 : decode code 1408 = .ok (.iload_n 3, 1) := by decide +kernel
theorem dl_1409 : decode code 1409 = .ok (.iconst 3, 1) := by decide +kernel
theorem dl_1410 : decode code 1410 = .ok (.iadd, 1) := by decide +kernel
theorem dl_1411 : decode code 1411 = .ok (.iaload, 1) := by decide +kernel
theorem dl_1412 : decode code 1412 = .ok (.invokevirtual 153, 3) := by decide +kernel
theorem dl_1415 : decode code 1415 = .ok (.if_icmp .eq 719, 3) := by decide +kernel
theorem dl_1420 : decode code 1420 = .ok (.aload_n 1, 1) := by decide +kernel
theorem dl_1421 : decode code 1421 = .ok (.aload_n 0, 1) := by decide +kernel
theorem dl_1422 : decode code 1422 = .ok (.iload_n 3, 1) := by decide +kernel
theorem dl_1423 : decode code 1423 = .ok (.iconst 1, 1) := by decide +kernel
theorem dl_1424 : decode code 1424 = .ok (.iadd, 1) := by decide +kernel
theorem dl_1425 : decode code 1425 = .ok (.iaload, 1) := by decide +kernel
theorem dl_1426 : decode code 1426 = .ok (.aload_n 0, 1) := by decide +kernel
theorem dl_1427 : decode code 1427 = .ok (.iload_n 3, 1) := by decide +kernel
theorem dl_1428 : decode code 1428 = .ok (.iconst 2, 1) := by decide +kernel
theorem dl_1429 : decode code 1429 = .ok (.iadd, 1) := by decide +kernel
theorem dl_1430 : decode code 1430 = .ok (.iaload, 1) := by decide +kernel
theorem dl_1431 : decode code 1431 = .ok (.aload_n 0, 1) := by decide +kernel
theorem dl_1432 : decode code 1432 = .ok (.iload_n 3, 1) := by decide +kernel
theorem dl_1433 : decode code 1433 = .ok (.iconst 3, 1) := by decide +kernel
theorem dl_1434 : decode code 1434 = .ok (.iadd, 1) := by decide +kernel
theorem dl_1435 : decode code 1435 = .ok (.iaload, 1) := by decide +kernel
theorem dl_1436 : decode code 1436 = .ok (.invokevirtual 154, 3) := by decide +kernel
theorem dl_1439 : decode code 1439 = .ok (.aload_n 2, 1) := by decide +kernel
theorem dl_1440 : decode code 1440 = .ok (.aload_n 0, 1) := by decide +kernel
theorem dl_1441 : decode code 1441 = .ok (.iload_n 3, 1) := by decide +kernel
theorem dl_1442 : decode code 1442 = .ok (.iconst 1, 1) := by decide +kernel
theorem dl_1443 : decode code 1443 = .ok (.iadd, 1) := by decide +kernel
theorem dl_1444 : decode code 1444 = .ok (.iaload, 1) := by decide +kernel
theorem dl_1445 : decode code 1445 = .ok (.aload_n 0, 1) := by decide +kernel
theorem dl_1446 : decode code 1446 = .ok (.iload_n 3, 1) := by decide +kernel
theorem dl_1447 : decode code 1447 = .ok (.iconst 2, 1) := by decide +kernel
theorem dl_1448 : decode code 1448 = .ok (.iadd, 1) := by decide +kernel
theorem dl_1449 : decode code 1449 = .ok (.iaload, 1) := by decide +kernel
theorem dl_1450 : decode code 1450 = .ok (.aload_n 0, 1) := by decide +kernel
theorem dl_1451 : decode code 1451 = .ok (.iload_n 3, 1) := by decide +kernel
theorem dl_1452 : decode code 1452 = .ok (.iconst 3, 1) := by decide +kernel
theorem dl_1453 : decode code 1453 = .ok (.iadd, 1) := by decide +kernel
theorem dl_1454 : decode code 1454 = .ok (.iaload, 1) := by decide +kernel
theorem dl_1455 : decode code 1455 = .ok (.invokevirtual 157, 3) := by decide +kernel
theorem dl_1458 : decode code 1458 = .ok (.if_icmp .eq 676, 3) := by decide +kernel
theorem dl_1463 : decode code 1463 = .ok (.aload_n 1, 1) := by decide +kernel
theorem dl_1464 : decode code 1464 = .ok (.invokevirtual 158, 3) := by decide +kernel
theorem dl_1467 : decode code 1467 = .ok (.aload_n 2, 1) := by decide +kernel
theorem dl_1468 : decode code 1468 = .ok (.invokevirtual 162, 3) := by decide +kernel
theorem dl_1471 : decode code 1471 = .ok (.if_icmp .eq 663, 3) := by decide +kernel
theorem dl_1476 : decode code 1476 = .ok (.aload_n 1, 1) := by decide +kernel
theorem dl_1477 : decode code 1477 = .ok (.aload_n 0, 1) := by decide +kernel
theorem dl_1478 : decode code 1478 = .ok (.iload_n 3, 1) := by decide +kernel
theorem dl_1479 : decode code 1479 = .ok (.iconst 1, 1) := by decide +kernel
theorem dl_1480 : decode code 1480 = .ok (.iadd, 1) := by decide +kernel
theorem dl_1481 : decode code 1481 = .ok (.iaload, 1) := by decide +kernel
theorem dl_1482 : decode code 1482 = .ok (.invokevirtual 163, 3) := by decide +kernel
theorem dl_1485 : decode code 1485 = .ok (.aload_n 2, 1) := by decide +kernel
theorem dl_1486 : decode code 1486 = .ok (.aload_n 0, 1) := by decide +kernel
theorem dl_1487 : decode code 1487 = .ok (.iload_n 3, 1) := by decide +kernel
theorem dl_1488 : decode code 1488 = .ok (.iconst 1, 1) := by decide +kernel
theorem dl_1489 : decode code 1489 = .ok (.iadd, 1) := by decide +kernel
theorem dl_1490 : decode code 1490 = .ok (.iaload, 1) := by decide +kernel
theorem dl_1491 : decode code 1491 = .ok (.invokevirtual 166, 3) := by decide +kernel
theorem dl_1494 : decode code 1494 = .ok (.if_icmp .eq 640, 3) := by decide +kernel
theorem dl_1499 : decode code 1499 = .ok (.aload_n 1, 1) := by decide +kernel
theorem dl_1500 : decode code 1500 = .ok (.invokevirtual 167, 3) := by decide +kernel
theorem dl_1503 : decode code 1503 = .ok (.aload_n 2, 1) := by decide +kernel
theorem dl_1504 : decode code 1504 = .ok (.invokevirtual 170, 3) := by decide +kernel
theorem dl_1507 : decode code 1507 = .ok (.if_icmp .eq 627, 3) := by decide +kernel
theorem dl_1512 : decode code 1512 = .ok (.aload_n 1, 1) := by decide +kernel
theorem dl_1513 : decode code 1513 = .ok (.invokevirtual 171, 3) := by decide +kernel
theorem dl_1516 : decode code 1516 = .ok (.aload_n 2, 1) := by decide +kernel
theorem dl_1517 : decode code 1517 = .ok (.invokevirtual 174, 3) := by decide +kernel
theorem dl_1520 : decode code 1520 = .ok (.if_icmp .eq 614, 3) := by decide +kernel
theorem dl_1525 : decode code 1525 = .ok (.aload_n 1, 1) := by decide +kernel
theorem dl_1526 : decode code 1526 = .ok (.aload_n 0, 1) := by decide +kernel
theorem dl_1527 : decode code 1527 = .ok (.iload_n 3, 1) := by decide +kernel
theorem dl_1528 : decode code 1528 = .ok (.iconst 1, 1) := by decide +kernel
theorem dl_1529 : decode code 1529 = .ok (.iadd, 1) := by decide +kernel
theorem dl_1530 : decode code 1530 = .ok (.iaload, 1) := by decide +kernel
theorem dl_1531 : decode code 1531 = .ok (.aload_n 0, 1) := by decide +kernel
theorem dl_1532 : decode code 1532 = .ok (.iload_n 3, 1) := by decide +kernel
theorem dl_1533 : decode code 1533 = .ok (.iconst 2, 1) := by decide +kernel
theorem dl_1534 : decode code 1534 = .ok (.iadd, 1) := by decide +kernel
theorem dl_1535 : decode code 1535 = .ok (.iaload, 1) := by decide +kernel
theorem dl_1536 : decode code 1536 = .ok (.invokevirtual 175, 3) := by decide +kernel
theorem dl_1539 : decode code 1539 = .ok (.aload_n 2, 1) := by decide +kernel
theorem dl_1540 : decode code 1540 = .ok (.aload_n 0, 1) := by decide +kernel
theorem dl_1541 : decode code 1541 = .ok (.iload_n 3, 1) := by decide +kernel
theorem dl_1542 : decode code 1542 = .ok (.iconst 1, 1) := by decide +kernel
theorem dl_1543 : decode code 1543 = .ok (.iadd, 1) := by decide +kernel
theorem dl_1544 : decode code 1544 = .ok (.iaload, 1) := by decide +kernel
theorem dl_1545 : decode code 1545 = .ok (.aload_n 0, 1) := by decide +kernel
theorem dl_1546 : decode code 1546 = .ok (.iload_n 3, 1) := by decide +kernel
theorem dl_1547 : decode code 1547 = .ok (.iconst 2, 1) := by decide +kernel
theorem dl_1548 : decode code 1548 = .ok (.iadd, 1) := by decide +kernel
theorem dl_1549 : decode code 1549 = .ok (.iaload, 1) := by decide +kernel
theorem dl_1550 : decode code 1550 = .ok (.invokevirtual 178, 3) := by decide +kernel
theorem dl_1553 : decode code 1553 = .ok (.if_icmp .eq 581, 3) := by decide +kernel
theorem dl_1558 : decode code 1558 = .ok (.aload_n 1, 1) := by decide +kernel
theorem dl_1559 : decode code 1559 = .ok (.aload_n 0, 1) := by decide +kernel
theorem dl_1560 : decode code 1560 = .ok (.iload_n 3, 1) := by decide +kernel
theorem dl_1561 : decode code 1561 = .ok (.iconst 1, 1) := by decide +kernel
theorem dl_1562 : decode code 1562 = .ok (.iadd, 1) := by decide +kernel
theorem dl_1563 : decode code 1563 = .ok (.iaload, 1) := by decide +kernel
theorem dl_1564 : decode code 1564 = .ok (.aload_n 0, 1) := by decide +kernel
theorem dl_1565 : decode code 1565 = .ok (.iload_n 3, 1) := by decide +kernel
theorem dl_1566 : decode code 1566 = .ok (.iconst 2, 1) := by decide +kernel
theorem dl_1567 : decode code 1567 = .ok (.iadd, 1) := by decide +kernel
theorem dl_1568 : decode code 1568 = .ok (.iaload, 1) := by decide +kernel
theorem dl_1569 : decode code 1569 = .ok (.invokevirtual 179, 3) := by decide +kernel
theorem dl_1572 : decode code 1572 = .ok (.aload_n 2, 1) := by decide +kernel
theorem dl_1573 : decode code 1573 = .ok (.aload_n 0, 1) := by decide +kernel
theorem dl_1574 : decode code 1574 = .ok (.iload_n 3, 1) := by decide +kernel
theorem dl_1575 : decode code 1575 = .ok (.iconst 1, 1) := by decide +kernel
theorem dl_1576 : decode code 1576 = .ok (.iadd, 1) := by decide +kernel
theorem dl_1577 : decode code 1577 = .ok (.iaload, 1) := by decide +kernel
theorem dl_1578 : decode code 1578 = .ok (.aload_n 0, 1) := by decide +kernel
theorem dl_1579 : decode code 1579 = .ok (.iload_n 3, 1) := by decide +kernel
theorem dl_1580 : decode code 1580 = .ok (.iconst 2, 1) := by decide +kernel
theorem dl_1581 : decode code 1581 = .ok (.iadd, 1) := by decide +kernel
theorem dl_1582 : decode code 1582 = .ok (.iaload, 1) := by decide +kernel
theorem dl_1583 : decode code 1583 = .ok (.invokevirtual 182, 3) := by decide +kernel
theorem dl_1586 : decode code 1586 = .ok (.if_icmp .eq 548, 3) := by decide +kernel
theorem dl_1591 : decode code 1591 = .ok (.aload_n 1, 1) := by decide +kernel
theorem dl_1592 : decode code 1592 = .ok (.aload_n 0, 1) := by decide +kernel
theorem dl_1593 : decode code 1593 = .ok (.iload_n 3, 1) := by decide +kernel
theorem dl_1594 : decode code 1594 = .ok (.iconst 1, 1) := by decide +kernel
theorem dl_1595 : decode code 1595 = .ok (.iadd, 1) := by decide +kernel
theorem dl_1596 : decode code 1596 = .ok (.iaload, 1) := by decide +kernel
theorem dl_1597 : decode code 1597 = .ok (.aload_n 0, 1) := by decide +kernel
theorem dl_1598 : decode code 1598 = .ok (.iload_n 3, 1) := by decide +kernel
theorem dl_1599 : decode code 1599 = .ok (.iconst 2, 1) := by decide +kernel
theorem dl_1600 : decode code 1600 = .ok (.iadd, 1) := by decide +kernel
theorem dl_1601 : decode code 1601 = .ok (.iaload, 1) := by decide +kernel
theorem dl_1602 : decode code 1602 = .ok (.invokevirtual 183, 3) := by decide +kernel
theorem dl_1605 : decode code 1605 = .ok (.aload_n 2, 1) := by decide +kernel
theorem dl_1606 : decode code 1606 = .ok (.aload_n 0, 1) := by decide +kernel
theorem dl_1607 : decode code 1607 = .ok (.iload_n 3, 1) := by decide +kernel
theorem dl_1608 : decode code 1608 = .ok (.iconst 1, 1) := by decide +kernel
theorem dl_1609 : decode code 1609 = .ok (.iadd, 1) := by decide +kernel
theorem dl_1610 : decode code 1610 = .ok (.iaload, 1) := by decide +kernel
theorem dl_1611 : decode code 1611 = .ok (.aload_n 0, 1) := by decide +kernel
theorem dl_1612 : decode code 1612 = .ok (.iload_n 3, 1) := by decide +kernel
theorem dl_1613 : decode code 1613 = .ok (.iconst 2, 1) := by decide +kernel
theorem dl_1614 : decode code 1614 = .ok (.iadd, 1) := by decide +kernel
theorem dl_1615 : decode code 1615 = .ok (.iaload, 1) := by decide +kernel
theorem dl_1616 : decode code 1616 = .ok (.invokevirtual 186, 3) := by decide +kernel
theorem dl_1619 : decode code 1619 = .ok (.if_icmp .eq 515, 3) := by decide +kernel
theorem dl_1624 : decode code 1624 = .ok (.aload_n 1, 1) := by decide +kernel
theorem dl_1625 : decode code 1625 = .ok (.aload_n 0, 1) := by decide +kernel
