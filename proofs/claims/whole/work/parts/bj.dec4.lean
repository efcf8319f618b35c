section
theorem dL_law_1282 : decode code 1282 = .ok (.invokevirtual 131, 3) := by decide +kernel
theorem dL_law_1285 : decode code 1285 = .ok (.aload_n 2, 1) := by decide +kernel
theorem dL_law_1286 : decode code 1286 = .ok (.aload_n 0, 1) := by decide +kernel
theorem dL_law_1287 : decode code 1287 = .ok (.iload_n 3, 1) := by decide +kernel
theorem dL_law_1288 : decode code 1288 = .ok (.iconst 1, 1) := by decide +kernel
theorem dL_law_1289 : decode code 1289 = .ok (.iadd, 1) := by decide +kernel
theorem dL_law_1290 : decode code 1290 = .ok (.iaload, 1) := by decide +kernel
theorem dL_law_1291 : decode code 1291 = .ok (.aload_n 0, 1) := by decide +kernel
theorem dL_law_1292 : decode code 1292 = .ok (.iload_n 3, 1) := by decide +kernel
theorem dL_law_1293 : decode code 1293 = .ok (.iconst 2, 1) := by decide +kernel
theorem dL_law_1294 : decode code 1294 = .ok (.iadd, 1) := by decide +kernel
theorem dL_law_1295 : decode code 1295 = .ok (.iaload, 1) := by decide +kernel
theorem dL_law_1296 : decode code 1296 = .ok (.invokevirtual 134, 3) := by decide +kernel
theorem dL_law_1299 : decode code 1299 = .ok (.if_icmp .eq 370, 3) := by decide +kernel
theorem dL_law_1302 : decode code 1302 = .ok (.iconst 0, 1) := by decide +kernel
theorem dL_law_1303 : decode code 1303 = .ok (.ireturn, 1) := by decide +kernel
theorem dL_law_1304 : decode code 1304 = .ok (.aload_n 1, 1) := by decide +kernel
theorem dL_law_1305 : decode code 1305 = .ok (.aload_n 0, 1) := by decide +kernel
theorem dL_law_1306 : decode code 1306 = .ok (.iload_n 3, 1) := by decide +kernel
theorem dL_law_1307 : decode code 1307 = .ok (.iconst 1, 1) := by decide +kernel
theorem dL_law_1308 : decode code 1308 = .ok (.iadd, 1) := by decide +kernel
theorem dL_law_1309 : decode code 1309 = .ok (.iaload, 1) := by decide +kernel
theorem dL_law_1310 : decode code 1310 = .ok (.aload_n 0, 1) := by decide +kernel
theorem dL_law_1311 : decode code 1311 = .ok (.iload_n 3, 1) := by decide +kernel
theorem dL_law_1312 : decode code 1312 = .ok (.iconst 2, 1) := by decide +kernel
theorem dL_law_1313 : decode code 1313 = .ok (.iadd, 1) := by decide +kernel
theorem dL_law_1314 : decode code 1314 = .ok (.iaload, 1) := by decide +kernel
theorem dL_law_1315 : decode code 1315 = .ok (.aload_n 0, 1) := by decide +kernel
theorem dL_law_1316 : decode code 1316 = .ok (.iload_n 3, 1) := by decide +kernel
theorem dL_law_1317 : decode code 1317 = .ok (.iconst 3, 1) := by decide +kernel
theorem dL_law_1318 : decode code 1318 = .ok (.iadd, 1) := by decide +kernel
theorem dL_law_1319 : decode code 1319 = .ok (.iaload, 1) := by decide +kernel
theorem dL_law_1320 : decode code 1320 = .ok (.invokevirtual 135, 3) := by decide +kernel
theorem dL_law_1323 : decode code 1323 = .ok (.aload_n 2, 1) := by decide +kernel
theorem dL_law_1324 : decode code 1324 = .ok (.aload_n 0, 1) := by decide +kernel
theorem dL_law_1325 : decode code 1325 = .ok (.iload_n 3, 1) := by decide +kernel
theorem dL_law_1326 : decode code 1326 = .ok (.iconst 1, 1) := by decide +kernel
theorem dL_law_1327 : decode code 1327 = .ok (.iadd, 1) := by decide +kernel
theorem dL_law_1328 : decode code 1328 = .ok (.iaload, 1) := by decide +kernel
theorem dL_law_1329 : decode code 1329 = .ok (.aload_n 0, 1) := by decide +kernel
theorem dL_law_1330 : decode code 1330 = .ok (.iload_n 3, 1) := by decide +kernel
theorem dL_law_1331 : decode code 1331 = .ok (.iconst 2, 1) := by decide +kernel
theorem dL_law_1332 : decode code 1332 = .ok (.iadd, 1) := by decide +kernel
theorem dL_law_1333 : decode code 1333 = .ok (.iaload, 1) := by decide +kernel
theorem dL_law_1334 : decode code 1334 = .ok (.aload_n 0, 1) := by decide +kernel
theorem dL_law_1335 : decode code 1335 = .ok (.iload_n 3, 1) := by decide +kernel
theorem dL_law_1336 : decode code 1336 = .ok (.iconst 3, 1) := by decide +kernel
theorem dL_law_1337 : decode code 1337 = .ok (.iadd, 1) := by decide +kernel
theorem dL_law_1338 : decode code 1338 = .ok (.iaload, 1) := by decide +kernel
theorem dL_law_1339 : decode code 1339 = .ok (.invokevirtual 138, 3) := by decide +kernel
theorem dL_law_1342 : decode code 1342 = .ok (.if_icmp .eq 327, 3) := by decide +kernel
theorem dL_law_1345 : decode code 1345 = .ok (.iconst 0, 1) := by decide +kernel
theorem dL_law_1346 : decode code 1346 = .ok (.ireturn, 1) := by decide +kernel
theorem dL_law_1347 : decode code 1347 = .ok (.aload_n 1, 1) := by decide +kernel
theorem dL_law_1348 : decode code 1348 = .ok (.aload_n 0, 1) := by decide +kernel
theorem dL_law_1349 : decode code 1349 = .ok (.iload_n 3, 1) := by decide +kernel
theorem dL_law_1350 : decode code 1350 = .ok (.iconst 1, 1) := by decide +kernel
theorem dL_law_1351 : decode code 1351 = .ok (.iadd, 1) := by decide +kernel
theorem dL_law_1352 : decode code 1352 = .ok (.iaload, 1) := by decide +kernel
theorem dL_law_1353 : decode code 1353 = .ok (.aload_n 0, 1) := by decide +kernel
theorem dL_law_1354 : decode code 1354 = .ok (.iload_n 3, 1) := by decide +kernel
theorem dL_law_1355 : decode code 1355 = .ok (.iconst 2, 1) := by decide +kernel
theorem dL_law_1356 : decode code 1356 = .ok (.iadd, 1) := by decide +kernel
theorem dL_law_1357 : decode code 1357 = .ok (.iaload, 1) := by decide +kernel
theorem dL_law_1358 : decode code 1358 = .ok (.invokevirtual 139, 3) := by decide +kernel
theorem dL_law_1361 : decode code 1361 = .ok (.aload_n 2, 1) := by decide +kernel
theorem dL_law_1362 : decode code 1362 = .ok (.aload_n 0, 1) := by decide +kernel
theorem dL_law_1363 : decode code 1363 = .ok (.iload_n 3, 1) := by decide +kernel
theorem dL_law_1364 : decode code 1364 = .ok (.iconst 1, 1) := by decide +kernel
theorem dL_law_1365 : decode code 1365 = .ok (.iadd, 1) := by decide +kernel
theorem dL_law_1366 : decode code 1366 = .ok (.iaload, 1) := by decide +kernel
theorem dL_law_1367 : decode code 1367 = .ok (.aload_n 0, 1) := by decide +kernel
theorem dL_law_1368 : decode code 1368 = .ok (.iload_n 3, 1) := by decide +kernel
theorem dL_law_1369 : decode code 1369 = .ok (.iconst 2, 1) := by decide +kernel
theorem dL_law_1370 : decode code 1370 = .ok (.iadd, 1) := by decide +kernel
theorem dL_law_1371 : decode code 1371 = .ok (.iaload, 1) := by decide +kernel
theorem dL_law_1372 : decode code 1372 = .ok (.invokevirtual 142, 3) := by decide +kernel
theorem dL_law_1375 : decode code 1375 = .ok (.if_icmp .eq 294, 3) := by decide +kernel
theorem dL_law_1378 : decode code 1378 = .ok (.iconst 0, 1) := by decide +kernel
theorem dL_law_1379 : decode code 1379 = .ok (.ireturn, 1) := by decide +kernel
theorem dL_law_1380 : decode code 1380 = .ok (.aload_n 1, 1) := by decide +kernel
theorem dL_law_1381 : decode code 1381 = .ok (.aload_n 0, 1) := by decide +kernel
theorem dL_law_1382 : decode code 1382 = .ok (.iload_n 3, 1) := by decide +kernel
theorem dL_law_1383 : decode code 1383 = .ok (.iconst 1, 1) := by decide +kernel
theorem dL_law_1384 : decode code 1384 = .ok (.iadd, 1) := by decide +kernel
theorem dL_law_1385 : decode code 1385 = .ok (.iaload, 1) := by decide +kernel
theorem dL_law_1386 : decode code 1386 = .ok (.invokevirtual 143, 3) := by decide +kernel
theorem dL_law_1389 : decode code 1389 = .ok (.aload_n 2, 1) := by decide +kernel
theorem dL_law_1390 : decode code 1390 = .ok (.aload_n 0, 1) := by decide +kernel
theorem dL_law_1391 : decode code 1391 = .ok (.iload_n 3, 1) := by decide +kernel
theorem dL_law_1392 : decode code 1392 = .ok (.iconst 1, 1) := by decide +kernel
theorem dL_law_1393 : decode code 1393 = .ok (.iadd, 1) := by decide +kernel
theorem dL_law_1394 : decode code 1394 = .ok (.iaload, 1) := by decide +kernel
theorem dL_law_1395 : decode code 1395 = .ok (.invokevirtual 146, 3) := by decide +kernel
theorem dL_law_1398 : decode code 1398 = .ok (.if_icmp .eq 271, 3) := by decide +kernel
theorem dL_law_1401 : decode code 1401 = .ok (.iconst 0, 1) := by decide +kernel
theorem dL_law_1402 : decode code 1402 = .ok (.ireturn, 1) := by decide +kernel
theorem dL_law_1403 : decode code 1403 = .ok (.aload_n 1, 1) := by decide +kernel
theorem dL_law_1404 : decode code 1404 = .ok (.aload_n 0, 1) := by decide +kernel
theorem dL_law_1405 : decode code 1405 = .ok (.iload_n 3, 1) := by decide +kernel
theorem dL_law_1406 : decode code 1406 = .ok (.iconst 1, 1) := by decide +kernel
theorem dL_law_1407 : decode code 1407 = .ok (.iadd, 1) := by decide +kernel
theorem dL_law_1408 : decode code 1408 = .ok (.iaload, 1) := by decide +kernel
theorem dL_law_1409 : decode code 1409 = .ok (.invokevirtual 147, 3) := by decide +kernel
theorem dL_law_1412 : decode code 1412 = .ok (.aload_n 2, 1) := by decide +kernel
theorem dL_law_1413 : decode code 1413 = .ok (.aload_n 0, 1) := by decide +kernel
theorem dL_law_1414 : decode code 1414 = .ok (.iload_n 3, 1) := by decide +kernel
theorem dL_law_1415 : decode code 1415 = .ok (.iconst 1, 1) := by decide +kernel
theorem dL_law_1416 : decode code 1416 = .ok (.iadd, 1) := by decide +kernel
theorem dL_law_1417 : decode code 1417 = .ok (.iaload, 1) := by decide +kernel
theorem dL_law_1418 : decode code 1418 = .ok (.invokevirtual 150, 3) := by decide +kernel
theorem dL_law_1421 : decode code 1421 = .ok (.if_icmp .eq 248, 3) := by decide +kernel
theorem dL_law_1424 : decode code 1424 = .ok (.iconst 0, 1) := by decide +kernel
theorem dL_law_1425 : decode code 1425 = .ok (.ireturn, 1) := by decide +kernel
theorem dL_law_1426 : decode code 1426 = .ok (.aload_n 1, 1) := by decide +kernel
theorem dL_law_1427 : decode code 1427 = .ok (.aload_n 0, 1) := by decide +kernel
theorem dL_law_1428 : decode code 1428 = .ok (.iload_n 3, 1) := by decide +kernel
theorem dL_law_1429 : decode code 1429 = .ok (.iconst 1, 1) := by decide +kernel
theorem dL_law_1430 : decode code 1430 = .ok (.iadd, 1) := by decide +kernel
theorem dL_law_1431 : decode code 1431 = .ok (.iaload, 1) := by decide +kernel
theorem dL_law_1432 : decode code 1432 = .ok (.aload_n 0, 1) := by decide +kernel
theorem dL_law_1433 : decode code 1433 = .ok (.iload_n 3, 1) := by decide +kernel
theorem dL_law_1434 : decode code 1434 = .ok (.iconst 2, 1) := by decide +kernel
theorem dL_law_1435 : decode code 1435 = .ok (.iadd, 1) := by decide +kernel
theorem dL_law_1436 : decode code 1436 = .ok (.iaload, 1) := by decide +kernel
theorem dL_law_1437 : decode code 1437 = .ok (.invokevirtual 151, 3) := by decide +kernel
theorem dL_law_1440 : decode code 1440 = .ok (.aload_n 2, 1) := by decide +kernel
theorem dL_law_1441 : decode code 1441 = .ok (.aload_n 0, 1) := by decide +kernel
theorem dL_law_1442 : decode code 1442 = .ok (.iload_n 3, 1) := by decide +kernel
theorem dL_law_1443 : decode code 1443 = .ok (.iconst 1, 1) := by decide +kernel
theorem dL_law_1444 : decode code 1444 = .ok (.iadd, 1) := by decide +kernel
theorem dL_law_1445 : decode code 1445 = .ok (.iaload, 1) := by decide +kernel
theorem dL_law_1446 : decode code 1446 = .ok (.aload_n 0, 1) := by decide +kernel
theorem dL_law_1447 : decode code 1447 = .ok (.iload_n 3, 1) := by decide +kernel
theorem dL_law_1448 : decode code 1448 = .ok (.iconst 2, 1) := by decide +kernel
theorem dL_law_1449 : decode code 1449 = .ok (.iadd, 1) := by decide +kernel
theorem dL_law_1450 : decode code 1450 = .ok (.iaload, 1) := by decide +kernel
theorem dL_law_1451 : decode code 1451 = .ok (.invokevirtual 154, 3) := by decide +kernel
theorem dL_law_1454 : decode code 1454 = .ok (.if_icmp .eq 215, 3) := by decide +kernel
theorem dL_law_1457 : decode code 1457 = .ok (.iconst 0, 1) := by decide +kernel
theorem dL_law_1458 : decode code 1458 = .ok (.ireturn, 1) := by decide +kernel
theorem dL_law_1459 : decode code 1459 = .ok (.aload_n 1, 1) := by decide +kernel
theorem dL_law_1460 : decode code 1460 = .ok (.aload_n 0, 1) := by decide +kernel
theorem dL_law_1461 : decode code 1461 = .ok (.iload_n 3, 1) := by decide +kernel
theorem dL_law_1462 : decode code 1462 = .ok (.iconst 1, 1) := by decide +kernel
theorem dL_law_1463 : decode code 1463 = .ok (.iadd, 1) := by decide +kernel
theorem dL_law_1464 : decode code 1464 = .ok (.iaload, 1) := by decide +kernel
theorem dL_law_1465 : decode code 1465 = .ok (.aload_n 0, 1) := by decide +kernel
theorem dL_law_1466 : decode code 1466 = .ok (.iload_n 3, 1) := by decide +kernel
theorem dL_law_1467 : decode code 1467 = .ok (.iconst 2, 1) := by decide +kernel
theorem dL_law_1468 : decode code 1468 = .ok (.iadd, 1) := by decide +kernel
theorem dL_law_1469 : decode code 1469 = .ok (.iaload, 1) := by decide +kernel
theorem dL_law_1470 : decode code 1470 = .ok (.aload_n 0, 1) := by decide +kernel
theorem dL_law_1471 : decode code 1471 = .ok (.iload_n 3, 1) := by decide +kernel
theorem dL_law_1472 : decode code 1472 = .ok (.iconst 3, 1) := by decide +kernel
theorem dL_law_1473 : decode code 1473 = .ok (.iadd, 1) := by decide +kernel
theorem dL_law_1474 : decode code 1474 = .ok (.iaload, 1) := by decide +kernel
theorem dL_law_1475 : decode code 1475 = .ok (.invokevirtual 155, 3) := by decide +kernel
theorem dL_law_1478 : decode code 1478 = .ok (.aload_n 2, 1) := by decide +kernel
theorem dL_law_1479 : decode code 1479 = .ok (.aload_n 0, 1) := by decide +kernel
theorem dL_law_1480 : decode code 1480 = .ok (.iload_n 3, 1) := by decide +kernel
theorem dL_law_1481 : decode code 1481 = .ok (.iconst 1, 1) := by decide +kernel
theorem dL_law_1482 : decode code 1482 = .ok (.iadd, 1) := by decide +kernel
theorem dL_law_1483 : decode code 1483 = .ok (.iaload, 1) := by decide +kernel
theorem dL_law_1484 : decode code 1484 = .ok (.aload_n 0, 1) := by decide +kernel
theorem dL_law_1485 : decode code 1485 = .ok (.iload_n 3, 1) := by decide +kernel
theorem dL_law_1486 : decode code 1486 = .ok (.iconst 2, 1) := by decide +kernel
theorem dL_law_1487 : decode code 1487 = .ok (.iadd, 1) := by decide +kernel
theorem dL_law_1488 : decode code 1488 = .ok (.iaload, 1) := by decide +kernel
theorem dL_law_1489 : decode code 1489 = .ok (.aload_n 0, 1) := by decide +kernel
theorem dL_law_1490 : decode code 1490 = .ok (.iload_n 3, 1) := by decide +kernel
theorem dL_law_1491 : decode code 1491 = .ok (.iconst 3, 1) := by decide +kernel
theorem dL_law_1492 : decode code 1492 = .ok (.iadd, 1) := by decide +kernel
theorem dL_law_1493 : decode code 1493 = .ok (.iaload, 1) := by decide +kernel
theorem dL_law_1494 : decode code 1494 = .ok (.invokevirtual 158, 3) := by decide +kernel
theorem dL_law_1497 : decode code 1497 = .ok (.if_icmp .eq 172, 3) := by decide +kernel
theorem dL_law_1500 : decode code 1500 = .ok (.iconst 0, 1) := by decide +kernel
theorem dL_law_1501 : decode code 1501 = .ok (.ireturn, 1) := by decide +kernel
theorem dL_law_1502 : decode code 1502 = .ok (.aload_n 1, 1) := by decide +kernel
theorem dL_law_1503 : decode code 1503 = .ok (.aload_n 0, 1) := by decide +kernel
theorem dL_law_1504 : decode code 1504 = .ok (.iload_n 3, 1) := by decide +kernel
theorem dL_law_1505 : decode code 1505 = .ok (.iconst 1, 1) := by decide +kernel
theorem dL_law_1506 : decode code 1506 = .ok (.iadd, 1) := by decide +kernel
theorem dL_law_1507 : decode code 1507 = .ok (.iaload, 1) := by decide +kernel
theorem dL_law_1508 : decode code 1508 = .ok (.invokevirtual 159, 3) := by decide +kernel
theorem dL_law_1511 : decode code 1511 = .ok (.aload_n 2, 1) := by decide +kernel
theorem dL_law_1512 : decode code 1512 = .ok (.aload_n 0, 1) := by decide +kernel
theorem dL_law_1513 : decode code 1513 = .ok (.iload_n 3, 1) := by decide +kernel
theorem dL_law_1514 : decode code 1514 = .ok (.iconst 1, 1) := by decide +kernel
theorem dL_law_1515 : decode code 1515 = .ok (.iadd, 1) := by decide +kernel
theorem dL_law_1516 : decode code 1516 = .ok (.iaload, 1) := by decide +kernel
theorem dL_law_1517 : decode code 1517 = .ok (.invokevirtual 162, 3) := by decide +kernel
theorem dL_law_1520 : decode code 1520 = .ok (.if_icmp .eq 149, 3) := by decide +kernel
theorem dL_law_1523 : decode code 1523 = .ok (.iconst 0, 1) := by decide +kernel
theorem dL_law_1524 : decode code 1524 = .ok (.ireturn, 1) := by decide +kernel
theorem dL_law_1525 : decode code 1525 = .ok (.aload_n 1, 1) := by decide +kernel
theorem dL_law_1526 : decode code 1526 = .ok (.aload_n 0, 1) := by decide +kernel
theorem dL_law_1527 : decode code 1527 = .ok (.iload_n 3, 1) := by decide +kernel
theorem dL_law_1528 : decode code 1528 = .ok (.iconst 1, 1) := by decide +kernel
theorem dL_law_1529 : decode code 1529 = .ok (.iadd, 1) := by decide +kernel
theorem dL_law_1530 : decode code 1530 = .ok (.iaload, 1) := by decide +kernel
theorem dL_law_1531 : decode code 1531 = .ok (.invokevirtual 163, 3) := by decide +kernel
theorem dL_law_1534 : decode code 1534 = .ok (.aload_n 2, 1) := by decide +kernel
theorem dL_law_1535 : decode code 1535 = .ok (.aload_n 0, 1) := by decide +kernel
theorem dL_law_1536 : decode code 1536 = .ok (.iload_n 3, 1) := by decide +kernel
theorem dL_law_1537 : decode code 1537 = .ok (.iconst 1, 1) := by decide +kernel
theorem dL_law_1538 : decode code 1538 = .ok (.iadd, 1) := by decide +kernel
theorem dL_law_1539 : decode code 1539 = .ok (.iaload, 1) := by decide +kernel
theorem dL_law_1540 : decode code 1540 = .ok (.invokevirtual 166, 3) := by decide +kernel
theorem dL_law_1543 : decode code 1543 = .ok (.if_icmp .eq 126, 3) := by decide +kernel
theorem dL_law_1546 : decode code 1546 = .ok (.iconst 0, 1) := by decide +kernel
theorem dL_law_1547 : decode code 1547 = .ok (.ireturn, 1) := by decide +kernel
theorem dL_law_1548 : decode code 1548 = .ok (.aload_n 1, 1) := by decide +kernel
theorem dL_law_1549 : decode code 1549 = .ok (.aload_n 0, 1) := by decide +kernel
theorem dL_law_1550 : decode code 1550 = .ok (.iload_n 3, 1) := by decide +kernel
theorem dL_law_1551 : decode code 1551 = .ok (.iconst 1, 1) := by decide +kernel
theorem dL_law_1552 : decode code 1552 = .ok (.iadd, 1) := by decide +kernel
theorem dL_law_1553 : decode code 1553 = .ok (.iaload, 1) := by decide +kernel
theorem dL_law_1554 : decode code 1554 = .ok (.invokevirtual 167, 3) := by decide +kernel
theorem dL_law_1557 : decode code 1557 = .ok (.aload_n 2, 1) := by decide +kernel
theorem dL_law_1558 : decode code 1558 = .ok (.aload_n 0, 1) := by decide +kernel
theorem dL_law_1559 : decode code 1559 = .ok (.iload_n 3, 1) := by decide +kernel
theorem dL_law_1560 : decode code 1560 = .ok (.iconst 1, 1) := by decide +kernel
theorem dL_law_1561 : decode code 1561 = .ok (.iadd, 1) := by decide +kernel
theorem dL_law_1562 : decode code 1562 = .ok (.iaload, 1) := by decide +kernel
theorem dL_law_1563 : decode code 1563 = .ok (.invokevirtual 170, 3) := by decide +kernel
theorem dL_law_1566 : decode code 1566 = .ok (.if_icmp .eq 103, 3) := by decide +kernel
theorem dL_law_1569 : decode code 1569 = .ok (.iconst 0, 1) := by decide +kernel
theorem dL_law_1570 : decode code 1570 = .ok (.ireturn, 1) := by decide +kernel
theorem dL_law_1571 : decode code 1571 = .ok (.aload_n 1, 1) := by decide +kernel
theorem dL_law_1572 : decode code 1572 = .ok (.aload_n 0, 1) := by decide +kernel
theorem dL_law_1573 : decode code 1573 = .ok (.iload_n 3, 1) := by decide +kernel
theorem dL_law_1574 : decode code 1574 = .ok (.iconst 1, 1) := by decide +kernel
theorem dL_law_1575 : decode code 1575 = .ok (.iadd, 1) := by decide +kernel
theorem dL_law_1576 : decode code 1576 = .ok (.iaload, 1) := by decide +kernel
theorem dL_law_1577 : decode code 1577 = .ok (.invokevirtual 171, 3) := by decide +kernel
theorem dL_law_1580 : decode code 1580 = .ok (.aload_n 2, 1) := by decide +kernel
theorem dL_law_1581 : decode code 1581 = .ok (.aload_n 0, 1) := by decide +kernel
theorem dL_law_1582 : decode code 1582 = .ok (.iload_n 3, 1) := by decide +kernel
theorem dL_law_1583 : decode code 1583 = .ok (.iconst 1, 1) := by decide +kernel
theorem dL_law_1584 : decode code 1584 = .ok (.iadd, 1) := by decide +kernel
theorem dL_law_1585 : decode code 1585 = .ok (.iaload, 1) := by decide +kernel
theorem dL_law_1586 : decode code 1586 = .ok (.invokevirtual 174, 3) := by decide +kernel
theorem dL_law_1589 : decode code 1589 = .ok (.if_icmp .eq 80, 3) := by decide +kernel
theorem dL_law_1592 : decode code 1592 = .ok (.iconst 0, 1) := by decide +kernel
theorem dL_law_1593 : decode code 1593 = .ok (.ireturn, 1) := by decide +kernel
theorem dL_law_1594 : decode code 1594 = .ok (.aload_n 1, 1) := by decide +kernel
theorem dL_law_1595 : decode code 1595 = .ok (.invokevirtual 175, 3) := by decide +kernel
theorem dL_law_1598 : decode code 1598 = .ok (.aload_n 2, 1) := by decide +kernel
theorem dL_law_1599 : decode code 1599 = .ok (.invokevirtual 179, 3) := by decide +kernel
theorem dL_law_1602 : decode code 1602 = .ok (.if_icmp .eq 67, 3) := by decide +kernel
theorem dL_law_1605 : decode code 1605 = .ok (.iconst 0, 1) := by decide +kernel
theorem dL_law_1606 : decode code 1606 = .ok (.ireturn, 1) := by decide +kernel
theorem dL_law_1607 : decode code 1607 = .ok (.aload_n 1, 1) := by decide +kernel
theorem dL_law_1608 : decode code 1608 = .ok (.aload_n 0, 1) := by decide +kernel
theorem dL_law_1609 : decode code 1609 = .ok (.iload_n 3, 1) := by decide +kernel
theorem dL_law_1610 : decode code 1610 = .ok (.iconst 1, 1) := by decide +kernel
theorem dL_law_1611 : decode code 1611 = .ok (.iadd, 1) := by decide +kernel
theorem dL_law_1612 : decode code 1612 = .ok (.iaload, 1) := by decide +kernel
theorem dL_law_1613 : decode code 1613 = .ok (.ifCond .eq 7, 3) := by decide +kernel
theorem dL_law_1616 : decode code 1616 = .ok (.iconst 1, 1) := by decide +kernel
theorem dL_law_1617 : decode code 1617 = .ok (.goto 4, 3) := by decide +kernel
theorem dL_law_1620 : decode code 1620 = .ok (.iconst 0, 1) := by decide +kernel
theorem dL_law_1621 : decode code 1621 = .ok (.invokevirtual 180, 3) := by decide +kernel
theorem dL_law_1624 : decode code 1624 = .ok (.aload_n 2, 1) := by decide +kernel
theorem dL_law_1625 : decode code 1625 = .ok (.aload_n 0, 1) := by decide +kernel
theorem dL_law_1626 : decode code 1626 = .ok (.iload_n 3, 1) := by decide +kernel
theorem dL_law_1627 : decode code 1627 = .ok (.iconst 1, 1) := by decide +kernel
theorem dL_law_1628 : decode code 1628 = .ok (.iadd, 1) := by decide +kernel
theorem dL_law_1629 : decode code 1629 = .ok (.iaload, 1) := by decide +kernel
theorem dL_law_1630 : decode code 1630 = .ok (.ifCond .eq 7, 3) := by decide +kernel
theorem dL_law_1633 : decode code 1633 = .ok (.iconst 1, 1) := by decide +kernel
theorem dL_law_1634 : decode code 1634 = .ok (.goto 4, 3) := by decide +kernel
theorem dL_law_1637 : decode code 1637 = .ok (.iconst 0, 1) := by decide +kernel
theorem dL_law_1638 : decode code 1638 = .ok (.invokevirtual 184, 3) := by decide +kernel
theorem dL_law_1641 : decode code 1641 = .ok (.if_icmp .eq 28, 3) := by decide +kernel
theorem dL_law_1644 : decode code 1644 = .ok (.iconst 0, 1) := by decide +kernel
theorem dL_law_1645 : decode code 1645 = .ok (.ireturn, 1) := by decide +kernel
theorem dL_law_1646 : decode code 1646 = .ok (.aload_n 1, 1) := by decide +kernel
theorem dL_law_1647 : decode code 1647 = .ok (.aload_n 0, 1) := by decide +kernel
theorem dL_law_1648 : decode code 1648 = .ok (.iload_n 3, 1) := by decide +kernel
theorem dL_law_1649 : decode code 1649 = .ok (.iconst 1, 1) := by decide +kernel
theorem dL_law_1650 : decode code 1650 = .ok (.iadd, 1) := by decide +kernel
theorem dL_law_1651 : decode code 1651 = .ok (.iaload, 1) := by decide +kernel
theorem dL_law_1652 : decode code 1652 = .ok (.invokevirtual 185, 3) := by decide +kernel
theorem dL_law_1655 : decode code 1655 = .ok (.aload_n 2, 1) := by decide +kernel
theorem dL_law_1656 : decode code 1656 = .ok (.aload_n 0, 1) := by decide +kernel
theorem dL_law_1657 : decode code 1657 = .ok (.iload_n 3, 1) := by decide +kernel
theorem dL_law_1658 : decode code 1658 = .ok (.iconst 1, 1) := by decide +kernel
theorem dL_law_1659 : decode code 1659 = .ok (.iadd, 1) := by decide +kernel
theorem dL_law_1660 : decode code 1660 = .ok (.iaload, 1) := by decide +kernel
theorem dL_law_1661 : decode code 1661 = .ok (.invokevirtual 188, 3) := by decide +kernel
theorem dL_law_1664 : decode code 1664 = .ok (.if_icmp .eq 5, 3) := by decide +kernel
theorem dL_law_1667 : decode code 1667 = .ok (.iconst 0, 1) := by decide +kernel
theorem dL_law_1668 : decode code 1668 = .ok (.ireturn, 1) := by decide +kernel
theorem dL_law_1669 : decode code 1669 = .ok (.iinc 3 6, 3) := by decide +kernel
theorem dL_law_1672 : decode code 1672 = .ok (.goto (-1654), 3) := by decide +kernel
theorem dL_law_1675 : decode code 1675 = .ok (.iconst 1, 1) := by decide +kernel
theorem dL_law_1676 : decode code 1676 = .ok (.ireturn, 1) := by decide +kernel
end
