theorem dL_law__1233 : decode cL_law_ 1233 = .ok (.iadd, 1) := by decide +kernel
theorem dL_law__1234 : decode cL_law_ 1234 = .ok (.iaload, 1) := by decide +kernel
theorem dL_law__1235 : decode cL_law_ 1235 = .ok (.aload_n 0, 1) := by decide +kernel
theorem dL_law__1236 : decode cL_law_ 1236 = .ok (.iload 4, 2) := by decide +kernel
theorem dL_law__1238 : decode cL_law_ 1238 = .ok (.iconst 4, 1) := by decide +kernel
theorem dL_law__1239 : decode cL_law_ 1239 = .ok (.iadd, 1) := by decide +kernel
theorem dL_law__1240 : decode cL_law_ 1240 = .ok (.iaload, 1) := by decide +kernel
theorem dL_law__1241 : decode cL_law_ 1241 = .ok (.ifCond .eq 7, 3) := by decide +kernel
theorem dL_law__1244 : decode cL_law_ 1244 = .ok (.iconst 1, 1) := by decide +kernel
theorem dL_law__1245 : decode cL_law_ 1245 = .ok (.goto 4, 3) := by decide +kernel
theorem dL_law__1248 : decode cL_law_ 1248 = .ok (.iconst 0, 1) := by decide +kernel
theorem dL_law__1249 : decode cL_law_ 1249 = .ok (.invokevirtual 199, 3) := by decide +kernel
theorem dL_law__1252 : decode cL_law_ 1252 = .ok (.istore 6, 2) := by decide +kernel
theorem dL_law__1254 : decode cL_law_ 1254 = .ok (.aload_n 2, 1) := by decide +kernel
theorem dL_law__1255 : decode cL_law_ 1255 = .ok (.invokevirtual 142, 3) := by decide +kernel
theorem dL_law__1258 : decode cL_law_ 1258 = .ok (.iload 5, 2) := by decide +kernel
theorem dL_law__1260 : decode cL_law_ 1260 = .ok (.if_icmp .eq 5, 3) := by decide +kernel
theorem dL_law__1263 : decode cL_law_ 1263 = .ok (.iconst 0, 1) := by decide +kernel
theorem dL_law__1264 : decode cL_law_ 1264 = .ok (.ireturn, 1) := by decide +kernel
theorem dL_law__1265 : decode cL_law_ 1265 = .ok (.iload 5, 2) := by decide +kernel
theorem dL_law__1267 : decode cL_law_ 1267 = .ok (.ifCond .ne 15, 3) := by decide +kernel
theorem dL_law__1270 : decode cL_law_ 1270 = .ok (.aload_n 3, 1) := by decide +kernel
theorem dL_law__1271 : decode cL_law_ 1271 = .ok (.iconst 0, 1) := by decide +kernel
theorem dL_law__1272 : decode cL_law_ 1272 = .ok (.laload, 1) := by decide +kernel
theorem dL_law__1273 : decode cL_law_ 1273 = .ok (.iload 6, 2) := by decide +kernel
theorem dL_law__1275 : decode cL_law_ 1275 = .ok (.i2l, 1) := by decide +kernel
theorem dL_law__1276 : decode cL_law_ 1276 = .ok (.lcmp, 1) := by decide +kernel
theorem dL_law__1277 : decode cL_law_ 1277 = .ok (.ifCond .eq 5, 3) := by decide +kernel
theorem dL_law__1280 : decode cL_law_ 1280 = .ok (.iconst 0, 1) := by decide +kernel
theorem dL_law__1281 : decode cL_law_ 1281 = .ok (.ireturn, 1) := by decide +kernel
theorem dL_law__1282 : decode cL_law_ 1282 = .ok (.goto 1818, 3) := by decide +kernel
theorem dL_law__1285 : decode cL_law_ 1285 = .ok (.aload_n 1, 1) := by decide +kernel
theorem dL_law__1286 : decode cL_law_ 1286 = .ok (.aload_n 0, 1) := by decide +kernel
theorem dL_law__1287 : decode cL_law_ 1287 = .ok (.iload 4, 2) := by decide +kernel
theorem dL_law__1289 : decode cL_law_ 1289 = .ok (.iconst 1, 1) := by decide +kernel
theorem dL_law__1290 : decode cL_law_ 1290 = .ok (.iadd, 1) := by decide +kernel
theorem dL_law__1291 : decode cL_law_ 1291 = .ok (.iaload, 1) := by decide +kernel
theorem dL_law__1292 : decode cL_law_ 1292 = .ok (.aload_n 0, 1) := by decide +kernel
theorem dL_law__1293 : decode cL_law_ 1293 = .ok (.iload 4, 2) := by decide +kernel
theorem dL_law__1295 : decode cL_law_ 1295 = .ok (.iconst 2, 1) := by decide +kernel
theorem dL_law__1296 : decode cL_law_ 1296 = .ok (.iadd, 1) := by decide +kernel
theorem dL_law__1297 : decode cL_law_ 1297 = .ok (.iaload, 1) := by decide +kernel
theorem dL_law__1298 : decode cL_law_ 1298 = .ok (.aload_n 0, 1) := by decide +kernel
theorem dL_law__1299 : decode cL_law_ 1299 = .ok (.iload 4, 2) := by decide +kernel
theorem dL_law__1301 : decode cL_law_ 1301 = .ok (.iconst 3, 1) := by decide +kernel
theorem dL_law__1302 : decode cL_law_ 1302 = .ok (.iadd, 1) := by decide +kernel
theorem dL_law__1303 : decode cL_law_ 1303 = .ok (.iaload, 1) := by decide +kernel
theorem dL_law__1304 : decode cL_law_ 1304 = .ok (.aload_n 3, 1) := by decide +kernel
theorem dL_law__1305 : decode cL_law_ 1305 = .ok (.invokestatic 200, 3) := by decide +kernel
theorem dL_law__1308 : decode cL_law_ 1308 = .ok (.istore 5, 2) := by decide +kernel
theorem dL_law__1310 : decode cL_law_ 1310 = .ok (.aload_n 2, 1) := by decide +kernel
theorem dL_law__1311 : decode cL_law_ 1311 = .ok (.aload_n 0, 1) := by decide +kernel
theorem dL_law__1312 : decode cL_law_ 1312 = .ok (.iload 4, 2) := by decide +kernel
theorem dL_law__1314 : decode cL_law_ 1314 = .ok (.iconst 1, 1) := by decide +kernel
theorem dL_law__1315 : decode cL_law_ 1315 = .ok (.iadd, 1) := by decide +kernel
theorem dL_law__1316 : decode cL_law_ 1316 = .ok (.iaload, 1) := by decide +kernel
theorem dL_law__1317 : decode cL_law_ 1317 = .ok (.aload_n 0, 1) := by decide +kernel
theorem dL_law__1318 : decode cL_law_ 1318 = .ok (.iload 4, 2) := by decide +kernel
theorem dL_law__1320 : decode cL_law_ 1320 = .ok (.iconst 2, 1) := by decide +kernel
theorem dL_law__1321 : decode cL_law_ 1321 = .ok (.iadd, 1) := by decide +kernel
theorem dL_law__1322 : decode cL_law_ 1322 = .ok (.iaload, 1) := by decide +kernel
theorem dL_law__1323 : decode cL_law_ 1323 = .ok (.aload_n 0, 1) := by decide +kernel
theorem dL_law__1324 : decode cL_law_ 1324 = .ok (.iload 4, 2) := by decide +kernel
theorem dL_law__1326 : decode cL_law_ 1326 = .ok (.iconst 3, 1) := by decide +kernel
theorem dL_law__1327 : decode cL_law_ 1327 = .ok (.iadd, 1) := by decide +kernel
theorem dL_law__1328 : decode cL_law_ 1328 = .ok (.iaload, 1) := by decide +kernel
theorem dL_law__1329 : decode cL_law_ 1329 = .ok (.invokevirtual 202, 3) := by decide +kernel
theorem dL_law__1332 : decode cL_law_ 1332 = .ok (.istore 6, 2) := by decide +kernel
theorem dL_law__1334 : decode cL_law_ 1334 = .ok (.aload_n 2, 1) := by decide +kernel
theorem dL_law__1335 : decode cL_law_ 1335 = .ok (.invokevirtual 142, 3) := by decide +kernel
theorem dL_law__1338 : decode cL_law_ 1338 = .ok (.iload 5, 2) := by decide +kernel
theorem dL_law__1340 : decode cL_law_ 1340 = .ok (.if_icmp .eq 5, 3) := by decide +kernel
theorem dL_law__1343 : decode cL_law_ 1343 = .ok (.iconst 0, 1) := by decide +kernel
theorem dL_law__1344 : decode cL_law_ 1344 = .ok (.ireturn, 1) := by decide +kernel
theorem dL_law__1345 : decode cL_law_ 1345 = .ok (.iload 5, 2) := by decide +kernel
theorem dL_law__1347 : decode cL_law_ 1347 = .ok (.ifCond .ne 15, 3) := by decide +kernel
theorem dL_law__1350 : decode cL_law_ 1350 = .ok (.aload_n 3, 1) := by decide +kernel
theorem dL_law__1351 : decode cL_law_ 1351 = .ok (.iconst 0, 1) := by decide +kernel
theorem dL_law__1352 : decode cL_law_ 1352 = .ok (.laload, 1) := by decide +kernel
theorem dL_law__1353 : decode cL_law_ 1353 = .ok (.iload 6, 2) := by decide +kernel
theorem dL_law__1355 : decode cL_law_ 1355 = .ok (.i2l, 1) := by decide +kernel
theorem dL_law__1356 : decode cL_law_ 1356 = .ok (.lcmp, 1) := by decide +kernel
theorem dL_law__1357 : decode cL_law_ 1357 = .ok (.ifCond .eq 5, 3) := by decide +kernel
theorem dL_law__1360 : decode cL_law_ 1360 = .ok (.iconst 0, 1) := by decide +kernel
theorem dL_law__1361 : decode cL_law_ 1361 = .ok (.ireturn, 1) := by decide +kernel
theorem dL_law__1362 : decode cL_law_ 1362 = .ok (.goto 1738, 3) := by decide +kernel
theorem dL_law__1365 : decode cL_law_ 1365 = .ok (.aload_n 1, 1) := by decide +kernel
theorem dL_law__1366 : decode cL_law_ 1366 = .ok (.aload_n 0, 1) := by decide +kernel
theorem dL_law__1367 : decode cL_law_ 1367 = .ok (.iload 4, 2) := by decide +kernel
theorem dL_law__1369 : decode cL_law_ 1369 = .ok (.iconst 1, 1) := by decide +kernel
theorem dL_law__1370 : decode cL_law_ 1370 = .ok (.iadd, 1) := by decide +kernel
theorem dL_law__1371 : decode cL_law_ 1371 = .ok (.iaload, 1) := by decide +kernel
theorem dL_law__1372 : decode cL_law_ 1372 = .ok (.aload_n 0, 1) := by decide +kernel
theorem dL_law__1373 : decode cL_law_ 1373 = .ok (.iload 4, 2) := by decide +kernel
theorem dL_law__1375 : decode cL_law_ 1375 = .ok (.iconst 2, 1) := by decide +kernel
theorem dL_law__1376 : decode cL_law_ 1376 = .ok (.iadd, 1) := by decide +kernel
theorem dL_law__1377 : decode cL_law_ 1377 = .ok (.iaload, 1) := by decide +kernel
theorem dL_law__1378 : decode cL_law_ 1378 = .ok (.aload_n 3, 1) := by decide +kernel
theorem dL_law__1379 : decode cL_law_ 1379 = .ok (.invokestatic 203, 3) := by decide +kernel
theorem dL_law__1382 : decode cL_law_ 1382 = .ok (.istore 5, 2) := by decide +kernel
theorem dL_law__1384 : decode cL_law_ 1384 = .ok (.aload_n 2, 1) := by decide +kernel
theorem dL_law__1385 : decode cL_law_ 1385 = .ok (.aload_n 0, 1) := by decide +kernel
theorem dL_law__1386 : decode cL_law_ 1386 = .ok (.iload 4, 2) := by decide +kernel
theorem dL_law__1388 : decode cL_law_ 1388 = .ok (.iconst 1, 1) := by decide +kernel
theorem dL_law__1389 : decode cL_law_ 1389 = .ok (.iadd, 1) := by decide +kernel
theorem dL_law__1390 : decode cL_law_ 1390 = .ok (.iaload, 1) := by decide +kernel
theorem dL_law__1391 : decode cL_law_ 1391 = .ok (.aload_n 0, 1) := by decide +kernel
theorem dL_law__1392 : decode cL_law_ 1392 = .ok (.iload 4, 2) := by decide +kernel
theorem dL_law__1394 : decode cL_law_ 1394 = .ok (.iconst 2, 1) := by decide +kernel
theorem dL_law__1395 : decode cL_law_ 1395 = .ok (.iadd, 1) := by decide +kernel
theorem dL_law__1396 : decode cL_law_ 1396 = .ok (.iaload, 1) := by decide +kernel
theorem dL_law__1397 : decode cL_law_ 1397 = .ok (.invokevirtual 205, 3) := by decide +kernel
theorem dL_law__1400 : decode cL_law_ 1400 = .ok (.istore 6, 2) := by decide +kernel
theorem dL_law__1402 : decode cL_law_ 1402 = .ok (.aload_n 2, 1) := by decide +kernel
theorem dL_law__1403 : decode cL_law_ 1403 = .ok (.invokevirtual 142, 3) := by decide +kernel
theorem dL_law__1406 : decode cL_law_ 1406 = .ok (.iload 5, 2) := by decide +kernel
theorem dL_law__1408 : decode cL_law_ 1408 = .ok (.if_icmp .eq 5, 3) := by decide +kernel
theorem dL_law__1411 : decode cL_law_ 1411 = .ok (.iconst 0, 1) := by decide +kernel
theorem dL_law__1412 : decode cL_law_ 1412 = .ok (.ireturn, 1) := by decide +kernel
theorem dL_law__1413 : decode cL_law_ 1413 = .ok (.iload 5, 2) := by decide +kernel
theorem dL_law__1415 : decode cL_law_ 1415 = .ok (.ifCond .ne 15, 3) := by decide +kernel
theorem dL_law__1418 : decode cL_law_ 1418 = .ok (.aload_n 3, 1) := by decide +kernel
theorem dL_law__1419 : decode cL_law_ 1419 = .ok (.iconst 0, 1) := by decide +kernel
theorem dL_law__1420 : decode cL_law_ 1420 = .ok (.laload, 1) := by decide +kernel
theorem dL_law__1421 : decode cL_law_ 1421 = .ok (.iload 6, 2) := by decide +kernel
theorem dL_law__1423 : decode cL_law_ 1423 = .ok (.i2l, 1) := by decide +kernel
theorem dL_law__1424 : decode cL_law_ 1424 = .ok (.lcmp, 1) := by decide +kernel
theorem dL_law__1425 : decode cL_law_ 1425 = .ok (.ifCond .eq 5, 3) := by decide +kernel
theorem dL_law__1428 : decode cL_law_ 1428 = .ok (.iconst 0, 1) := by decide +kernel
theorem dL_law__1429 : decode cL_law_ 1429 = .ok (.ireturn, 1) := by decide +kernel
theorem dL_law__1430 : decode cL_law_ 1430 = .ok (.goto 1670, 3) := by decide +kernel
theorem dL_law__1433 : decode cL_law_ 1433 = .ok (.aload_n 1, 1) := by decide +kernel
theorem dL_law__1434 : decode cL_law_ 1434 = .ok (.invokevirtual 206, 3) := by decide +kernel
theorem dL_law__1437 : decode cL_law_ 1437 = .ok (.aload_n 2, 1) := by decide +kernel
theorem dL_law__1438 : decode cL_law_ 1438 = .ok (.invokevirtual 209, 3) := by decide +kernel
theorem dL_law__1441 : decode cL_law_ 1441 = .ok (.if_icmp .eq 1659, 3) := by decide +kernel
theorem dL_law__1444 : decode cL_law_ 1444 = .ok (.iconst 0, 1) := by decide +kernel
theorem dL_law__1445 : decode cL_law_ 1445 = .ok (.ireturn, 1) := by decide +kernel
theorem dL_law__1446 : decode cL_law_ 1446 = .ok (.aload_n 1, 1) := by decide +kernel
theorem dL_law__1447 : decode cL_law_ 1447 = .ok (.aload_n 0, 1) := by decide +kernel
theorem dL_law__1448 : decode cL_law_ 1448 = .ok (.iload 4, 2) := by decide +kernel
theorem dL_law__1450 : decode cL_law_ 1450 = .ok (.iconst 1, 1) := by decide +kernel
theorem dL_law__1451 : decode cL_law_ 1451 = .ok (.iadd, 1) := by decide +kernel
theorem dL_law__1452 : decode cL_law_ 1452 = .ok (.iaload, 1) := by decide +kernel
theorem dL_law__1453 : decode cL_law_ 1453 = .ok (.aload_n 0, 1) := by decide +kernel
theorem dL_law__1454 : decode cL_law_ 1454 = .ok (.iload 4, 2) := by decide +kernel
theorem dL_law__1456 : decode cL_law_ 1456 = .ok (.iconst 2, 1) := by decide +kernel
theorem dL_law__1457 : decode cL_law_ 1457 = .ok (.iadd, 1) := by decide +kernel
theorem dL_law__1458 : decode cL_law_ 1458 = .ok (.iaload, 1) := by decide +kernel
theorem dL_law__1459 : decode cL_law_ 1459 = .ok (.aload_n 0, 1) := by decide +kernel
theorem dL_law__1460 : decode cL_law_ 1460 = .ok (.iload 4, 2) := by decide +kernel
theorem dL_law__1462 : decode cL_law_ 1462 = .ok (.iconst 3, 1) := by decide +kernel
theorem dL_law__1463 : decode cL_law_ 1463 = .ok (.iadd, 1) := by decide +kernel
theorem dL_law__1464 : decode cL_law_ 1464 = .ok (.iaload, 1) := by decide +kernel
theorem dL_law__1465 : decode cL_law_ 1465 = .ok (.aload_n 0, 1) := by decide +kernel
theorem dL_law__1466 : decode cL_law_ 1466 = .ok (.iload 4, 2) := by decide +kernel
theorem dL_law__1468 : decode cL_law_ 1468 = .ok (.iconst 4, 1) := by decide +kernel
theorem dL_law__1469 : decode cL_law_ 1469 = .ok (.iadd, 1) := by decide +kernel
theorem dL_law__1470 : decode cL_law_ 1470 = .ok (.iaload, 1) := by decide +kernel
theorem dL_law__1471 : decode cL_law_ 1471 = .ok (.aload_n 3, 1) := by decide +kernel
theorem dL_law__1472 : decode cL_law_ 1472 = .ok (.invokestatic 210, 3) := by decide +kernel
theorem dL_law__1475 : decode cL_law_ 1475 = .ok (.istore 5, 2) := by decide +kernel
theorem dL_law__1477 : decode cL_law_ 1477 = .ok (.aload_n 2, 1) := by decide +kernel
theorem dL_law__1478 : decode cL_law_ 1478 = .ok (.aload_n 0, 1) := by decide +kernel
theorem dL_law__1479 : decode cL_law_ 1479 = .ok (.iload 4, 2) := by decide +kernel
theorem dL_law__1481 : decode cL_law_ 1481 = .ok (.iconst 1, 1) := by decide +kernel
theorem dL_law__1482 : decode cL_law_ 1482 = .ok (.iadd, 1) := by decide +kernel
theorem dL_law__1483 : decode cL_law_ 1483 = .ok (.iaload, 1) := by decide +kernel
theorem dL_law__1484 : decode cL_law_ 1484 = .ok (.aload_n 0, 1) := by decide +kernel
theorem dL_law__1485 : decode cL_law_ 1485 = .ok (.iload 4, 2) := by decide +kernel
theorem dL_law__1487 : decode cL_law_ 1487 = .ok (.iconst 2, 1) := by decide +kernel
theorem dL_law__1488 : decode cL_law_ 1488 = .ok (.iadd, 1) := by decide +kernel
theorem dL_law__1489 : decode cL_law_ 1489 = .ok (.iaload, 1) := by decide +kernel
theorem dL_law__1490 : decode cL_law_ 1490 = .ok (.aload_n 0, 1) := by decide +kernel
theorem dL_law__1491 : decode cL_law_ 1491 = .ok (.iload 4, 2) := by decide +kernel
theorem dL_law__1493 : decode cL_law_ 1493 = .ok (.iconst 3, 1) := by decide +kernel
theorem dL_law__1494 : decode cL_law_ 1494 = .ok (.iadd, 1) := by decide +kernel
theorem dL_law__1495 : decode cL_law_ 1495 = .ok (.iaload, 1) := by decide +kernel
theorem dL_law__1496 : decode cL_law_ 1496 = .ok (.aload_n 0, 1) := by decide +kernel
theorem dL_law__1497 : decode cL_law_ 1497 = .ok (.iload 4, 2) := by decide +kernel
theorem dL_law__1499 : decode cL_law_ 1499 = .ok (.iconst 4, 1) := by decide +kernel
theorem dL_law__1500 : decode cL_law_ 1500 = .ok (.iadd, 1) := by decide +kernel
theorem dL_law__1501 : decode cL_law_ 1501 = .ok (.iaload, 1) := by decide +kernel
theorem dL_law__1502 : decode cL_law_ 1502 = .ok (.invokevirtual 213, 3) := by decide +kernel
theorem dL_law__1505 : decode cL_law_ 1505 = .ok (.istore 6, 2) := by decide +kernel
theorem dL_law__1507 : decode cL_law_ 1507 = .ok (.aload_n 2, 1) := by decide +kernel
theorem dL_law__1508 : decode cL_law_ 1508 = .ok (.invokevirtual 142, 3) := by decide +kernel
theorem dL_law__1511 : decode cL_law_ 1511 = .ok (.iload 5, 2) := by decide +kernel
theorem dL_law__1513 : decode cL_law_ 1513 = .ok (.if_icmp .eq 5, 3) := by decide +kernel
theorem dL_law__1516 : decode cL_law_ 1516 = .ok (.iconst 0, 1) := by decide +kernel
theorem dL_law__1517 : decode cL_law_ 1517 = .ok (.ireturn, 1) := by decide +kernel
theorem dL_law__1518 : decode cL_law_ 1518 = .ok (.iload 5, 2) := by decide +kernel
theorem dL_law__1520 : decode cL_law_ 1520 = .ok (.ifCond .ne 15, 3) := by decide +kernel
theorem dL_law__1523 : decode cL_law_ 1523 = .ok (.aload_n 3, 1) := by decide +kernel
theorem dL_law__1524 : decode cL_law_ 1524 = .ok (.iconst 0, 1) := by decide +kernel
theorem dL_law__1525 : decode cL_law_ 1525 = .ok (.laload, 1) := by decide +kernel
theorem dL_law__1526 : decode cL_law_ 1526 = .ok (.iload 6, 2) := by decide +kernel
theorem dL_law__1528 : decode cL_law_ 1528 = .ok (.i2l, 1) := by decide +kernel
theorem dL_law__1529 : decode cL_law_ 1529 = .ok (.lcmp, 1) := by decide +kernel
theorem dL_law__1530 : decode cL_law_ 1530 = .ok (.ifCond .eq 5, 3) := by decide +kernel
theorem dL_law__1533 : decode cL_law_ 1533 = .ok (.iconst 0, 1) := by decide +kernel
theorem dL_law__1534 : decode cL_law_ 1534 = .ok (.ireturn, 1) := by decide +kernel
theorem dL_law__1535 : decode cL_law_ 1535 = .ok (.goto 1565, 3) := by decide +kernel
theorem dL_law__1538 : decode cL_law_ 1538 = .ok (.aload_n 1, 1) := by decide +kernel
theorem dL_law__1539 : decode cL_law_ 1539 = .ok (.aload_n 0, 1) := by decide +kernel
theorem dL_law__1540 : decode cL_law_ 1540 = .ok (.iload 4, 2) := by decide +kernel
theorem dL_law__1542 : decode cL_law_ 1542 = .ok (.iconst 1, 1) := by decide +kernel
theorem dL_law__1543 : decode cL_law_ 1543 = .ok (.iadd, 1) := by decide +kernel
theorem dL_law__1544 : decode cL_law_ 1544 = .ok (.iaload, 1) := by decide +kernel
theorem dL_law__1545 : decode cL_law_ 1545 = .ok (.aload_n 0, 1) := by decide +kernel
theorem dL_law__1546 : decode cL_law_ 1546 = .ok (.iload 4, 2) := by decide +kernel
theorem dL_law__1548 : decode cL_law_ 1548 = .ok (.iconst 2, 1) := by decide +kernel
theorem dL_law__1549 : decode cL_law_ 1549 = .ok (.iadd, 1) := by decide +kernel
theorem dL_law__1550 : decode cL_law_ 1550 = .ok (.iaload, 1) := by decide +kernel
theorem dL_law__1551 : decode cL_law_ 1551 = .ok (.aload_n 0, 1) := by decide +kernel
theorem dL_law__1552 : decode cL_law_ 1552 = .ok (.iload 4, 2) := by decide +kernel
theorem dL_law__1554 : decode cL_law_ 1554 = .ok (.iconst 3, 1) := by decide +kernel
theorem dL_law__1555 : decode cL_law_ 1555 = .ok (.iadd, 1) := by decide +kernel
theorem dL_law__1556 : decode cL_law_ 1556 = .ok (.iaload, 1) := by decide +kernel
theorem dL_law__1557 : decode cL_law_ 1557 = .ok (.aload_n 0, 1) := by decide +kernel
theorem dL_law__1558 : decode cL_law_ 1558 = .ok (.iload 4, 2) := by decide +kernel
theorem dL_law__1560 : decode cL_law_ 1560 = .ok (.iconst 4, 1) := by decide +kernel
theorem dL_law__1561 : decode cL_law_ 1561 = .ok (.iadd, 1) := by decide +kernel
theorem dL_law__1562 : decode cL_law_ 1562 = .ok (.iaload, 1) := by decide +kernel
theorem dL_law__1563 : decode cL_law_ 1563 = .ok (.ifCond .eq 7, 3) := by decide +kernel
theorem dL_law__1566 : decode cL_law_ 1566 = .ok (.iconst 1, 1) := by decide +kernel
theorem dL_law__1567 : decode cL_law_ 1567 = .ok (.goto 4, 3) := by decide +kernel
theorem dL_law__1570 : decode cL_law_ 1570 = .ok (.iconst 0, 1) := by decide +kernel
theorem dL_law__1571 : decode cL_law_ 1571 = .ok (.aload_n 3, 1) := by decide +kernel
theorem dL_law__1572 : decode cL_law_ 1572 = .ok (.invokestatic 214, 3) := by decide +kernel
theorem dL_law__1575 : decode cL_law_ 1575 = .ok (.istore 5, 2) := by decide +kernel
theorem dL_law__1577 : decode cL_law_ 1577 = .ok (.aload_n 2, 1) := by decide +kernel
theorem dL_law__1578 : decode cL_law_ 1578 = .ok (.aload_n 0, 1) := by decide +kernel
theorem dL_law__1579 : decode cL_law_ 1579 = .ok (.iload 4, 2) := by decide +kernel
theorem dL_law__1581 : decode cL_law_ 1581 = .ok (.iconst 1, 1) := by decide +kernel
theorem dL_law__1582 : decode cL_law_ 1582 = .ok (.iadd, 1) := by decide +kernel
theorem dL_law__1583 : decode cL_law_ 1583 = .ok (.iaload, 1) := by decide +kernel
theorem dL_law__1584 : decode cL_law_ 1584 = .ok (.aload_n 0, 1) := by decide +kernel
theorem dL_law__1585 : decode cL_law_ 1585 = .ok (.iload 4, 2) := by decide +kernel
theorem dL_law__1587 : decode cL_law_ 1587 = .ok (.iconst 2, 1) := by decide +kernel
theorem dL_law__1588 : decode cL_law_ 1588 = .ok (.iadd, 1) := by decide +kernel
theorem dL_law__1589 : decode cL_law_ 1589 = .ok (.iaload, 1) := by decide +kernel
theorem dL_law__1590 : decode cL_law_ 1590 = .ok (.aload_n 0, 1) := by decide +kernel
theorem dL_law__1591 : decode cL_law_ 1591 = .ok (.iload 4, 2) := by decide +kernel
theorem dL_law__1593 : decode cL_law_ 1593 = .ok (.iconst 3, 1) := by decide +kernel
theorem dL_law__1594 : decode cL_law_ 1594 = .ok (.iadd, 1) := by decide +kernel
theorem dL_law__1595 : decode cL_law_ 1595 = .ok (.iaload, 1) := by decide +kernel
theorem dL_law__1596 : decode cL_law_ 1596 = .ok (.aload_n 0, 1) := by decide +kernel
theorem dL_law__1597 : decode cL_law_ 1597 = .ok (.iload 4, 2) := by decide +kernel
theorem dL_law__1599 : decode cL_law_ 1599 = .ok (.iconst 4, 1) := by decide +kernel
theorem dL_law__1600 : decode cL_law_ 1600 = .ok (.iadd, 1) := by decide +kernel
theorem dL_law__1601 : decode cL_law_ 1601 = .ok (.iaload, 1) := by decide +kernel
theorem dL_law__1602 : decode cL_law_ 1602 = .ok (.ifCond .eq 7, 3) := by decide +kernel
theorem dL_law__1605 : decode cL_law_ 1605 = .ok (.iconst 1, 1) := by decide +kernel
theorem dL_law__1606 : decode cL_law_ 1606 = .ok (.goto 4, 3) := by decide +kernel
theorem dL_law__1609 : decode cL_law_ 1609 = .ok (.iconst 0, 1) := by decide +kernel
theorem dL_law__1610 : decode cL_law_ 1610 = .ok (.invokevirtual 216, 3) := by decide +kernel
theorem dL_law__1613 : decode cL_law_ 1613 = .ok (.lstore 6, 2) := by decide +kernel
theorem dL_law__1615 : decode cL_law_ 1615 = .ok (.aload_n 2, 1) := by decide +kernel
theorem dL_law__1616 : decode cL_law_ 1616 = .ok (.invokevirtual 142, 3) := by decide +kernel
theorem dL_law__1619 : decode cL_law_ 1619 = .ok (.iload 5, 2) := by decide +kernel
theorem dL_law__1621 : decode cL_law_ 1621 = .ok (.if_icmp .eq 5, 3) := by decide +kernel
theorem dL_law__1624 : decode cL_law_ 1624 = .ok (.iconst 0, 1) := by decide +kernel
theorem dL_law__1625 : decode cL_law_ 1625 = .ok (.ireturn, 1) := by decide +kernel
theorem dL_law__1626 : decode cL_law_ 1626 = .ok (.iload 5, 2) := by decide +kernel
theorem dL_law__1628 : decode cL_law_ 1628 = .ok (.ifCond .ne 14, 3) := by decide +kernel
theorem dL_law__1631 : decode cL_law_ 1631 = .ok (.aload_n 3, 1) := by decide +kernel
theorem dL_law__1632 : decode cL_law_ 1632 = .ok (.iconst 0, 1) := by decide +kernel
theorem dL_law__1633 : decode cL_law_ 1633 = .ok (.laload, 1) := by decide +kernel
theorem dL_law__1634 : decode cL_law_ 1634 = .ok (.lload 6, 2) := by decide +kernel
theorem dL_law__1636 : decode cL_law_ 1636 = .ok (.lcmp, 1) := by decide +kernel
theorem dL_law__1637 : decode cL_law_ 1637 = .ok (.ifCond .eq 5, 3) := by decide +kernel
theorem dL_law__1640 : decode cL_law_ 1640 = .ok (.iconst 0, 1) := by decide +kernel
theorem dL_law__1641 : decode cL_law_ 1641 = .ok (.ireturn, 1) := by decide +kernel
theorem dL_law__1642 : decode cL_law_ 1642 = .ok (.goto 1458, 3) := by decide +kernel
theorem dL_law__1645 : decode cL_law_ 1645 = .ok (.aload_n 1, 1) := by decide +kernel
theorem dL_law__1646 : decode cL_law_ 1646 = .ok (.aload_n 0, 1) := by decide +kernel
theorem dL_law__1647 : decode cL_law_ 1647 = .ok (.iload 4, 2) := by decide +kernel
theorem dL_law__1649 : decode cL_law_ 1649 = .ok (.iconst 1, 1) := by decide +kernel
theorem dL_law__1650 : decode cL_law_ 1650 = .ok (.iadd, 1) := by decide +kernel
theorem dL_law__1651 : decode cL_law_ 1651 = .ok (.iaload, 1) := by decide +kernel
theorem dL_law__1652 : decode cL_law_ 1652 = .ok (.aload_n 0, 1) := by decide +kernel
theorem dL_law__1653 : decode cL_law_ 1653 = .ok (.iload 4, 2) := by decide +kernel
theorem dL_law__1655 : decode cL_law_ 1655 = .ok (.iconst 2, 1) := by decide +kernel
theorem dL_law__1656 : decode cL_law_ 1656 = .ok (.iadd, 1) := by decide +kernel
theorem dL_law__1657 : decode cL_law_ 1657 = .ok (.iaload, 1) := by decide +kernel
theorem dL_law__1658 : decode cL_law_ 1658 = .ok (.aload_n 0, 1) := by decide +kernel
theorem dL_law__1659 : decode cL_law_ 1659 = .ok (.iload 4, 2) := by decide +kernel
theorem dL_law__1661 : decode cL_law_ 1661 = .ok (.iconst 3, 1) := by decide +kernel
theorem dL_law__1662 : decode cL_law_ 1662 = .ok (.iadd, 1) := by decide +kernel
theorem dL_law__1663 : decode cL_law_ 1663 = .ok (.iaload, 1) := by decide +kernel
theorem dL_law__1664 : decode cL_law_ 1664 = .ok (.ifCond .eq 7, 3) := by decide +kernel
theorem dL_law__1667 : decode cL_law_ 1667 = .ok (.iconst 1, 1) := by decide +kernel
theorem dL_law__1668 : decode cL_law_ 1668 = .ok (.goto 4, 3) := by decide +kernel
theorem dL_law__1671 : decode cL_law_ 1671 = .ok (.iconst 0, 1) := by decide +kernel
theorem dL_law__1672 : decode cL_law_ 1672 = .ok (.aload_n 3, 1) := by decide +kernel
theorem dL_law__1673 : decode cL_law_ 1673 = .ok (.invokestatic 217, 3) := by decide +kernel
theorem dL_law__1676 : decode cL_law_ 1676 = .ok (.istore 5, 2) := by decide +kernel
theorem dL_law__1678 : decode cL_law_ 1678 = .ok (.aload_n 2, 1) := by decide +kernel
theorem dL_law__1679 : decode cL_law_ 1679 = .ok (.aload_n 0, 1) := by decide +kernel
theorem dL_law__1680 : decode cL_law_ 1680 = .ok (.iload 4, 2) := by decide +kernel
theorem dL_law__1682 : decode cL_law_ 1682 = .ok (.iconst 1, 1) := by decide +kernel
theorem dL_law__1683 : decode cL_law_ 1683 = .ok (.iadd, 1) := by decide +kernel
theorem dL_law__1684 : decode cL_law_ 1684 = .ok (.iaload, 1) := by decide +kernel
theorem dL_law__1685 : decode cL_law_ 1685 = .ok (.aload_n 0, 1) := by decide +kernel
theorem dL_law__1686 : decode cL_law_ 1686 = .ok (.iload 4, 2) := by decide +kernel
theorem dL_law__1688 : decode cL_law_ 1688 = .ok (.iconst 2, 1) := by decide +kernel
theorem dL_law__1689 : decode cL_law_ 1689 = .ok (.iadd, 1) := by decide +kernel
theorem dL_law__1690 : decode cL_law_ 1690 = .ok (.iaload, 1) := by decide +kernel
theorem dL_law__1691 : decode cL_law_ 1691 = .ok (.aload_n 0, 1) := by decide +kernel
theorem dL_law__1692 : decode cL_law_ 1692 = .ok (.iload 4, 2) := by decide +kernel
theorem dL_law__1694 : decode cL_law_ 1694 = .ok (.iconst 3, 1) := by decide +kernel
theorem dL_law__1695 : decode cL_law_ 1695 = .ok (.iadd, 1) := by decide +kernel
theorem dL_law__1696 : decode cL_law_ 1696 = .ok (.iaload, 1) := by decide +kernel
theorem dL_law__1697 : decode cL_law_ 1697 = .ok (.ifCond .eq 7, 3) := by decide +kernel
theorem dL_law__1700 : decode cL_law_ 1700 = .ok (.iconst 1, 1) := by decide +kernel
theorem dL_law__1701 : decode cL_law_ 1701 = .ok (.goto 4, 3) := by decide +kernel
theorem dL_law__1704 : decode cL_law_ 1704 = .ok (.iconst 0, 1) := by decide +kernel
theorem dL_law__1705 : decode cL_law_ 1705 = .ok (.invokevirtual 220, 3) := by decide +kernel
theorem dL_law__1708 : decode cL_law_ 1708 = .ok (.istore 6, 2) := by decide +kernel
theorem dL_law__1710 : decode cL_law_ 1710 = .ok (.aload_n 2, 1) := by decide +kernel
theorem dL_law__1711 : decode cL_law_ 1711 = .ok (.invokevirtual 142, 3) := by decide +kernel
theorem dL_law__1714 : decode cL_law_ 1714 = .ok (.iload 5, 2) := by decide +kernel
theorem dL_law__1716 : decode cL_law_ 1716 = .ok (.if_icmp .eq 5, 3) := by decide +kernel
theorem dL_law__1719 : decode cL_law_ 1719 = .ok (.iconst 0, 1) := by decide +kernel
theorem dL_law__1720 : decode cL_law_ 1720 = .ok (.ireturn, 1) := by decide +kernel
theorem dL_law__1721 : decode cL_law_ 1721 = .ok (.iload 5, 2) := by decide +kernel
theorem dL_law__1723 : decode cL_law_ 1723 = .ok (.ifCond .ne 15, 3) := by decide +kernel
theorem dL_law__1726 : decode cL_law_ 1726 = .ok (.aload_n 3, 1) := by decide +kernel
theorem dL_law__1727 : decode cL_law_ 1727 = .ok (.iconst 0, 1) := by decide +kernel
theorem dL_law__1728 : decode cL_law_ 1728 = .ok (.laload, 1) := by decide +kernel
theorem dL_law__1729 : decode cL_law_ 1729 = .ok (.iload 6, 2) := by decide +kernel
theorem dL_law__1731 : decode cL_law_ 1731 = .ok (.i2l, 1) := by decide +kernel
theorem dL_law__1732 : decode cL_law_ 1732 = .ok (.lcmp, 1) := by decide +kernel
theorem dL_law__1733 : decode cL_law_ 1733 = .ok (.ifCond .eq 5, 3) := by decide +kernel
theorem dL_law__1736 : decode cL_law_ 1736 = .ok (.iconst 0, 1) := by decide +kernel
theorem dL_law__1737 : decode cL_law_ 1737 = .ok (.ireturn, 1) := by decide +kernel
theorem dL_law__1738 : decode cL_law_ 1738 = .ok (.goto 1362, 3) := by decide +kernel
theorem dL_law__1741 : decode cL_law_ 1741 = .ok (.aload_n 1, 1) := by decide +kernel
theorem dL_law__1742 : decode cL_law_ 1742 = .ok (.aload_n 0, 1) := by decide +kernel
theorem dL_law__1743 : decode cL_law_ 1743 = .ok (.iload 4, 2) := by decide +kernel
theorem dL_law__1745 : decode cL_law_ 1745 = .ok (.iconst 1, 1) := by decide +kernel
theorem dL_law__1746 : decode cL_law_ 1746 = .ok (.iadd, 1) := by decide +kernel
theorem dL_law__1747 : decode cL_law_ 1747 = .ok (.iaload, 1) := by decide +kernel
theorem dL_law__1748 : decode cL_law_ 1748 = .ok (.aload_n 0, 1) := by decide +kernel
theorem dL_law__1749 : decode cL_law_ 1749 = .ok (.iload 4, 2) := by decide +kernel
theorem dL_law__1751 : decode cL_law_ 1751 = .ok (.iconst 2, 1) := by decide +kernel
theorem dL_law__1752 : decode cL_law_ 1752 = .ok (.iadd, 1) := by decide +kernel
theorem dL_law__1753 : decode cL_law_ 1753 = .ok (.iaload, 1) := by decide +kernel
theorem dL_law__1754 : decode cL_law_ 1754 = .ok (.ifCond .eq 7, 3) := by decide +kernel
theorem dL_law__1757 : decode cL_law_ 1757 = .ok (.iconst 1, 1) := by decide +kernel
theorem dL_law__1758 : decode cL_law_ 1758 = .ok (.goto 4, 3) := by decide +kernel
theorem dL_law__1761 : decode cL_law_ 1761 = .ok (.iconst 0, 1) := by decide +kernel
theorem dL_law__1762 : decode cL_law_ 1762 = .ok (.aload_n 3, 1) := by decide +kernel
theorem dL_law__1763 : decode cL_law_ 1763 = .ok (.invokestatic 221, 3) := by decide +kernel
theorem dL_law__1766 : decode cL_law_ 1766 = .ok (.istore 5, 2) := by decide +kernel
theorem dL_law__1768 : decode cL_law_ 1768 = .ok (.aload_n 2, 1) := by decide +kernel
theorem dL_law__1769 : decode cL_law_ 1769 = .ok (.aload_n 0, 1) := by decide +kernel
theorem dL_law__1770 : decode cL_law_ 1770 = .ok (.iload 4, 2) := by decide +kernel
theorem dL_law__1772 : decode cL_law_ 1772 = .ok (.iconst 1, 1) := by decide +kernel
theorem dL_law__1773 : decode cL_law_ 1773 = .ok (.iadd, 1) := by decide +kernel
theorem dL_law__1774 : decode cL_law_ 1774 = .ok (.iaload, 1) := by decide +kernel
theorem dL_law__1775 : decode cL_law_ 1775 = .ok (.aload_n 0, 1) := by decide +kernel
theorem dL_law__1776 : decode cL_law_ 1776 = .ok (.iload 4, 2) := by decide +kernel
theorem dL_law__1778 : decode cL_law_ 1778 = .ok (.iconst 2, 1) := by decide +kernel
theorem dL_law__1779 : decode cL_law_ 1779 = .ok (.iadd, 1) := by decide +kernel
theorem dL_law__1780 : decode cL_law_ 1780 = .ok (.iaload, 1) := by decide +kernel
theorem dL_law__1781 : decode cL_law_ 1781 = .ok (.ifCond .eq 7, 3) := by decide +kernel
theorem dL_law__1784 : decode cL_law_ 1784 = .ok (.iconst 1, 1) := by decide +kernel
theorem dL_law__1785 : decode cL_law_ 1785 = .ok (.goto 4, 3) := by decide +kernel
theorem dL_law__1788 : decode cL_law_ 1788 = .ok (.iconst 0, 1) := by decide +kernel
theorem dL_law__1789 : decode cL_law_ 1789 = .ok (.invokevirtual 224, 3) := by decide +kernel
theorem dL_law__1792 : decode cL_law_ 1792 = .ok (.istore 6, 2) := by decide +kernel
theorem dL_law__1794 : decode cL_law_ 1794 = .ok (.aload_n 2, 1) := by decide +kernel
theorem dL_law__1795 : decode cL_law_ 1795 = .ok (.invokevirtual 142, 3) := by decide +kernel
theorem dL_law__1798 : decode cL_law_ 1798 = .ok (.iload 5, 2) := by decide +kernel
theorem dL_law__1800 : decode cL_law_ 1800 = .ok (.if_icmp .eq 5, 3) := by decide +kernel
theorem dL_law__1803 : decode cL_law_ 1803 = .ok (.iconst 0, 1) := by decide +kernel
theorem dL_law__1804 : decode cL_law_ 1804 = .ok (.ireturn, 1) := by decide +kernel
theorem dL_law__1805 : decode cL_law_ 1805 = .ok (.iload 5, 2) := by decide +kernel
theorem dL_law__1807 : decode cL_law_ 1807 = .ok (.ifCond .ne 15, 3) := by decide +kernel
theorem dL_law__1810 : decode cL_law_ 1810 = .ok (.aload_n 3, 1) := by decide +kernel
theorem dL_law__1811 : decode cL_law_ 1811 = .ok (.iconst 0, 1) := by decide +kernel
theorem dL_law__1812 : decode cL_law_ 1812 = .ok (.laload, 1) := by decide +kernel
theorem dL_law__1813 : decode cL_law_ 1813 = .ok (.iload 6, 2) := by decide +kernel
theorem dL_law__1815 : decode cL_law_ 1815 = .ok (.i2l, 1) := by decide +kernel
theorem dL_law__1816 : decode cL_law_ 1816 = .ok (.lcmp, 1) := by decide +kernel
theorem dL_law__1817 : decode cL_law_ 1817 = .ok (.ifCond .eq 5, 3) := by decide +kernel
theorem dL_law__1820 : decode cL_law_ 1820 = .ok (.iconst 0, 1) := by decide +kernel
theorem dL_law__1821 : decode cL_law_ 1821 = .ok (.ireturn, 1) := by decide +kernel
theorem dL_law__1822 : decode cL_law_ 1822 = .ok (.goto 1278, 3) := by decide +kernel
theorem dL_law__1825 : decode cL_law_ 1825 = .ok (.aload_n 1, 1) := by decide +kernel
theorem dL_law__1826 : decode cL_law_ 1826 = .ok (.aload_n 0, 1) := by decide +kernel
theorem dL_law__1827 : decode cL_law_ 1827 = .ok (.iload 4, 2) := by decide +kernel
theorem dL_law__1829 : decode cL_law_ 1829 = .ok (.iconst 1, 1) := by decide +kernel
theorem dL_law__1830 : decode cL_law_ 1830 = .ok (.iadd, 1) := by decide +kernel
theorem dL_law__1831 : decode cL_law_ 1831 = .ok (.iaload, 1) := by decide +kernel
theorem dL_law__1832 : decode cL_law_ 1832 = .ok (.aload_n 0, 1) := by decide +kernel
theorem dL_law__1833 : decode cL_law_ 1833 = .ok (.iload 4, 2) := by decide +kernel
theorem dL_law__1835 : decode cL_law_ 1835 = .ok (.iconst 2, 1) := by decide +kernel
theorem dL_law__1836 : decode cL_law_ 1836 = .ok (.iadd, 1) := by decide +kernel
theorem dL_law__1837 : decode cL_law_ 1837 = .ok (.iaload, 1) := by decide +kernel
theorem dL_law__1838 : decode cL_law_ 1838 = .ok (.aload_n 0, 1) := by decide +kernel
theorem dL_law__1839 : decode cL_law_ 1839 = .ok (.iload 4, 2) := by decide +kernel
theorem dL_law__1841 : decode cL_law_ 1841 = .ok (.iconst 3, 1) := by decide +kernel
theorem dL_law__1842 : decode cL_law_ 1842 = .ok (.iadd, 1) := by decide +kernel
theorem dL_law__1843 : decode cL_law_ 1843 = .ok (.iaload, 1) := by decide +kernel
theorem dL_law__1844 : decode cL_law_ 1844 = .ok (.aload_n 0, 1) := by decide +kernel
theorem dL_law__1845 : decode cL_law_ 1845 = .ok (.iload 4, 2) := by decide +kernel
theorem dL_law__1847 : decode cL_law_ 1847 = .ok (.iconst 4, 1) := by decide +kernel
theorem dL_law__1848 : decode cL_law_ 1848 = .ok (.iadd, 1) := by decide +kernel
theorem dL_law__1849 : decode cL_law_ 1849 = .ok (.iaload, 1) := by decide +kernel
theorem dL_law__1850 : decode cL_law_ 1850 = .ok (.ifCond .eq 7, 3) := by decide +kernel
theorem dL_law__1853 : decode cL_law_ 1853 = .ok (.iconst 1, 1) := by decide +kernel
theorem dL_law__1854 : decode cL_law_ 1854 = .ok (.goto 4, 3) := by decide +kernel
theorem dL_law__1857 : decode cL_law_ 1857 = .ok (.iconst 0, 1) := by decide +kernel
theorem dL_law__1858 : decode cL_law_ 1858 = .ok (.aload_n 0, 1) := by decide +kernel
theorem dL_law__1859 : decode cL_law_ 1859 = .ok (.iload 4, 2) := by decide +kernel
theorem dL_law__1861 : decode cL_law_ 1861 = .ok (.iconst 5, 1) := by decide +kernel
theorem dL_law__1862 : decode cL_law_ 1862 = .ok (.iadd, 1) := by decide +kernel
theorem dL_law__1863 : decode cL_law_ 1863 = .ok (.iaload, 1) := by decide +kernel
theorem dL_law__1864 : decode cL_law_ 1864 = .ok (.aload_n 3, 1) := by decide +kernel
theorem dL_law__1865 : decode cL_law_ 1865 = .ok (.invokestatic 225, 3) := by decide +kernel
theorem dL_law__1868 : decode cL_law_ 1868 = .ok (.istore 5, 2) := by decide +kernel
theorem dL_law__1870 : decode cL_law_ 1870 = .ok (.aload_n 2, 1) := by decide +kernel
theorem dL_law__1871 : decode cL_law_ 1871 = .ok (.aload_n 0, 1) := by decide +kernel
theorem dL_law__1872 : decode cL_law_ 1872 = .ok (.iload 4, 2) := by decide +kernel
theorem dL_law__1874 : decode cL_law_ 1874 = .ok (.iconst 1, 1) := by decide +kernel
theorem dL_law__1875 : decode cL_law_ 1875 = .ok (.iadd, 1) := by decide +kernel
theorem dL_law__1876 : decode cL_law_ 1876 = .ok (.iaload, 1) := by decide +kernel
theorem dL_law__1877 : decode cL_law_ 1877 = .ok (.aload_n 0, 1) := by decide +kernel
theorem dL_law__1878 : decode cL_law_ 1878 = .ok (.iload 4, 2) := by decide +kernel
theorem dL_law__1880 : decode cL_law_ 1880 = .ok (.iconst 2, 1) := by decide +kernel
theorem dL_law__1881 : decode cL_law_ 1881 = .ok (.iadd, 1) := by decide +kernel
theorem dL_law__1882 : decode cL_law_ 1882 = .ok (.iaload, 1) := by decide +kernel
theorem dL_law__1883 : decode cL_law_ 1883 = .ok (.aload_n 0, 1) := by decide +kernel
theorem dL_law__1884 : decode cL_law_ 1884 = .ok (.iload 4, 2) := by decide +kernel
theorem dL_law__1886 : decode cL_law_ 1886 = .ok (.iconst 3, 1) := by decide +kernel
theorem dL_law__1887 : decode cL_law_ 1887 = .ok (.iadd, 1) := by decide +kernel
theorem dL_law__1888 : decode cL_law_ 1888 = .ok (.iaload, 1) := by decide +kernel
theorem dL_law__1889 : decode cL_law_ 1889 = .ok (.aload_n 0, 1) := by decide +kernel
theorem dL_law__1890 : decode cL_law_ 1890 = .ok (.iload 4, 2) := by decide +kernel
theorem dL_law__1892 : decode cL_law_ 1892 = .ok (.iconst 4, 1) := by decide +kernel
theorem dL_law__1893 : decode cL_law_ 1893 = .ok (.iadd, 1) := by decide +kernel
theorem dL_law__1894 : decode cL_law_ 1894 = .ok (.iaload, 1) := by decide +kernel
theorem dL_law__1895 : decode cL_law_ 1895 = .ok (.ifCond .eq 7, 3) := by decide +kernel
theorem dL_law__1898 : decode cL_law_ 1898 = .ok (.iconst 1, 1) := by decide +kernel
theorem dL_law__1899 : decode cL_law_ 1899 = .ok (.goto 4, 3) := by decide +kernel
theorem dL_law__1902 : decode cL_law_ 1902 = .ok (.iconst 0, 1) := by decide +kernel
theorem dL_law__1903 : decode cL_law_ 1903 = .ok (.aload_n 0, 1) := by decide +kernel
theorem dL_law__1904 : decode cL_law_ 1904 = .ok (.iload 4, 2) := by decide +kernel
theorem dL_law__1906 : decode cL_law_ 1906 = .ok (.iconst 5, 1) := by decide +kernel
theorem dL_law__1907 : decode cL_law_ 1907 = .ok (.iadd, 1) := by decide +kernel
theorem dL_law__1908 : decode cL_law_ 1908 = .ok (.iaload, 1) := by decide +kernel
theorem dL_law__1909 : decode cL_law_ 1909 = .ok (.invokevirtual 228, 3) := by decide +kernel
theorem dL_law__1912 : decode cL_law_ 1912 = .ok (.lstore 6, 2) := by decide +kernel
theorem dL_law__1914 : decode cL_law_ 1914 = .ok (.aload_n 2, 1) := by decide +kernel
theorem dL_law__1915 : decode cL_law_ 1915 = .ok (.invokevirtual 142, 3) := by decide +kernel
theorem dL_law__1918 : decode cL_law_ 1918 = .ok (.iload 5, 2) := by decide +kernel
theorem dL_law__1920 : decode cL_law_ 1920 = .ok (.if_icmp .eq 5, 3) := by decide +kernel
theorem dL_law__1923 : decode cL_law_ 1923 = .ok (.iconst 0, 1) := by decide +kernel
theorem dL_law__1924 : decode cL_law_ 1924 = .ok (.ireturn, 1) := by decide +kernel
theorem dL_law__1925 : decode cL_law_ 1925 = .ok (.iload 5, 2) := by decide +kernel
theorem dL_law__1927 : decode cL_law_ 1927 = .ok (.ifCond .ne 14, 3) := by decide +kernel
theorem dL_law__1930 : decode cL_law_ 1930 = .ok (.aload_n 3, 1) := by decide +kernel
theorem dL_law__1931 : decode cL_law_ 1931 = .ok (.iconst 0, 1) := by decide +kernel
theorem dL_law__1932 : decode cL_law_ 1932 = .ok (.laload, 1) := by decide +kernel
theorem dL_law__1933 : decode cL_law_ 1933 = .ok (.lload 6, 2) := by decide +kernel
theorem dL_law__1935 : decode cL_law_ 1935 = .ok (.lcmp, 1) := by decide +kernel
theorem dL_law__1936 : decode cL_law_ 1936 = .ok (.ifCond .eq 5, 3) := by decide +kernel
theorem dL_law__1939 : decode cL_law_ 1939 = .ok (.iconst 0, 1) := by decide +kernel
theorem dL_law__1940 : decode cL_law_ 1940 = .ok (.ireturn, 1) := by decide +kernel
theorem dL_law__1941 : decode cL_law_ 1941 = .ok (.goto 1159, 3) := by decide +kernel
theorem dL_law__1944 : decode cL_law_ 1944 = .ok (.aload_n 1, 1) := by decide +kernel
theorem dL_law__1945 : decode cL_law_ 1945 = .ok (.aload_n 0, 1) := by decide +kernel
theorem dL_law__1946 : decode cL_law_ 1946 = .ok (.iload 4, 2) := by decide +kernel
theorem dL_law__1948 : decode cL_law_ 1948 = .ok (.iconst 1, 1) := by decide +kernel
theorem dL_law__1949 : decode cL_law_ 1949 = .ok (.iadd, 1) := by decide +kernel
theorem dL_law__1950 : decode cL_law_ 1950 = .ok (.iaload, 1) := by decide +kernel
theorem dL_law__1951 : decode cL_law_ 1951 = .ok (.aload_n 0, 1) := by decide +kernel
theorem dL_law__1952 : decode cL_law_ 1952 = .ok (.iload 4, 2) := by decide +kernel
theorem dL_law__1954 : decode cL_law_ 1954 = .ok (.iconst 2, 1) := by decide +kernel
theorem dL_law__1955 : decode cL_law_ 1955 = .ok (.iadd, 1) := by decide +kernel
theorem dL_law__1956 : decode cL_law_ 1956 = .ok (.iaload, 1) := by decide +kernel
theorem dL_law__1957 : decode cL_law_ 1957 = .ok (.aload_n 0, 1) := by decide +kernel
theorem dL_law__1958 : decode cL_law_ 1958 = .ok (.iload 4, 2) := by decide +kernel
theorem dL_law__1960 : decode cL_law_ 1960 = .ok (.iconst 3, 1) := by decide +kernel
theorem dL_law__1961 : decode cL_law_ 1961 = .ok (.iadd, 1) := by decide +kernel
theorem dL_law__1962 : decode cL_law_ 1962 = .ok (.iaload, 1) := by decide +kernel
theorem dL_law__1963 : decode cL_law_ 1963 = .ok (.aload_n 0, 1) := by decide +kernel
theorem dL_law__1964 : decode cL_law_ 1964 = .ok (.iload 4, 2) := by decide +kernel
theorem dL_law__1966 : decode cL_law_ 1966 = .ok (.iconst 4, 1) := by decide +kernel
theorem dL_law__1967 : decode cL_law_ 1967 = .ok (.iadd, 1) := by decide +kernel
theorem dL_law__1968 : decode cL_law_ 1968 = .ok (.iaload, 1) := by decide +kernel
theorem dL_law__1969 : decode cL_law_ 1969 = .ok (.ifCond .eq 7, 3) := by decide +kernel
theorem dL_law__1972 : decode cL_law_ 1972 = .ok (.iconst 1, 1) := by decide +kernel
theorem dL_law__1973 : decode cL_law_ 1973 = .ok (.goto 4, 3) := by decide +kernel
theorem dL_law__1976 : decode cL_law_ 1976 = .ok (.iconst 0, 1) := by decide +kernel
theorem dL_law__1977 : decode cL_law_ 1977 = .ok (.aload_n 3, 1) := by decide +kernel
theorem dL_law__1978 : decode cL_law_ 1978 = .ok (.invokestatic 229, 3) := by decide +kernel
theorem dL_law__1981 : decode cL_law_ 1981 = .ok (.istore 5, 2) := by decide +kernel
theorem dL_law__1983 : decode cL_law_ 1983 = .ok (.aload_n 2, 1) := by decide +kernel
theorem dL_law__1984 : decode cL_law_ 1984 = .ok (.aload_n 0, 1) := by decide +kernel
theorem dL_law__1985 : decode cL_law_ 1985 = .ok (.iload 4, 2) := by decide +kernel
theorem dL_law__1987 : decode cL_law_ 1987 = .ok (.iconst 1, 1) := by decide +kernel
theorem dL_law__1988 : decode cL_law_ 1988 = .ok (.iadd, 1) := by decide +kernel
theorem dL_law__1989 : decode cL_law_ 1989 = .ok (.iaload, 1) := by decide +kernel
theorem dL_law__1990 : decode cL_law_ 1990 = .ok (.aload_n 0, 1) := by decide +kernel
theorem dL_law__1991 : decode cL_law_ 1991 = .ok (.iload 4, 2) := by decide +kernel
theorem dL_law__1993 : decode cL_law_ 1993 = .ok (.iconst 2, 1) := by decide +kernel
theorem dL_law__1994 : decode cL_law_ 1994 = .ok (.iadd, 1) := by decide +kernel
theorem dL_law__1995 : decode cL_law_ 1995 = .ok (.iaload, 1) := by decide +kernel
theorem dL_law__1996 : decode cL_law_ 1996 = .ok (.aload_n 0, 1) := by decide +kernel
theorem dL_law__1997 : decode cL_law_ 1997 = .ok (.iload 4, 2) := by decide +kernel
theorem dL_law__1999 : decode cL_law_ 1999 = .ok (.iconst 3, 1) := by decide +kernel
theorem dL_law__2000 : decode cL_law_ 2000 = .ok (.iadd, 1) := by decide +kernel
theorem dL_law__2001 : decode cL_law_ 2001 = .ok (.iaload, 1) := by decide +kernel
theorem dL_law__2002 : decode cL_law_ 2002 = .ok (.aload_n 0, 1) := by decide +kernel
theorem dL_law__2003 : decode cL_law_ 2003 = .ok (.iload 4, 2) := by decide +kernel
theorem dL_law__2005 : decode cL_law_ 2005 = .ok (.iconst 4, 1) := by decide +kernel
theorem dL_law__2006 : decode cL_law_ 2006 = .ok (.iadd, 1) := by decide +kernel
theorem dL_law__2007 : decode cL_law_ 2007 = .ok (.iaload, 1) := by decide +kernel
theorem dL_law__2008 : decode cL_law_ 2008 = .ok (.ifCond .eq 7, 3) := by decide +kernel
theorem dL_law__2011 : decode cL_law_ 2011 = .ok (.iconst 1, 1) := by decide +kernel
theorem dL_law__2012 : decode cL_law_ 2012 = .ok (.goto 4, 3) := by decide +kernel
theorem dL_law__2015 : decode cL_law_ 2015 = .ok (.iconst 0, 1) := by decide +kernel
theorem dL_law__2016 : decode cL_law_ 2016 = .ok (.invokevirtual 231, 3) := by decide +kernel
theorem dL_law__2019 : decode cL_law_ 2019 = .ok (.istore 6, 2) := by decide +kernel
theorem dL_law__2021 : decode cL_law_ 2021 = .ok (.aload_n 2, 1) := by decide +kernel
theorem dL_law__2022 : decode cL_law_ 2022 = .ok (.invokevirtual 142, 3) := by decide +kernel
theorem dL_law__2025 : decode cL_law_ 2025 = .ok (.iload 5, 2) := by decide +kernel
theorem dL_law__2027 : decode cL_law_ 2027 = .ok (.if_icmp .eq 5, 3) := by decide +kernel
theorem dL_law__2030 : decode cL_law_ 2030 = .ok (.iconst 0, 1) := by decide +kernel
theorem dL_law__2031 : decode cL_law_ 2031 = .ok (.ireturn, 1) := by decide +kernel
theorem dL_law__2032 : decode cL_law_ 2032 = .ok (.iload 5, 2) := by decide +kernel
theorem dL_law__2034 : decode cL_law_ 2034 = .ok (.ifCond .ne 15, 3) := by decide +kernel
theorem dL_law__2037 : decode cL_law_ 2037 = .ok (.aload_n 3, 1) := by decide +kernel
theorem dL_law__2038 : decode cL_law_ 2038 = .ok (.iconst 0, 1) := by decide +kernel
theorem dL_law__2039 : decode cL_law_ 2039 = .ok (.laload, 1) := by decide +kernel
theorem dL_law__2040 : decode cL_law_ 2040 = .ok (.iload 6, 2) := by decide +kernel
theorem dL_law__2042 : decode cL_law_ 2042 = .ok (.i2l, 1) := by decide +kernel
theorem dL_law__2043 : decode cL_law_ 2043 = .ok (.lcmp, 1) := by decide +kernel
theorem dL_law__2044 : decode cL_law_ 2044 = .ok (.ifCond .eq 5, 3) := by decide +kernel
theorem dL_law__2047 : decode cL_law_ 2047 = .ok (.iconst 0, 1) := by decide +kernel
theorem dL_law__2048 : decode cL_law_ 2048 = .ok (.ireturn, 1) := by decide +kernel
theorem dL_law__2049 : decode cL_law_ 2049 = .ok (.goto 1051, 3) := by decide +kernel
theorem dL_law__2052 : decode cL_law_ 2052 = .ok (.aload_n 1, 1) := by decide +kernel
theorem dL_law__2053 : decode cL_law_ 2053 = .ok (.aload_n 0, 1) := by decide +kernel
theorem dL_law__2054 : decode cL_law_ 2054 = .ok (.iload 4, 2) := by decide +kernel
theorem dL_law__2056 : decode cL_law_ 2056 = .ok (.iconst 1, 1) := by decide +kernel
theorem dL_law__2057 : decode cL_law_ 2057 = .ok (.iadd, 1) := by decide +kernel
theorem dL_law__2058 : decode cL_law_ 2058 = .ok (.iaload, 1) := by decide +kernel
theorem dL_law__2059 : decode cL_law_ 2059 = .ok (.aload_n 0, 1) := by decide +kernel
theorem dL_law__2060 : decode cL_law_ 2060 = .ok (.iload 4, 2) := by decide +kernel
theorem dL_law__2062 : decode cL_law_ 2062 = .ok (.iconst 2, 1) := by decide +kernel
theorem dL_law__2063 : decode cL_law_ 2063 = .ok (.iadd, 1) := by decide +kernel
theorem dL_law__2064 : decode cL_law_ 2064 = .ok (.iaload, 1) := by decide +kernel
theorem dL_law__2065 : decode cL_law_ 2065 = .ok (.aload_n 0, 1) := by decide +kernel
theorem dL_law__2066 : decode cL_law_ 2066 = .ok (.iload 4, 2) := by decide +kernel
theorem dL_law__2068 : decode cL_law_ 2068 = .ok (.iconst 3, 1) := by decide +kernel
theorem dL_law__2069 : decode cL_law_ 2069 = .ok (.iadd, 1) := by decide +kernel
theorem dL_law__2070 : decode cL_law_ 2070 = .ok (.iaload, 1) := by decide +kernel
theorem dL_law__2071 : decode cL_law_ 2071 = .ok (.aload_n 0, 1) := by decide +kernel
theorem dL_law__2072 : decode cL_law_ 2072 = .ok (.iload 4, 2) := by decide +kernel
theorem dL_law__2074 : decode cL_law_ 2074 = .ok (.iconst 4, 1) := by decide +kernel
theorem dL_law__2075 : decode cL_law_ 2075 = .ok (.iadd, 1) := by decide +kernel
theorem dL_law__2076 : decode cL_law_ 2076 = .ok (.iaload, 1) := by decide +kernel
theorem dL_law__2077 : decode cL_law_ 2077 = .ok (.aload_n 0, 1) := by decide +kernel
theorem dL_law__2078 : decode cL_law_ 2078 = .ok (.iload 4, 2) := by decide +kernel
theorem dL_law__2080 : decode cL_law_ 2080 = .ok (.iconst 5, 1) := by decide +kernel
theorem dL_law__2081 : decode cL_law_ 2081 = .ok (.iadd, 1) := by decide +kernel
theorem dL_law__2082 : decode cL_law_ 2082 = .ok (.iaload, 1) := by decide +kernel
theorem dL_law__2083 : decode cL_law_ 2083 = .ok (.aload_n 0, 1) := by decide +kernel
theorem dL_law__2084 : decode cL_law_ 2084 = .ok (.iload 4, 2) := by decide +kernel
theorem dL_law__2086 : decode cL_law_ 2086 = .ok (.bipush 6, 2) := by decide +kernel
theorem dL_law__2088 : decode cL_law_ 2088 = .ok (.iadd, 1) := by decide +kernel
theorem dL_law__2089 : decode cL_law_ 2089 = .ok (.iaload, 1) := by decide +kernel
theorem dL_law__2090 : decode cL_law_ 2090 = .ok (.aload_n 0, 1) := by decide +kernel
theorem dL_law__2091 : decode cL_law_ 2091 = .ok (.iload 4, 2) := by decide +kernel
theorem dL_law__2093 : decode cL_law_ 2093 = .ok (.bipush 7, 2) := by decide +kernel
theorem dL_law__2095 : decode cL_law_ 2095 = .ok (.iadd, 1) := by decide +kernel
theorem dL_law__2096 : decode cL_law_ 2096 = .ok (.iaload, 1) := by decide +kernel
theorem dL_law__2097 : decode cL_law_ 2097 = .ok (.aload_n 3, 1) := by decide +kernel
theorem dL_law__2098 : decode cL_law_ 2098 = .ok (.invokestatic 232, 3) := by decide +kernel
theorem dL_law__2101 : decode cL_law_ 2101 = .ok (.istore 5, 2) := by decide +kernel
theorem dL_law__2103 : decode cL_law_ 2103 = .ok (.aload_n 2, 1) := by decide +kernel
theorem dL_law__2104 : decode cL_law_ 2104 = .ok (.aload_n 0, 1) := by decide +kernel
theorem dL_law__2105 : decode cL_law_ 2105 = .ok (.iload 4, 2) := by decide +kernel
theorem dL_law__2107 : decode cL_law_ 2107 = .ok (.iconst 1, 1) := by decide +kernel
theorem dL_law__2108 : decode cL_law_ 2108 = .ok (.iadd, 1) := by decide +kernel
theorem dL_law__2109 : decode cL_law_ 2109 = .ok (.iaload, 1) := by decide +kernel
theorem dL_law__2110 : decode cL_law_ 2110 = .ok (.aload_n 0, 1) := by decide +kernel
theorem dL_law__2111 : decode cL_law_ 2111 = .ok (.iload 4, 2) := by decide +kernel
theorem dL_law__2113 : decode cL_law_ 2113 = .ok (.iconst 2, 1) := by decide +kernel
theorem dL_law__2114 : decode cL_law_ 2114 = .ok (.iadd, 1) := by decide +kernel
theorem dL_law__2115 : decode cL_law_ 2115 = .ok (.iaload, 1) := by decide +kernel
theorem dL_law__2116 : decode cL_law_ 2116 = .ok (.aload_n 0, 1) := by decide +kernel
theorem dL_law__2117 : decode cL_law_ 2117 = .ok (.iload 4, 2) := by decide +kernel
theorem dL_law__2119 : decode cL_law_ 2119 = .ok (.iconst 3, 1) := by decide +kernel
theorem dL_law__2120 : decode cL_law_ 2120 = .ok (.iadd, 1) := by decide +kernel
theorem dL_law__2121 : decode cL_law_ 2121 = .ok (.iaload, 1) := by decide +kernel
theorem dL_law__2122 : decode cL_law_ 2122 = .ok (.aload_n 0, 1) := by decide +kernel
theorem dL_law__2123 : decode cL_law_ 2123 = .ok (.iload 4, 2) := by decide +kernel
theorem dL_law__2125 : decode cL_law_ 2125 = .ok (.iconst 4, 1) := by decide +kernel
theorem dL_law__2126 : decode cL_law_ 2126 = .ok (.iadd, 1) := by decide +kernel
theorem dL_law__2127 : decode cL_law_ 2127 = .ok (.iaload, 1) := by decide +kernel
theorem dL_law__2128 : decode cL_law_ 2128 = .ok (.aload_n 0, 1) := by decide +kernel
theorem dL_law__2129 : decode cL_law_ 2129 = .ok (.iload 4, 2) := by decide +kernel
theorem dL_law__2131 : decode cL_law_ 2131 = .ok (.iconst 5, 1) := by decide +kernel
theorem dL_law__2132 : decode cL_law_ 2132 = .ok (.iadd, 1) := by decide +kernel
theorem dL_law__2133 : decode cL_law_ 2133 = .ok (.iaload, 1) := by decide +kernel
theorem dL_law__2134 : decode cL_law_ 2134 = .ok (.aload_n 0, 1) := by decide +kernel
theorem dL_law__2135 : decode cL_law_ 2135 = .ok (.iload 4, 2) := by decide +kernel
theorem dL_law__2137 : decode cL_law_ 2137 = .ok (.bipush 6, 2) := by decide +kernel
theorem dL_law__2139 : decode cL_law_ 2139 = .ok (.iadd, 1) := by decide +kernel
theorem dL_law__2140 : decode cL_law_ 2140 = .ok (.iaload, 1) := by decide +kernel
theorem dL_law__2141 : decode cL_law_ 2141 = .ok (.aload_n 0, 1) := by decide +kernel
theorem dL_law__2142 : decode cL_law_ 2142 = .ok (.iload 4, 2) := by decide +kernel
theorem dL_law__2144 : decode cL_law_ 2144 = .ok (.bipush 7, 2) := by decide +kernel
theorem dL_law__2146 : decode cL_law_ 2146 = .ok (.iadd, 1) := by decide +kernel
theorem dL_law__2147 : decode cL_law_ 2147 = .ok (.iaload, 1) := by decide +kernel
theorem dL_law__2148 : decode cL_law_ 2148 = .ok (.invokevirtual 235, 3) := by decide +kernel
theorem dL_law__2151 : decode cL_law_ 2151 = .ok (.istore 6, 2) := by decide +kernel
theorem dL_law__2153 : decode cL_law_ 2153 = .ok (.aload_n 2, 1) := by decide +kernel
theorem dL_law__2154 : decode cL_law_ 2154 = .ok (.invokevirtual 142, 3) := by decide +kernel
theorem dL_law__2157 : decode cL_law_ 2157 = .ok (.iload 5, 2) := by decide +kernel
theorem dL_law__2159 : decode cL_law_ 2159 = .ok (.if_icmp .eq 5, 3) := by decide +kernel
theorem dL_law__2162 : decode cL_law_ 2162 = .ok (.iconst 0, 1) := by decide +kernel
theorem dL_law__2163 : decode cL_law_ 2163 = .ok (.ireturn, 1) := by decide +kernel
theorem dL_law__2164 : decode cL_law_ 2164 = .ok (.iload 5, 2) := by decide +kernel
theorem dL_law__2166 : decode cL_law_ 2166 = .ok (.ifCond .ne 22, 3) := by decide +kernel
theorem dL_law__2169 : decode cL_law_ 2169 = .ok (.aload_n 3, 1) := by decide +kernel
theorem dL_law__2170 : decode cL_law_ 2170 = .ok (.iconst 0, 1) := by decide +kernel
theorem dL_law__2171 : decode cL_law_ 2171 = .ok (.laload, 1) := by decide +kernel
theorem dL_law__2172 : decode cL_law_ 2172 = .ok (.iload 6, 2) := by decide +kernel
theorem dL_law__2174 : decode cL_law_ 2174 = .ok (.ifCond .eq 7, 3) := by decide +kernel
theorem dL_law__2177 : decode cL_law_ 2177 = .ok (.lconst 1, 1) := by decide +kernel
theorem dL_law__2178 : decode cL_law_ 2178 = .ok (.goto 4, 3) := by decide +kernel
theorem dL_law__2181 : decode cL_law_ 2181 = .ok (.lconst 0, 1) := by decide +kernel
theorem dL_law__2182 : decode cL_law_ 2182 = .ok (.lcmp, 1) := by decide +kernel
theorem dL_law__2183 : decode cL_law_ 2183 = .ok (.ifCond .eq 5, 3) := by decide +kernel
theorem dL_law__2186 : decode cL_law_ 2186 = .ok (.iconst 0, 1) := by decide +kernel
theorem dL_law__2187 : decode cL_law_ 2187 = .ok (.ireturn, 1) := by decide +kernel
theorem dL_law__2188 : decode cL_law_ 2188 = .ok (.goto 912, 3) := by decide +kernel
theorem dL_law__2191 : decode cL_law_ 2191 = .ok (.aload_n 1, 1) := by decide +kernel
theorem dL_law__2192 : decode cL_law_ 2192 = .ok (.aload_n 0, 1) := by decide +kernel
theorem dL_law__2193 : decode cL_law_ 2193 = .ok (.iload 4, 2) := by decide +kernel
theorem dL_law__2195 : decode cL_law_ 2195 = .ok (.iconst 1, 1) := by decide +kernel
theorem dL_law__2196 : decode cL_law_ 2196 = .ok (.iadd, 1) := by decide +kernel
theorem dL_law__2197 : decode cL_law_ 2197 = .ok (.iaload, 1) := by decide +kernel
theorem dL_law__2198 : decode cL_law_ 2198 = .ok (.aload_n 0, 1) := by decide +kernel
theorem dL_law__2199 : decode cL_law_ 2199 = .ok (.iload 4, 2) := by decide +kernel
theorem dL_law__2201 : decode cL_law_ 2201 = .ok (.iconst 2, 1) := by decide +kernel
theorem dL_law__2202 : decode cL_law_ 2202 = .ok (.iadd, 1) := by decide +kernel
theorem dL_law__2203 : decode cL_law_ 2203 = .ok (.iaload, 1) := by decide +kernel
theorem dL_law__2204 : decode cL_law_ 2204 = .ok (.aload_n 0, 1) := by decide +kernel
theorem dL_law__2205 : decode cL_law_ 2205 = .ok (.iload 4, 2) := by decide +kernel
theorem dL_law__2207 : decode cL_law_ 2207 = .ok (.iconst 3, 1) := by decide +kernel
theorem dL_law__2208 : decode cL_law_ 2208 = .ok (.iadd, 1) := by decide +kernel
theorem dL_law__2209 : decode cL_law_ 2209 = .ok (.iaload, 1) := by decide +kernel
theorem dL_law__2210 : decode cL_law_ 2210 = .ok (.aload_n 0, 1) := by decide +kernel
theorem dL_law__2211 : decode cL_law_ 2211 = .ok (.iload 4, 2) := by decide +kernel
theorem dL_law__2213 : decode cL_law_ 2213 = .ok (.iconst 4, 1) := by decide +kernel
theorem dL_law__2214 : decode cL_law_ 2214 = .ok (.iadd, 1) := by decide +kernel
theorem dL_law__2215 : decode cL_law_ 2215 = .ok (.iaload, 1) := by decide +kernel
theorem dL_law__2216 : decode cL_law_ 2216 = .ok (.aload_n 0, 1) := by decide +kernel
theorem dL_law__2217 : decode cL_law_ 2217 = .ok (.iload 4, 2) := by decide +kernel
theorem dL_law__2219 : decode cL_law_ 2219 = .ok (.iconst 5, 1) := by decide +kernel
theorem dL_law__2220 : decode cL_law_ 2220 = .ok (.iadd, 1) := by decide +kernel
theorem dL_law__2221 : decode cL_law_ 2221 = .ok (.iaload, 1) := by decide +kernel
theorem dL_law__2222 : decode cL_law_ 2222 = .ok (.aload_n 0, 1) := by decide +kernel
theorem dL_law__2223 : decode cL_law_ 2223 = .ok (.iload 4, 2) := by decide +kernel
theorem dL_law__2225 : decode cL_law_ 2225 = .ok (.bipush 6, 2) := by decide +kernel
theorem dL_law__2227 : decode cL_law_ 2227 = .ok (.iadd, 1) := by decide +kernel
theorem dL_law__2228 : decode cL_law_ 2228 = .ok (.iaload, 1) := by decide +kernel
theorem dL_law__2229 : decode cL_law_ 2229 = .ok (.aload_n 0, 1) := by decide +kernel
theorem dL_law__2230 : decode cL_law_ 2230 = .ok (.iload 4, 2) := by decide +kernel
theorem dL_law__2232 : decode cL_law_ 2232 = .ok (.bipush 7, 2) := by decide +kernel
theorem dL_law__2234 : decode cL_law_ 2234 = .ok (.iadd, 1) := by decide +kernel
theorem dL_law__2235 : decode cL_law_ 2235 = .ok (.iaload, 1) := by decide +kernel
theorem dL_law__2236 : decode cL_law_ 2236 = .ok (.aload_n 3, 1) := by decide +kernel
theorem dL_law__2237 : decode cL_law_ 2237 = .ok (.invokestatic 236, 3) := by decide +kernel
theorem dL_law__2240 : decode cL_law_ 2240 = .ok (.istore 5, 2) := by decide +kernel
theorem dL_law__2242 : decode cL_law_ 2242 = .ok (.aload_n 2, 1) := by decide +kernel
theorem dL_law__2243 : decode cL_law_ 2243 = .ok (.aload_n 0, 1) := by decide +kernel
theorem dL_law__2244 : decode cL_law_ 2244 = .ok (.iload 4, 2) := by decide +kernel
theorem dL_law__2246 : decode cL_law_ 2246 = .ok (.iconst 1, 1) := by decide +kernel
theorem dL_law__2247 : decode cL_law_ 2247 = .ok (.iadd, 1) := by decide +kernel
theorem dL_law__2248 : decode cL_law_ 2248 = .ok (.iaload, 1) := by decide +kernel
theorem dL_law__2249 : decode cL_law_ 2249 = .ok (.aload_n 0, 1) := by decide +kernel
theorem dL_law__2250 : decode cL_law_ 2250 = .ok (.iload 4, 2) := by decide +kernel
theorem dL_law__2252 : decode cL_law_ 2252 = .ok (.iconst 2, 1) := by decide +kernel
theorem dL_law__2253 : decode cL_law_ 2253 = .ok (.iadd, 1) := by decide +kernel
theorem dL_law__2254 : decode cL_law_ 2254 = .ok (.iaload, 1) := by decide +kernel
theorem dL_law__2255 : decode cL_law_ 2255 = .ok (.aload_n 0, 1) := by decide +kernel
theorem dL_law__2256 : decode cL_law_ 2256 = .ok (.iload 4, 2) := by decide +kernel
theorem dL_law__2258 : decode cL_law_ 2258 = .ok (.iconst 3, 1) := by decide +kernel
theorem dL_law__2259 : decode cL_law_ 2259 = .ok (.iadd, 1) := by decide +kernel
theorem dL_law__2260 : decode cL_law_ 2260 = .ok (.iaload, 1) := by decide +kernel
theorem dL_law__2261 : decode cL_law_ 2261 = .ok (.aload_n 0, 1) := by decide +kernel
theorem dL_law__2262 : decode cL_law_ 2262 = .ok (.iload 4, 2) := by decide +kernel
theorem dL_law__2264 : decode cL_law_ 2264 = .ok (.iconst 4, 1) := by decide +kernel
theorem dL_law__2265 : decode cL_law_ 2265 = .ok (.iadd, 1) := by decide +kernel
theorem dL_law__2266 : decode cL_law_ 2266 = .ok (.iaload, 1) := by decide +kernel
theorem dL_law__2267 : decode cL_law_ 2267 = .ok (.aload_n 0, 1) := by decide +kernel
theorem dL_law__2268 : decode cL_law_ 2268 = .ok (.iload 4, 2) := by decide +kernel
theorem dL_law__2270 : decode cL_law_ 2270 = .ok (.iconst 5, 1) := by decide +kernel
theorem dL_law__2271 : decode cL_law_ 2271 = .ok (.iadd, 1) := by decide +kernel
theorem dL_law__2272 : decode cL_law_ 2272 = .ok (.iaload, 1) := by decide +kernel
theorem dL_law__2273 : decode cL_law_ 2273 = .ok (.aload_n 0, 1) := by decide +kernel
theorem dL_law__2274 : decode cL_law_ 2274 = .ok (.iload 4, 2) := by decide +kernel
theorem dL_law__2276 : decode cL_law_ 2276 = .ok (.bipush 6, 2) := by decide +kernel
theorem dL_law__2278 : decode cL_law_ 2278 = .ok (.iadd, 1) := by decide +kernel
theorem dL_law__2279 : decode cL_law_ 2279 = .ok (.iaload, 1) := by decide +kernel
theorem dL_law__2280 : decode cL_law_ 2280 = .ok (.aload_n 0, 1) := by decide +kernel
theorem dL_law__2281 : decode cL_law_ 2281 = .ok (.iload 4, 2) := by decide +kernel
theorem dL_law__2283 : decode cL_law_ 2283 = .ok (.bipush 7, 2) := by decide +kernel
theorem dL_law__2285 : decode cL_law_ 2285 = .ok (.iadd, 1) := by decide +kernel
theorem dL_law__2286 : decode cL_law_ 2286 = .ok (.iaload, 1) := by decide +kernel
theorem dL_law__2287 : decode cL_law_ 2287 = .ok (.invokevirtual 238, 3) := by decide +kernel
theorem dL_law__2290 : decode cL_law_ 2290 = .ok (.lstore 6, 2) := by decide +kernel
theorem dL_law__2292 : decode cL_law_ 2292 = .ok (.aload_n 2, 1) := by decide +kernel
theorem dL_law__2293 : decode cL_law_ 2293 = .ok (.invokevirtual 142, 3) := by decide +kernel
theorem dL_law__2296 : decode cL_law_ 2296 = .ok (.iload 5, 2) := by decide +kernel
theorem dL_law__2298 : decode cL_law_ 2298 = .ok (.if_icmp .eq 5, 3) := by decide +kernel
theorem dL_law__2301 : decode cL_law_ 2301 = .ok (.iconst 0, 1) := by decide +kernel
theorem dL_law__2302 : decode cL_law_ 2302 = .ok (.ireturn, 1) := by decide +kernel
theorem dL_law__2303 : decode cL_law_ 2303 = .ok (.iload 5, 2) := by decide +kernel
theorem dL_law__2305 : decode cL_law_ 2305 = .ok (.ifCond .ne 14, 3) := by decide +kernel
theorem dL_law__2308 : decode cL_law_ 2308 = .ok (.aload_n 3, 1) := by decide +kernel
theorem dL_law__2309 : decode cL_law_ 2309 = .ok (.iconst 0, 1) := by decide +kernel
theorem dL_law__2310 : decode cL_law_ 2310 = .ok (.laload, 1) := by decide +kernel
theorem dL_law__2311 : decode cL_law_ 2311 = .ok (.lload 6, 2) := by decide +kernel
theorem dL_law__2313 : decode cL_law_ 2313 = .ok (.lcmp, 1) := by decide +kernel
theorem dL_law__2314 : decode cL_law_ 2314 = .ok (.ifCond .eq 5, 3) := by decide +kernel
theorem dL_law__2317 : decode cL_law_ 2317 = .ok (.iconst 0, 1) := by decide +kernel
theorem dL_law__2318 : decode cL_law_ 2318 = .ok (.ireturn, 1) := by decide +kernel
theorem dL_law__2319 : decode cL_law_ 2319 = .ok (.goto 781, 3) := by decide +kernel
theorem dL_law__2322 : decode cL_law_ 2322 = .ok (.aload_n 1, 1) := by decide +kernel
theorem dL_law__2323 : decode cL_law_ 2323 = .ok (.aload_n 0, 1) := by decide +kernel
theorem dL_law__2324 : decode cL_law_ 2324 = .ok (.iload 4, 2) := by decide +kernel
theorem dL_law__2326 : decode cL_law_ 2326 = .ok (.iconst 1, 1) := by decide +kernel
theorem dL_law__2327 : decode cL_law_ 2327 = .ok (.iadd, 1) := by decide +kernel
theorem dL_law__2328 : decode cL_law_ 2328 = .ok (.iaload, 1) := by decide +kernel
theorem dL_law__2329 : decode cL_law_ 2329 = .ok (.aload_n 0, 1) := by decide +kernel
theorem dL_law__2330 : decode cL_law_ 2330 = .ok (.iload 4, 2) := by decide +kernel
theorem dL_law__2332 : decode cL_law_ 2332 = .ok (.iconst 2, 1) := by decide +kernel
theorem dL_law__2333 : decode cL_law_ 2333 = .ok (.iadd, 1) := by decide +kernel
theorem dL_law__2334 : decode cL_law_ 2334 = .ok (.iaload, 1) := by decide +kernel
theorem dL_law__2335 : decode cL_law_ 2335 = .ok (.aload_n 0, 1) := by decide +kernel
theorem dL_law__2336 : decode cL_law_ 2336 = .ok (.iload 4, 2) := by decide +kernel
theorem dL_law__2338 : decode cL_law_ 2338 = .ok (.iconst 3, 1) := by decide +kernel
theorem dL_law__2339 : decode cL_law_ 2339 = .ok (.iadd, 1) := by decide +kernel
theorem dL_law__2340 : decode cL_law_ 2340 = .ok (.iaload, 1) := by decide +kernel
theorem dL_law__2341 : decode cL_law_ 2341 = .ok (.aload_n 3, 1) := by decide +kernel
theorem dL_law__2342 : decode cL_law_ 2342 = .ok (.invokestatic 239, 3) := by decide +kernel
theorem dL_law__2345 : decode cL_law_ 2345 = .ok (.istore 5, 2) := by decide +kernel
theorem dL_law__2347 : decode cL_law_ 2347 = .ok (.aload_n 2, 1) := by decide +kernel
theorem dL_law__2348 : decode cL_law_ 2348 = .ok (.aload_n 0, 1) := by decide +kernel
theorem dL_law__2349 : decode cL_law_ 2349 = .ok (.iload 4, 2) := by decide +kernel
theorem dL_law__2351 : decode cL_law_ 2351 = .ok (.iconst 1, 1) := by decide +kernel
theorem dL_law__2352 : decode cL_law_ 2352 = .ok (.iadd, 1) := by decide +kernel
theorem dL_law__2353 : decode cL_law_ 2353 = .ok (.iaload, 1) := by decide +kernel
theorem dL_law__2354 : decode cL_law_ 2354 = .ok (.aload_n 0, 1) := by decide +kernel
theorem dL_law__2355 : decode cL_law_ 2355 = .ok (.iload 4, 2) := by decide +kernel
theorem dL_law__2357 : decode cL_law_ 2357 = .ok (.iconst 2, 1) := by decide +kernel
theorem dL_law__2358 : decode cL_law_ 2358 = .ok (.iadd, 1) := by decide +kernel
theorem dL_law__2359 : decode cL_law_ 2359 = .ok (.iaload, 1) := by decide +kernel
theorem dL_law__2360 : decode cL_law_ 2360 = .ok (.aload_n 0, 1) := by decide +kernel
theorem dL_law__2361 : decode cL_law_ 2361 = .ok (.iload 4, 2) := by decide +kernel
theorem dL_law__2363 : decode cL_law_ 2363 = .ok (.iconst 3, 1) := by decide +kernel
theorem dL_law__2364 : decode cL_law_ 2364 = .ok (.iadd, 1) := by decide +kernel
theorem dL_law__2365 : decode cL_law_ 2365 = .ok (.iaload, 1) := by decide +kernel
theorem dL_law__2366 : decode cL_law_ 2366 = .ok (.invokevirtual 241, 3) := by decide +kernel
theorem dL_law__2369 : decode cL_law_ 2369 = .ok (.istore 6, 2) := by decide +kernel
theorem dL_law__2371 : decode cL_law_ 2371 = .ok (.aload_n 2, 1) := by decide +kernel
theorem dL_law__2372 : decode cL_law_ 2372 = .ok (.invokevirtual 142, 3) := by decide +kernel
theorem dL_law__2375 : decode cL_law_ 2375 = .ok (.iload 5, 2) := by decide +kernel
theorem dL_law__2377 : decode cL_law_ 2377 = .ok (.if_icmp .eq 5, 3) := by decide +kernel
theorem dL_law__2380 : decode cL_law_ 2380 = .ok (.iconst 0, 1) := by decide +kernel
theorem dL_law__2381 : decode cL_law_ 2381 = .ok (.ireturn, 1) := by decide +kernel
theorem dL_law__2382 : decode cL_law_ 2382 = .ok (.iload 5, 2) := by decide +kernel
theorem dL_law__2384 : decode cL_law_ 2384 = .ok (.ifCond .ne 15, 3) := by decide +kernel
theorem dL_law__2387 : decode cL_law_ 2387 = .ok (.aload_n 3, 1) := by decide +kernel
theorem dL_law__2388 : decode cL_law_ 2388 = .ok (.iconst 0, 1) := by decide +kernel
theorem dL_law__2389 : decode cL_law_ 2389 = .ok (.laload, 1) := by decide +kernel
theorem dL_law__2390 : decode cL_law_ 2390 = .ok (.iload 6, 2) := by decide +kernel
theorem dL_law__2392 : decode cL_law_ 2392 = .ok (.i2l, 1) := by decide +kernel
theorem dL_law__2393 : decode cL_law_ 2393 = .ok (.lcmp, 1) := by decide +kernel
theorem dL_law__2394 : decode cL_law_ 2394 = .ok (.ifCond .eq 5, 3) := by decide +kernel
theorem dL_law__2397 : decode cL_law_ 2397 = .ok (.iconst 0, 1) := by decide +kernel
theorem dL_law__2398 : decode cL_law_ 2398 = .ok (.ireturn, 1) := by decide +kernel
theorem dL_law__2399 : decode cL_law_ 2399 = .ok (.goto 701, 3) := by decide +kernel
theorem dL_law__2402 : decode cL_law_ 2402 = .ok (.aload_n 1, 1) := by decide +kernel
theorem dL_law__2403 : decode cL_law_ 2403 = .ok (.aload_n 0, 1) := by decide +kernel
theorem dL_law__2404 : decode cL_law_ 2404 = .ok (.iload 4, 2) := by decide +kernel
theorem dL_law__2406 : decode cL_law_ 2406 = .ok (.iconst 1, 1) := by decide +kernel
theorem dL_law__2407 : decode cL_law_ 2407 = .ok (.iadd, 1) := by decide +kernel
theorem dL_law__2408 : decode cL_law_ 2408 = .ok (.iaload, 1) := by decide +kernel
theorem dL_law__2409 : decode cL_law_ 2409 = .ok (.aload_n 3, 1) := by decide +kernel
theorem dL_law__2410 : decode cL_law_ 2410 = .ok (.invokestatic 242, 3) := by decide +kernel
theorem dL_law__2413 : decode cL_law_ 2413 = .ok (.istore 5, 2) := by decide +kernel
theorem dL_law__2415 : decode cL_law_ 2415 = .ok (.aload_n 2, 1) := by decide +kernel
theorem dL_law__2416 : decode cL_law_ 2416 = .ok (.aload_n 0, 1) := by decide +kernel
theorem dL_law__2417 : decode cL_law_ 2417 = .ok (.iload 4, 2) := by decide +kernel
theorem dL_law__2419 : decode cL_law_ 2419 = .ok (.iconst 1, 1) := by decide +kernel
theorem dL_law__2420 : decode cL_law_ 2420 = .ok (.iadd, 1) := by decide +kernel
theorem dL_law__2421 : decode cL_law_ 2421 = .ok (.iaload, 1) := by decide +kernel
theorem dL_law__2422 : decode cL_law_ 2422 = .ok (.invokevirtual 244, 3) := by decide +kernel
theorem dL_law__2425 : decode cL_law_ 2425 = .ok (.lstore 6, 2) := by decide +kernel
theorem dL_law__2427 : decode cL_law_ 2427 = .ok (.aload_n 2, 1) := by decide +kernel
theorem dL_law__2428 : decode cL_law_ 2428 = .ok (.invokevirtual 142, 3) := by decide +kernel
theorem dL_law__2431 : decode cL_law_ 2431 = .ok (.iload 5, 2) := by decide +kernel
theorem dL_law__2433 : decode cL_law_ 2433 = .ok (.if_icmp .eq 5, 3) := by decide +kernel
theorem dL_law__2436 : decode cL_law_ 2436 = .ok (.iconst 0, 1) := by decide +kernel
theorem dL_law__2437 : decode cL_law_ 2437 = .ok (.ireturn, 1) := by decide +kernel
theorem dL_law__2438 : decode cL_law_ 2438 = .ok (.iload 5, 2) := by decide +kernel
theorem dL_law__2440 : decode cL_law_ 2440 = .ok (.ifCond .ne 14, 3) := by decide +kernel
theorem dL_law__2443 : decode cL_law_ 2443 = .ok (.aload_n 3, 1) := by decide +kernel
theorem dL_law__2444 : decode cL_law_ 2444 = .ok (.iconst 0, 1) := by decide +kernel
theorem dL_law__2445 : decode cL_law_ 2445 = .ok (.laload, 1) := by decide +kernel
theorem dL_law__2446 : decode cL_law_ 2446 = .ok (.lload 6, 2) := by decide +kernel
theorem dL_law__2448 : decode cL_law_ 2448 = .ok (.lcmp, 1) := by decide +kernel
theorem dL_law__2449 : decode cL_law_ 2449 = .ok (.ifCond .eq 5, 3) := by decide +kernel
theorem dL_law__2452 : decode cL_law_ 2452 = .ok (.iconst 0, 1) := by decide +kernel
theorem dL_law__2453 : decode cL_law_ 2453 = .ok (.ireturn, 1) := by decide +kernel
theorem dL_law__2454 : decode cL_law_ 2454 = .ok (.goto 646, 3) := by decide +kernel
theorem dL_law__2457 : decode cL_law_ 2457 = .ok (.aload_n 1, 1) := by decide +kernel
theorem dL_law__2458 : decode cL_law_ 2458 = .ok (.aload_n 0, 1) := by decide +kernel
theorem dL_law__2459 : decode cL_law_ 2459 = .ok (.iload 4, 2) := by decide +kernel
theorem dL_law__2461 : decode cL_law_ 2461 = .ok (.iconst 1, 1) := by decide +kernel
theorem dL_law__2462 : decode cL_law_ 2462 = .ok (.iadd, 1) := by decide +kernel
theorem dL_law__2463 : decode cL_law_ 2463 = .ok (.iaload, 1) := by decide +kernel
theorem dL_law__2464 : decode cL_law_ 2464 = .ok (.aload_n 0, 1) := by decide +kernel
theorem dL_law__2465 : decode cL_law_ 2465 = .ok (.iload 4, 2) := by decide +kernel
theorem dL_law__2467 : decode cL_law_ 2467 = .ok (.iconst 2, 1) := by decide +kernel
theorem dL_law__2468 : decode cL_law_ 2468 = .ok (.iadd, 1) := by decide +kernel
theorem dL_law__2469 : decode cL_law_ 2469 = .ok (.iaload, 1) := by decide +kernel
theorem dL_law__2470 : decode cL_law_ 2470 = .ok (.aload_n 0, 1) := by decide +kernel
theorem dL_law__2471 : decode cL_law_ 2471 = .ok (.iload 4, 2) := by decide +kernel
theorem dL_law__2473 : decode cL_law_ 2473 = .ok (.iconst 3, 1) := by decide +kernel
theorem dL_law__2474 : decode cL_law_ 2474 = .ok (.iadd, 1) := by decide +kernel
theorem dL_law__2475 : decode cL_law_ 2475 = .ok (.iaload, 1) := by decide +kernel
theorem dL_law__2476 : decode cL_law_ 2476 = .ok (.aload_n 0, 1) := by decide +kernel
theorem dL_law__2477 : decode cL_law_ 2477 = .ok (.iload 4, 2) := by decide +kernel
theorem dL_law__2479 : decode cL_law_ 2479 = .ok (.iconst 4, 1) := by decide +kernel
theorem dL_law__2480 : decode cL_law_ 2480 = .ok (.iadd, 1) := by decide +kernel
theorem dL_law__2481 : decode cL_law_ 2481 = .ok (.iaload, 1) := by decide +kernel
theorem dL_law__2482 : decode cL_law_ 2482 = .ok (.ifCond .eq 7, 3) := by decide +kernel
theorem dL_law__2485 : decode cL_law_ 2485 = .ok (.iconst 1, 1) := by decide +kernel
theorem dL_law__2486 : decode cL_law_ 2486 = .ok (.goto 4, 3) := by decide +kernel
theorem dL_law__2489 : decode cL_law_ 2489 = .ok (.iconst 0, 1) := by decide +kernel
theorem dL_law__2490 : decode cL_law_ 2490 = .ok (.aload_n 0, 1) := by decide +kernel
theorem dL_law__2491 : decode cL_law_ 2491 = .ok (.iload 4, 2) := by decide +kernel
theorem dL_law__2493 : decode cL_law_ 2493 = .ok (.iconst 5, 1) := by decide +kernel
theorem dL_law__2494 : decode cL_law_ 2494 = .ok (.iadd, 1) := by decide +kernel
theorem dL_law__2495 : decode cL_law_ 2495 = .ok (.iaload, 1) := by decide +kernel
theorem dL_law__2496 : decode cL_law_ 2496 = .ok (.i2l, 1) := by decide +kernel
theorem dL_law__2497 : decode cL_law_ 2497 = .ok (.bipush 32, 2) := by decide +kernel
theorem dL_law__2499 : decode cL_law_ 2499 = .ok (.lshl, 1) := by decide +kernel
theorem dL_law__2500 : decode cL_law_ 2500 = .ok (.aload_n 0, 1) := by decide +kernel
theorem dL_law__2501 : decode cL_law_ 2501 = .ok (.iload 4, 2) := by decide +kernel
theorem dL_law__2503 : decode cL_law_ 2503 = .ok (.bipush 6, 2) := by decide +kernel
theorem dL_law__2505 : decode cL_law_ 2505 = .ok (.iadd, 1) := by decide +kernel
theorem dL_law__2506 : decode cL_law_ 2506 = .ok (.iaload, 1) := by decide +kernel
theorem dL_law__2507 : decode cL_law_ 2507 = .ok (.i2l, 1) := by decide +kernel
theorem dL_law__2508 : decode cL_law_ 2508 = .ok (.ldc2_w 245, 3) := by decide +kernel
theorem dL_law__2511 : decode cL_law_ 2511 = .ok (.land, 1) := by decide +kernel
theorem dL_law__2512 : decode cL_law_ 2512 = .ok (.lor, 1) := by decide +kernel
theorem dL_law__2513 : decode cL_law_ 2513 = .ok (.aload_n 3, 1) := by decide +kernel
theorem dL_law__2514 : decode cL_law_ 2514 = .ok (.invokestatic 247, 3) := by decide +kernel
theorem dL_law__2517 : decode cL_law_ 2517 = .ok (.istore 5, 2) := by decide +kernel
theorem dL_law__2519 : decode cL_law_ 2519 = .ok (.aload_n 2, 1) := by decide +kernel
theorem dL_law__2520 : decode cL_law_ 2520 = .ok (.aload_n 0, 1) := by decide +kernel
theorem dL_law__2521 : decode cL_law_ 2521 = .ok (.iload 4, 2) := by decide +kernel
theorem dL_law__2523 : decode cL_law_ 2523 = .ok (.iconst 1, 1) := by decide +kernel
theorem dL_law__2524 : decode cL_law_ 2524 = .ok (.iadd, 1) := by decide +kernel
theorem dL_law__2525 : decode cL_law_ 2525 = .ok (.iaload, 1) := by decide +kernel
theorem dL_law__2526 : decode cL_law_ 2526 = .ok (.aload_n 0, 1) := by decide +kernel
theorem dL_law__2527 : decode cL_law_ 2527 = .ok (.iload 4, 2) := by decide +kernel
theorem dL_law__2529 : decode cL_law_ 2529 = .ok (.iconst 2, 1) := by decide +kernel
theorem dL_law__2530 : decode cL_law_ 2530 = .ok (.iadd, 1) := by decide +kernel
theorem dL_law__2531 : decode cL_law_ 2531 = .ok (.iaload, 1) := by decide +kernel
theorem dL_law__2532 : decode cL_law_ 2532 = .ok (.aload_n 0, 1) := by decide +kernel
theorem dL_law__2533 : decode cL_law_ 2533 = .ok (.iload 4, 2) := by decide +kernel
theorem dL_law__2535 : decode cL_law_ 2535 = .ok (.iconst 3, 1) := by decide +kernel
theorem dL_law__2536 : decode cL_law_ 2536 = .ok (.iadd, 1) := by decide +kernel
theorem dL_law__2537 : decode cL_law_ 2537 = .ok (.iaload, 1) := by decide +kernel
theorem dL_law__2538 : decode cL_law_ 2538 = .ok (.aload_n 0, 1) := by decide +kernel
theorem dL_law__2539 : decode cL_law_ 2539 = .ok (.iload 4, 2) := by decide +kernel
theorem dL_law__2541 : decode cL_law_ 2541 = .ok (.iconst 4, 1) := by decide +kernel
theorem dL_law__2542 : decode cL_law_ 2542 = .ok (.iadd, 1) := by decide +kernel
theorem dL_law__2543 : decode cL_law_ 2543 = .ok (.iaload, 1) := by decide +kernel
theorem dL_law__2544 : decode cL_law_ 2544 = .ok (.ifCond .eq 7, 3) := by decide +kernel
theorem dL_law__2547 : decode cL_law_ 2547 = .ok (.iconst 1, 1) := by decide +kernel
theorem dL_law__2548 : decode cL_law_ 2548 = .ok (.goto 4, 3) := by decide +kernel
theorem dL_law__2551 : decode cL_law_ 2551 = .ok (.iconst 0, 1) := by decide +kernel
theorem dL_law__2552 : decode cL_law_ 2552 = .ok (.aload_n 0, 1) := by decide +kernel
theorem dL_law__2553 : decode cL_law_ 2553 = .ok (.iload 4, 2) := by decide +kernel
theorem dL_law__2555 : decode cL_law_ 2555 = .ok (.iconst 5, 1) := by decide +kernel
theorem dL_law__2556 : decode cL_law_ 2556 = .ok (.iadd, 1) := by decide +kernel
theorem dL_law__2557 : decode cL_law_ 2557 = .ok (.iaload, 1) := by decide +kernel
theorem dL_law__2558 : decode cL_law_ 2558 = .ok (.i2l, 1) := by decide +kernel
theorem dL_law__2559 : decode cL_law_ 2559 = .ok (.bipush 32, 2) := by decide +kernel
theorem dL_law__2561 : decode cL_law_ 2561 = .ok (.lshl, 1) := by decide +kernel
theorem dL_law__2562 : decode cL_law_ 2562 = .ok (.aload_n 0, 1) := by decide +kernel
theorem dL_law__2563 : decode cL_law_ 2563 = .ok (.iload 4, 2) := by decide +kernel
theorem dL_law__2565 : decode cL_law_ 2565 = .ok (.bipush 6, 2) := by decide +kernel
theorem dL_law__2567 : decode cL_law_ 2567 = .ok (.iadd, 1) := by decide +kernel
theorem dL_law__2568 : decode cL_law_ 2568 = .ok (.iaload, 1) := by decide +kernel
theorem dL_law__2569 : decode cL_law_ 2569 = .ok (.i2l, 1) := by decide +kernel
theorem dL_law__2570 : decode cL_law_ 2570 = .ok (.ldc2_w 245, 3) := by decide +kernel
theorem dL_law__2573 : decode cL_law_ 2573 = .ok (.land, 1) := by decide +kernel
theorem dL_law__2574 : decode cL_law_ 2574 = .ok (.lor, 1) := by decide +kernel
theorem dL_law__2575 : decode cL_law_ 2575 = .ok (.invokevirtual 250, 3) := by decide +kernel
theorem dL_law__2578 : decode cL_law_ 2578 = .ok (.istore 6, 2) := by decide +kernel
theorem dL_law__2580 : decode cL_law_ 2580 = .ok (.aload_n 2, 1) := by decide +kernel
theorem dL_law__2581 : decode cL_law_ 2581 = .ok (.invokevirtual 142, 3) := by decide +kernel
theorem dL_law__2584 : decode cL_law_ 2584 = .ok (.iload 5, 2) := by decide +kernel
theorem dL_law__2586 : decode cL_law_ 2586 = .ok (.if_icmp .eq 5, 3) := by decide +kernel
theorem dL_law__2589 : decode cL_law_ 2589 = .ok (.iconst 0, 1) := by decide +kernel
theorem dL_law__2590 : decode cL_law_ 2590 = .ok (.ireturn, 1) := by decide +kernel
theorem dL_law__2591 : decode cL_law_ 2591 = .ok (.iload 5, 2) := by decide +kernel
theorem dL_law__2593 : decode cL_law_ 2593 = .ok (.ifCond .ne 15, 3) := by decide +kernel
theorem dL_law__2596 : decode cL_law_ 2596 = .ok (.aload_n 3, 1) := by decide +kernel
theorem dL_law__2597 : decode cL_law_ 2597 = .ok (.iconst 0, 1) := by decide +kernel
theorem dL_law__2598 : decode cL_law_ 2598 = .ok (.laload, 1) := by decide +kernel
theorem dL_law__2599 : decode cL_law_ 2599 = .ok (.iload 6, 2) := by decide +kernel
theorem dL_law__2601 : decode cL_law_ 2601 = .ok (.i2l, 1) := by decide +kernel
theorem dL_law__2602 : decode cL_law_ 2602 = .ok (.lcmp, 1) := by decide +kernel
theorem dL_law__2603 : decode cL_law_ 2603 = .ok (.ifCond .eq 5, 3) := by decide +kernel
theorem dL_law__2606 : decode cL_law_ 2606 = .ok (.iconst 0, 1) := by decide +kernel
theorem dL_law__2607 : decode cL_law_ 2607 = .ok (.ireturn, 1) := by decide +kernel
theorem dL_law__2608 : decode cL_law_ 2608 = .ok (.goto 492, 3) := by decide +kernel
theorem dL_law__2611 : decode cL_law_ 2611 = .ok (.aload_n 1, 1) := by decide +kernel
theorem dL_law__2612 : decode cL_law_ 2612 = .ok (.aload_n 0, 1) := by decide +kernel
theorem dL_law__2613 : decode cL_law_ 2613 = .ok (.iload 4, 2) := by decide +kernel
theorem dL_law__2615 : decode cL_law_ 2615 = .ok (.iconst 1, 1) := by decide +kernel
theorem dL_law__2616 : decode cL_law_ 2616 = .ok (.iadd, 1) := by decide +kernel
theorem dL_law__2617 : decode cL_law_ 2617 = .ok (.iaload, 1) := by decide +kernel
theorem dL_law__2618 : decode cL_law_ 2618 = .ok (.aload_n 0, 1) := by decide +kernel
theorem dL_law__2619 : decode cL_law_ 2619 = .ok (.iload 4, 2) := by decide +kernel
theorem dL_law__2621 : decode cL_law_ 2621 = .ok (.iconst 2, 1) := by decide +kernel
theorem dL_law__2622 : decode cL_law_ 2622 = .ok (.iadd, 1) := by decide +kernel
theorem dL_law__2623 : decode cL_law_ 2623 = .ok (.iaload, 1) := by decide +kernel
theorem dL_law__2624 : decode cL_law_ 2624 = .ok (.aload_n 0, 1) := by decide +kernel
theorem dL_law__2625 : decode cL_law_ 2625 = .ok (.iload 4, 2) := by decide +kernel
theorem dL_law__2627 : decode cL_law_ 2627 = .ok (.iconst 3, 1) := by decide +kernel
theorem dL_law__2628 : decode cL_law_ 2628 = .ok (.iadd, 1) := by decide +kernel
theorem dL_law__2629 : decode cL_law_ 2629 = .ok (.iaload, 1) := by decide +kernel
theorem dL_law__2630 : decode cL_law_ 2630 = .ok (.aload_n 0, 1) := by decide +kernel
theorem dL_law__2631 : decode cL_law_ 2631 = .ok (.iload 4, 2) := by decide +kernel
theorem dL_law__2633 : decode cL_law_ 2633 = .ok (.iconst 4, 1) := by decide +kernel
theorem dL_law__2634 : decode cL_law_ 2634 = .ok (.iadd, 1) := by decide +kernel
theorem dL_law__2635 : decode cL_law_ 2635 = .ok (.iaload, 1) := by decide +kernel
theorem dL_law__2636 : decode cL_law_ 2636 = .ok (.aload_n 0, 1) := by decide +kernel
theorem dL_law__2637 : decode cL_law_ 2637 = .ok (.iload 4, 2) := by decide +kernel
theorem dL_law__2639 : decode cL_law_ 2639 = .ok (.iconst 5, 1) := by decide +kernel
theorem dL_law__2640 : decode cL_law_ 2640 = .ok (.iadd, 1) := by decide +kernel
theorem dL_law__2641 : decode cL_law_ 2641 = .ok (.iaload, 1) := by decide +kernel
theorem dL_law__2642 : decode cL_law_ 2642 = .ok (.aload_n 3, 1) := by decide +kernel
theorem dL_law__2643 : decode cL_law_ 2643 = .ok (.invokestatic 251, 3) := by decide +kernel
theorem dL_law__2646 : decode cL_law_ 2646 = .ok (.istore 5, 2) := by decide +kernel
theorem dL_law__2648 : decode cL_law_ 2648 = .ok (.aload_n 2, 1) := by decide +kernel
theorem dL_law__2649 : decode cL_law_ 2649 = .ok (.aload_n 0, 1) := by decide +kernel
theorem dL_law__2650 : decode cL_law_ 2650 = .ok (.iload 4, 2) := by decide +kernel
theorem dL_law__2652 : decode cL_law_ 2652 = .ok (.iconst 1, 1) := by decide +kernel
theorem dL_law__2653 : decode cL_law_ 2653 = .ok (.iadd, 1) := by decide +kernel
theorem dL_law__2654 : decode cL_law_ 2654 = .ok (.iaload, 1) := by decide +kernel
theorem dL_law__2655 : decode cL_law_ 2655 = .ok (.aload_n 0, 1) := by decide +kernel
theorem dL_law__2656 : decode cL_law_ 2656 = .ok (.iload 4, 2) := by decide +kernel
theorem dL_law__2658 : decode cL_law_ 2658 = .ok (.iconst 2, 1) := by decide +kernel
theorem dL_law__2659 : decode cL_law_ 2659 = .ok (.iadd, 1) := by decide +kernel
theorem dL_law__2660 : decode cL_law_ 2660 = .ok (.iaload, 1) := by decide +kernel
theorem dL_law__2661 : decode cL_law_ 2661 = .ok (.aload_n 0, 1) := by decide +kernel
theorem dL_law__2662 : decode cL_law_ 2662 = .ok (.iload 4, 2) := by decide +kernel
theorem dL_law__2664 : decode cL_law_ 2664 = .ok (.iconst 3, 1) := by decide +kernel
theorem dL_law__2665 : decode cL_law_ 2665 = .ok (.iadd, 1) := by decide +kernel
theorem dL_law__2666 : decode cL_law_ 2666 = .ok (.iaload, 1) := by decide +kernel
theorem dL_law__2667 : decode cL_law_ 2667 = .ok (.aload_n 0, 1) := by decide +kernel
theorem dL_law__2668 : decode cL_law_ 2668 = .ok (.iload 4, 2) := by decide +kernel
theorem dL_law__2670 : decode cL_law_ 2670 = .ok (.iconst 4, 1) := by decide +kernel
theorem dL_law__2671 : decode cL_law_ 2671 = .ok (.iadd, 1) := by decide +kernel
theorem dL_law__2672 : decode cL_law_ 2672 = .ok (.iaload, 1) := by decide +kernel
theorem dL_law__2673 : decode cL_law_ 2673 = .ok (.aload_n 0, 1) := by decide +kernel
theorem dL_law__2674 : decode cL_law_ 2674 = .ok (.iload 4, 2) := by decide +kernel
theorem dL_law__2676 : decode cL_law_ 2676 = .ok (.iconst 5, 1) := by decide +kernel
theorem dL_law__2677 : decode cL_law_ 2677 = .ok (.iadd, 1) := by decide +kernel
theorem dL_law__2678 : decode cL_law_ 2678 = .ok (.iaload, 1) := by decide +kernel
theorem dL_law__2679 : decode cL_law_ 2679 = .ok (.invokevirtual 253, 3) := by decide +kernel
theorem dL_law__2682 : decode cL_law_ 2682 = .ok (.istore 6, 2) := by decide +kernel
theorem dL_law__2684 : decode cL_law_ 2684 = .ok (.aload_n 2, 1) := by decide +kernel
theorem dL_law__2685 : decode cL_law_ 2685 = .ok (.invokevirtual 142, 3) := by decide +kernel
theorem dL_law__2688 : decode cL_law_ 2688 = .ok (.iload 5, 2) := by decide +kernel
theorem dL_law__2690 : decode cL_law_ 2690 = .ok (.if_icmp .eq 5, 3) := by decide +kernel
theorem dL_law__2693 : decode cL_law_ 2693 = .ok (.iconst 0, 1) := by decide +kernel
theorem dL_law__2694 : decode cL_law_ 2694 = .ok (.ireturn, 1) := by decide +kernel
theorem dL_law__2695 : decode cL_law_ 2695 = .ok (.iload 5, 2) := by decide +kernel
theorem dL_law__2697 : decode cL_law_ 2697 = .ok (.ifCond .ne 15, 3) := by decide +kernel
theorem dL_law__2700 : decode cL_law_ 2700 = .ok (.aload_n 3, 1) := by decide +kernel
theorem dL_law__2701 : decode cL_law_ 2701 = .ok (.iconst 0, 1) := by decide +kernel
theorem dL_law__2702 : decode cL_law_ 2702 = .ok (.laload, 1) := by decide +kernel
theorem dL_law__2703 : decode cL_law_ 2703 = .ok (.iload 6, 2) := by decide +kernel
theorem dL_law__2705 : decode cL_law_ 2705 = .ok (.i2l, 1) := by decide +kernel
theorem dL_law__2706 : decode cL_law_ 2706 = .ok (.lcmp, 1) := by decide +kernel
theorem dL_law__2707 : decode cL_law_ 2707 = .ok (.ifCond .eq 5, 3) := by decide +kernel
theorem dL_law__2710 : decode cL_law_ 2710 = .ok (.iconst 0, 1) := by decide +kernel
theorem dL_law__2711 : decode cL_law_ 2711 = .ok (.ireturn, 1) := by decide +kernel
theorem dL_law__2712 : decode cL_law_ 2712 = .ok (.goto 388, 3) := by decide +kernel
theorem dL_law__2715 : decode cL_law_ 2715 = .ok (.aload_n 1, 1) := by decide +kernel
theorem dL_law__2716 : decode cL_law_ 2716 = .ok (.aload_n 0, 1) := by decide +kernel
theorem dL_law__2717 : decode cL_law_ 2717 = .ok (.iload 4, 2) := by decide +kernel
theorem dL_law__2719 : decode cL_law_ 2719 = .ok (.iconst 1, 1) := by decide +kernel
theorem dL_law__2720 : decode cL_law_ 2720 = .ok (.iadd, 1) := by decide +kernel
theorem dL_law__2721 : decode cL_law_ 2721 = .ok (.iaload, 1) := by decide +kernel
theorem dL_law__2722 : decode cL_law_ 2722 = .ok (.aload_n 0, 1) := by decide +kernel
theorem dL_law__2723 : decode cL_law_ 2723 = .ok (.iload 4, 2) := by decide +kernel
theorem dL_law__2725 : decode cL_law_ 2725 = .ok (.iconst 2, 1) := by decide +kernel
theorem dL_law__2726 : decode cL_law_ 2726 = .ok (.iadd, 1) := by decide +kernel
theorem dL_law__2727 : decode cL_law_ 2727 = .ok (.iaload, 1) := by decide +kernel
theorem dL_law__2728 : decode cL_law_ 2728 = .ok (.aload_n 0, 1) := by decide +kernel
theorem dL_law__2729 : decode cL_law_ 2729 = .ok (.iload 4, 2) := by decide +kernel
theorem dL_law__2731 : decode cL_law_ 2731 = .ok (.iconst 3, 1) := by decide +kernel
theorem dL_law__2732 : decode cL_law_ 2732 = .ok (.iadd, 1) := by decide +kernel
theorem dL_law__2733 : decode cL_law_ 2733 = .ok (.iaload, 1) := by decide +kernel
theorem dL_law__2734 : decode cL_law_ 2734 = .ok (.invokevirtual 254, 3) := by decide +kernel
theorem dL_law__2737 : decode cL_law_ 2737 = .ok (.aload_n 2, 1) := by decide +kernel
theorem dL_law__2738 : decode cL_law_ 2738 = .ok (.aload_n 0, 1) := by decide +kernel
theorem dL_law__2739 : decode cL_law_ 2739 = .ok (.iload 4, 2) := by decide +kernel
theorem dL_law__2741 : decode cL_law_ 2741 = .ok (.iconst 1, 1) := by decide +kernel
theorem dL_law__2742 : decode cL_law_ 2742 = .ok (.iadd, 1) := by decide +kernel
theorem dL_law__2743 : decode cL_law_ 2743 = .ok (.iaload, 1) := by decide +kernel
theorem dL_law__2744 : decode cL_law_ 2744 = .ok (.aload_n 0, 1) := by decide +kernel
theorem dL_law__2745 : decode cL_law_ 2745 = .ok (.iload 4, 2) := by decide +kernel
theorem dL_law__2747 : decode cL_law_ 2747 = .ok (.iconst 2, 1) := by decide +kernel
theorem dL_law__2748 : decode cL_law_ 2748 = .ok (.iadd, 1) := by decide +kernel
theorem dL_law__2749 : decode cL_law_ 2749 = .ok (.iaload, 1) := by decide +kernel
theorem dL_law__2750 : decode cL_law_ 2750 = .ok (.aload_n 0, 1) := by decide +kernel
theorem dL_law__2751 : decode cL_law_ 2751 = .ok (.iload 4, 2) := by decide +kernel
theorem dL_law__2753 : decode cL_law_ 2753 = .ok (.iconst 3, 1) := by decide +kernel
theorem dL_law__2754 : decode cL_law_ 2754 = .ok (.iadd, 1) := by decide +kernel
theorem dL_law__2755 : decode cL_law_ 2755 = .ok (.iaload, 1) := by decide +kernel
theorem dL_law__2756 : decode cL_law_ 2756 = .ok (.invokevirtual 257, 3) := by decide +kernel
theorem dL_law__2759 : decode cL_law_ 2759 = .ok (.if_icmp .eq 341, 3) := by decide +kernel
theorem dL_law__2762 : decode cL_law_ 2762 = .ok (.iconst 0, 1) := by decide +kernel
theorem dL_law__2763 : decode cL_law_ 2763 = .ok (.ireturn, 1) := by decide +kernel
theorem dL_law__2764 : decode cL_law_ 2764 = .ok (.aload_n 1, 1) := by decide +kernel
theorem dL_law__2765 : decode cL_law_ 2765 = .ok (.aload_n 0, 1) := by decide +kernel
theorem dL_law__2766 : decode cL_law_ 2766 = .ok (.iload 4, 2) := by decide +kernel
theorem dL_law__2768 : decode cL_law_ 2768 = .ok (.iconst 1, 1) := by decide +kernel
theorem dL_law__2769 : decode cL_law_ 2769 = .ok (.iadd, 1) := by decide +kernel
theorem dL_law__2770 : decode cL_law_ 2770 = .ok (.iaload, 1) := by decide +kernel
theorem dL_law__2771 : decode cL_law_ 2771 = .ok (.aload_n 0, 1) := by decide +kernel
theorem dL_law__2772 : decode cL_law_ 2772 = .ok (.iload 4, 2) := by decide +kernel
theorem dL_law__2774 : decode cL_law_ 2774 = .ok (.iconst 2, 1) := by decide +kernel
theorem dL_law__2775 : decode cL_law_ 2775 = .ok (.iadd, 1) := by decide +kernel
theorem dL_law__2776 : decode cL_law_ 2776 = .ok (.iaload, 1) := by decide +kernel
theorem dL_law__2777 : decode cL_law_ 2777 = .ok (.aload_n 0, 1) := by decide +kernel
theorem dL_law__2778 : decode cL_law_ 2778 = .ok (.iload 4, 2) := by decide +kernel
theorem dL_law__2780 : decode cL_law_ 2780 = .ok (.iconst 3, 1) := by decide +kernel
theorem dL_law__2781 : decode cL_law_ 2781 = .ok (.iadd, 1) := by decide +kernel
theorem dL_law__2782 : decode cL_law_ 2782 = .ok (.iaload, 1) := by decide +kernel
theorem dL_law__2783 : decode cL_law_ 2783 = .ok (.invokestatic 258, 3) := by decide +kernel
theorem dL_law__2786 : decode cL_law_ 2786 = .ok (.istore 5, 2) := by decide +kernel
theorem dL_law__2788 : decode cL_law_ 2788 = .ok (.aload_n 2, 1) := by decide +kernel
theorem dL_law__2789 : decode cL_law_ 2789 = .ok (.aload_n 0, 1) := by decide +kernel
theorem dL_law__2790 : decode cL_law_ 2790 = .ok (.iload 4, 2) := by decide +kernel
theorem dL_law__2792 : decode cL_law_ 2792 = .ok (.iconst 1, 1) := by decide +kernel
theorem dL_law__2793 : decode cL_law_ 2793 = .ok (.iadd, 1) := by decide +kernel
theorem dL_law__2794 : decode cL_law_ 2794 = .ok (.iaload, 1) := by decide +kernel
theorem dL_law__2795 : decode cL_law_ 2795 = .ok (.aload_n 0, 1) := by decide +kernel
theorem dL_law__2796 : decode cL_law_ 2796 = .ok (.iload 4, 2) := by decide +kernel
theorem dL_law__2798 : decode cL_law_ 2798 = .ok (.iconst 2, 1) := by decide +kernel
theorem dL_law__2799 : decode cL_law_ 2799 = .ok (.iadd, 1) := by decide +kernel
theorem dL_law__2800 : decode cL_law_ 2800 = .ok (.iaload, 1) := by decide +kernel
theorem dL_law__2801 : decode cL_law_ 2801 = .ok (.aload_n 0, 1) := by decide +kernel
theorem dL_law__2802 : decode cL_law_ 2802 = .ok (.iload 4, 2) := by decide +kernel
theorem dL_law__2804 : decode cL_law_ 2804 = .ok (.iconst 3, 1) := by decide +kernel
theorem dL_law__2805 : decode cL_law_ 2805 = .ok (.iadd, 1) := by decide +kernel
theorem dL_law__2806 : decode cL_law_ 2806 = .ok (.iaload, 1) := by decide +kernel
theorem dL_law__2807 : decode cL_law_ 2807 = .ok (.invokevirtual 261, 3) := by decide +kernel
theorem dL_law__2810 : decode cL_law_ 2810 = .ok (.aload_n 2, 1) := by decide +kernel
theorem dL_law__2811 : decode cL_law_ 2811 = .ok (.invokevirtual 142, 3) := by decide +kernel
theorem dL_law__2814 : decode cL_law_ 2814 = .ok (.iload 5, 2) := by decide +kernel
theorem dL_law__2816 : decode cL_law_ 2816 = .ok (.if_icmp .eq 5, 3) := by decide +kernel
theorem dL_law__2819 : decode cL_law_ 2819 = .ok (.iconst 0, 1) := by decide +kernel
theorem dL_law__2820 : decode cL_law_ 2820 = .ok (.ireturn, 1) := by decide +kernel
theorem dL_law__2821 : decode cL_law_ 2821 = .ok (.goto 279, 3) := by decide +kernel
theorem dL_law__2824 : decode cL_law_ 2824 = .ok (.aload_n 1, 1) := by decide +kernel
theorem dL_law__2825 : decode cL_law_ 2825 = .ok (.aload_n 0, 1) := by decide +kernel
theorem dL_law__2826 : decode cL_law_ 2826 = .ok (.iload 4, 2) := by decide +kernel
theorem dL_law__2828 : decode cL_law_ 2828 = .ok (.iconst 1, 1) := by decide +kernel
theorem dL_law__2829 : decode cL_law_ 2829 = .ok (.iadd, 1) := by decide +kernel
theorem dL_law__2830 : decode cL_law_ 2830 = .ok (.iaload, 1) := by decide +kernel
theorem dL_law__2831 : decode cL_law_ 2831 = .ok (.aload_n 0, 1) := by decide +kernel
theorem dL_law__2832 : decode cL_law_ 2832 = .ok (.iload 4, 2) := by decide +kernel
theorem dL_law__2834 : decode cL_law_ 2834 = .ok (.iconst 2, 1) := by decide +kernel
theorem dL_law__2835 : decode cL_law_ 2835 = .ok (.iadd, 1) := by decide +kernel
theorem dL_law__2836 : decode cL_law_ 2836 = .ok (.iaload, 1) := by decide +kernel
theorem dL_law__2837 : decode cL_law_ 2837 = .ok (.aload_n 0, 1) := by decide +kernel
theorem dL_law__2838 : decode cL_law_ 2838 = .ok (.iload 4, 2) := by decide +kernel
theorem dL_law__2840 : decode cL_law_ 2840 = .ok (.iconst 3, 1) := by decide +kernel
theorem dL_law__2841 : decode cL_law_ 2841 = .ok (.iadd, 1) := by decide +kernel
theorem dL_law__2842 : decode cL_law_ 2842 = .ok (.iaload, 1) := by decide +kernel
theorem dL_law__2843 : decode cL_law_ 2843 = .ok (.i2l, 1) := by decide +kernel
theorem dL_law__2844 : decode cL_law_ 2844 = .ok (.bipush 32, 2) := by decide +kernel
theorem dL_law__2846 : decode cL_law_ 2846 = .ok (.lshl, 1) := by decide +kernel
theorem dL_law__2847 : decode cL_law_ 2847 = .ok (.aload_n 0, 1) := by decide +kernel
theorem dL_law__2848 : decode cL_law_ 2848 = .ok (.iload 4, 2) := by decide +kernel
theorem dL_law__2850 : decode cL_law_ 2850 = .ok (.iconst 4, 1) := by decide +kernel
theorem dL_law__2851 : decode cL_law_ 2851 = .ok (.iadd, 1) := by decide +kernel
theorem dL_law__2852 : decode cL_law_ 2852 = .ok (.iaload, 1) := by decide +kernel
theorem dL_law__2853 : decode cL_law_ 2853 = .ok (.i2l, 1) := by decide +kernel
theorem dL_law__2854 : decode cL_law_ 2854 = .ok (.ldc2_w 245, 3) := by decide +kernel
theorem dL_law__2857 : decode cL_law_ 2857 = .ok (.land, 1) := by decide +kernel
theorem dL_law__2858 : decode cL_law_ 2858 = .ok (.lor, 1) := by decide +kernel
theorem dL_law__2859 : decode cL_law_ 2859 = .ok (.aload_n 3, 1) := by decide +kernel
theorem dL_law__2860 : decode cL_law_ 2860 = .ok (.invokestatic 262, 3) := by decide +kernel
theorem dL_law__2863 : decode cL_law_ 2863 = .ok (.istore 5, 2) := by decide +kernel
theorem dL_law__2865 : decode cL_law_ 2865 = .ok (.aload_n 2, 1) := by decide +kernel
theorem dL_law__2866 : decode cL_law_ 2866 = .ok (.aload_n 0, 1) := by decide +kernel
theorem dL_law__2867 : decode cL_law_ 2867 = .ok (.iload 4, 2) := by decide +kernel
theorem dL_law__2869 : decode cL_law_ 2869 = .ok (.iconst 1, 1) := by decide +kernel
theorem dL_law__2870 : decode cL_law_ 2870 = .ok (.iadd, 1) := by decide +kernel
theorem dL_law__2871 : decode cL_law_ 2871 = .ok (.iaload, 1) := by decide +kernel
theorem dL_law__2872 : decode cL_law_ 2872 = .ok (.aload_n 0, 1) := by decide +kernel
theorem dL_law__2873 : decode cL_law_ 2873 = .ok (.iload 4, 2) := by decide +kernel
theorem dL_law__2875 : decode cL_law_ 2875 = .ok (.iconst 2, 1) := by decide +kernel
theorem dL_law__2876 : decode cL_law_ 2876 = .ok (.iadd, 1) := by decide +kernel
theorem dL_law__2877 : decode cL_law_ 2877 = .ok (.iaload, 1) := by decide +kernel
theorem dL_law__2878 : decode cL_law_ 2878 = .ok (.aload_n 0, 1) := by decide +kernel
theorem dL_law__2879 : decode cL_law_ 2879 = .ok (.iload 4, 2) := by decide +kernel
theorem dL_law__2881 : decode cL_law_ 2881 = .ok (.iconst 3, 1) := by decide +kernel
theorem dL_law__2882 : decode cL_law_ 2882 = .ok (.iadd, 1) := by decide +kernel
theorem dL_law__2883 : decode cL_law_ 2883 = .ok (.iaload, 1) := by decide +kernel
theorem dL_law__2884 : decode cL_law_ 2884 = .ok (.i2l, 1) := by decide +kernel
theorem dL_law__2885 : decode cL_law_ 2885 = .ok (.bipush 32, 2) := by decide +kernel
theorem dL_law__2887 : decode cL_law_ 2887 = .ok (.lshl, 1) := by decide +kernel
theorem dL_law__2888 : decode cL_law_ 2888 = .ok (.aload_n 0, 1) := by decide +kernel
theorem dL_law__2889 : decode cL_law_ 2889 = .ok (.iload 4, 2) := by decide +kernel
theorem dL_law__2891 : decode cL_law_ 2891 = .ok (.iconst 4, 1) := by decide +kernel
theorem dL_law__2892 : decode cL_law_ 2892 = .ok (.iadd, 1) := by decide +kernel
theorem dL_law__2893 : decode cL_law_ 2893 = .ok (.iaload, 1) := by decide +kernel
theorem dL_law__2894 : decode cL_law_ 2894 = .ok (.i2l, 1) := by decide +kernel
theorem dL_law__2895 : decode cL_law_ 2895 = .ok (.ldc2_w 245, 3) := by decide +kernel
theorem dL_law__2898 : decode cL_law_ 2898 = .ok (.land, 1) := by decide +kernel
theorem dL_law__2899 : decode cL_law_ 2899 = .ok (.lor, 1) := by decide +kernel
theorem dL_law__2900 : decode cL_law_ 2900 = .ok (.invokevirtual 265, 3) := by decide +kernel
theorem dL_law__2903 : decode cL_law_ 2903 = .ok (.lstore 6, 2) := by decide +kernel
theorem dL_law__2905 : decode cL_law_ 2905 = .ok (.aload_n 2, 1) := by decide +kernel
theorem dL_law__2906 : decode cL_law_ 2906 = .ok (.invokevirtual 142, 3) := by decide +kernel
theorem dL_law__2909 : decode cL_law_ 2909 = .ok (.iload 5, 2) := by decide +kernel
theorem dL_law__2911 : decode cL_law_ 2911 = .ok (.if_icmp .eq 5, 3) := by decide +kernel
theorem dL_law__2914 : decode cL_law_ 2914 = .ok (.iconst 0, 1) := by decide +kernel
theorem dL_law__2915 : decode cL_law_ 2915 = .ok (.ireturn, 1) := by decide +kernel
theorem dL_law__2916 : decode cL_law_ 2916 = .ok (.iload 5, 2) := by decide +kernel
theorem dL_law__2918 : decode cL_law_ 2918 = .ok (.ifCond .ne 14, 3) := by decide +kernel
theorem dL_law__2921 : decode cL_law_ 2921 = .ok (.aload_n 3, 1) := by decide +kernel
theorem dL_law__2922 : decode cL_law_ 2922 = .ok (.iconst 0, 1) := by decide +kernel
theorem dL_law__2923 : decode cL_law_ 2923 = .ok (.laload, 1) := by decide +kernel
theorem dL_law__2924 : decode cL_law_ 2924 = .ok (.lload 6, 2) := by decide +kernel
theorem dL_law__2926 : decode cL_law_ 2926 = .ok (.lcmp, 1) := by decide +kernel
theorem dL_law__2927 : decode cL_law_ 2927 = .ok (.ifCond .eq 5, 3) := by decide +kernel
theorem dL_law__2930 : decode cL_law_ 2930 = .ok (.iconst 0, 1) := by decide +kernel
theorem dL_law__2931 : decode cL_law_ 2931 = .ok (.ireturn, 1) := by decide +kernel
theorem dL_law__2932 : decode cL_law_ 2932 = .ok (.goto 168, 3) := by decide +kernel
theorem dL_law__2935 : decode cL_law_ 2935 = .ok (.aload_n 1, 1) := by decide +kernel
theorem dL_law__2936 : decode cL_law_ 2936 = .ok (.aload_n 0, 1) := by decide +kernel
theorem dL_law__2937 : decode cL_law_ 2937 = .ok (.iload 4, 2) := by decide +kernel
theorem dL_law__2939 : decode cL_law_ 2939 = .ok (.iconst 1, 1) := by decide +kernel
theorem dL_law__2940 : decode cL_law_ 2940 = .ok (.iadd, 1) := by decide +kernel
theorem dL_law__2941 : decode cL_law_ 2941 = .ok (.iaload, 1) := by decide +kernel
theorem dL_law__2942 : decode cL_law_ 2942 = .ok (.aload_n 0, 1) := by decide +kernel
theorem dL_law__2943 : decode cL_law_ 2943 = .ok (.iload 4, 2) := by decide +kernel
theorem dL_law__2945 : decode cL_law_ 2945 = .ok (.iconst 2, 1) := by decide +kernel
theorem dL_law__2946 : decode cL_law_ 2946 = .ok (.iadd, 1) := by decide +kernel
theorem dL_law__2947 : decode cL_law_ 2947 = .ok (.iaload, 1) := by decide +kernel
theorem dL_law__2948 : decode cL_law_ 2948 = .ok (.aload_n 3, 1) := by decide +kernel
theorem dL_law__2949 : decode cL_law_ 2949 = .ok (.invokestatic 266, 3) := by decide +kernel
theorem dL_law__2952 : decode cL_law_ 2952 = .ok (.istore 5, 2) := by decide +kernel
theorem dL_law__2954 : decode cL_law_ 2954 = .ok (.aload_n 2, 1) := by decide +kernel
theorem dL_law__2955 : decode cL_law_ 2955 = .ok (.aload_n 0, 1) := by decide +kernel
theorem dL_law__2956 : decode cL_law_ 2956 = .ok (.iload 4, 2) := by decide +kernel
theorem dL_law__2958 : decode cL_law_ 2958 = .ok (.iconst 1, 1) := by decide +kernel
theorem dL_law__2959 : decode cL_law_ 2959 = .ok (.iadd, 1) := by decide +kernel
theorem dL_law__2960 : decode cL_law_ 2960 = .ok (.iaload, 1) := by decide +kernel
theorem dL_law__2961 : decode cL_law_ 2961 = .ok (.aload_n 0, 1) := by decide +kernel
theorem dL_law__2962 : decode cL_law_ 2962 = .ok (.iload 4, 2) := by decide +kernel
theorem dL_law__2964 : decode cL_law_ 2964 = .ok (.iconst 2, 1) := by decide +kernel
theorem dL_law__2965 : decode cL_law_ 2965 = .ok (.iadd, 1) := by decide +kernel
theorem dL_law__2966 : decode cL_law_ 2966 = .ok (.iaload, 1) := by decide +kernel
theorem dL_law__2967 : decode cL_law_ 2967 = .ok (.invokevirtual 268, 3) := by decide +kernel
theorem dL_law__2970 : decode cL_law_ 2970 = .ok (.istore 6, 2) := by decide +kernel
theorem dL_law__2972 : decode cL_law_ 2972 = .ok (.aload_n 2, 1) := by decide +kernel
theorem dL_law__2973 : decode cL_law_ 2973 = .ok (.invokevirtual 142, 3) := by decide +kernel
theorem dL_law__2976 : decode cL_law_ 2976 = .ok (.iload 5, 2) := by decide +kernel
theorem dL_law__2978 : decode cL_law_ 2978 = .ok (.if_icmp .eq 5, 3) := by decide +kernel
theorem dL_law__2981 : decode cL_law_ 2981 = .ok (.iconst 0, 1) := by decide +kernel
theorem dL_law__2982 : decode cL_law_ 2982 = .ok (.ireturn, 1) := by decide +kernel
theorem dL_law__2983 : decode cL_law_ 2983 = .ok (.iload 5, 2) := by decide +kernel
theorem dL_law__2985 : decode cL_law_ 2985 = .ok (.ifCond .ne 15, 3) := by decide +kernel
theorem dL_law__2988 : decode cL_law_ 2988 = .ok (.aload_n 3, 1) := by decide +kernel
theorem dL_law__2989 : decode cL_law_ 2989 = .ok (.iconst 0, 1) := by decide +kernel
theorem dL_law__2990 : decode cL_law_ 2990 = .ok (.laload, 1) := by decide +kernel
theorem dL_law__2991 : decode cL_law_ 2991 = .ok (.iload 6, 2) := by decide +kernel
theorem dL_law__2993 : decode cL_law_ 2993 = .ok (.i2l, 1) := by decide +kernel
theorem dL_law__2994 : decode cL_law_ 2994 = .ok (.lcmp, 1) := by decide +kernel
theorem dL_law__2995 : decode cL_law_ 2995 = .ok (.ifCond .eq 5, 3) := by decide +kernel
theorem dL_law__2998 : decode cL_law_ 2998 = .ok (.iconst 0, 1) := by decide +kernel
theorem dL_law__2999 : decode cL_law_ 2999 = .ok (.ireturn, 1) := by decide +kernel
theorem dL_law__3000 : decode cL_law_ 3000 = .ok (.goto 100, 3) := by decide +kernel
theorem dL_law__3003 : decode cL_law_ 3003 = .ok (.aload_n 1, 1) := by decide +kernel
theorem dL_law__3004 : decode cL_law_ 3004 = .ok (.aload_n 0, 1) := by decide +kernel
theorem dL_law__3005 : decode cL_law_ 3005 = .ok (.iload 4, 2) := by decide +kernel
theorem dL_law__3007 : decode cL_law_ 3007 = .ok (.iconst 1, 1) := by decide +kernel
theorem dL_law__3008 : decode cL_law_ 3008 = .ok (.iadd, 1) := by decide +kernel
theorem dL_law__3009 : decode cL_law_ 3009 = .ok (.iaload, 1) := by decide +kernel
theorem dL_law__3010 : decode cL_law_ 3010 = .ok (.invokestatic 269, 3) := by decide +kernel
theorem dL_law__3013 : decode cL_law_ 3013 = .ok (.istore 5, 2) := by decide +kernel
theorem dL_law__3015 : decode cL_law_ 3015 = .ok (.aload_n 2, 1) := by decide +kernel
theorem dL_law__3016 : decode cL_law_ 3016 = .ok (.aload_n 0, 1) := by decide +kernel
theorem dL_law__3017 : decode cL_law_ 3017 = .ok (.iload 4, 2) := by decide +kernel
theorem dL_law__3019 : decode cL_law_ 3019 = .ok (.iconst 1, 1) := by decide +kernel
theorem dL_law__3020 : decode cL_law_ 3020 = .ok (.iadd, 1) := by decide +kernel
theorem dL_law__3021 : decode cL_law_ 3021 = .ok (.iaload, 1) := by decide +kernel
theorem dL_law__3022 : decode cL_law_ 3022 = .ok (.invokevirtual 272, 3) := by decide +kernel
theorem dL_law__3025 : decode cL_law_ 3025 = .ok (.aload_n 2, 1) := by decide +kernel
theorem dL_law__3026 : decode cL_law_ 3026 = .ok (.invokevirtual 142, 3) := by decide +kernel
theorem dL_law__3029 : decode cL_law_ 3029 = .ok (.iload 5, 2) := by decide +kernel
theorem dL_law__3031 : decode cL_law_ 3031 = .ok (.if_icmp .eq 5, 3) := by decide +kernel
theorem dL_law__3034 : decode cL_law_ 3034 = .ok (.iconst 0, 1) := by decide +kernel
theorem dL_law__3035 : decode cL_law_ 3035 = .ok (.ireturn, 1) := by decide +kernel
theorem dL_law__3036 : decode cL_law_ 3036 = .ok (.goto 64, 3) := by decide +kernel
theorem dL_law__3039 : decode cL_law_ 3039 = .ok (.aload_n 1, 1) := by decide +kernel
theorem dL_law__3040 : decode cL_law_ 3040 = .ok (.aload_n 0, 1) := by decide +kernel
theorem dL_law__3041 : decode cL_law_ 3041 = .ok (.iload 4, 2) := by decide +kernel
theorem dL_law__3043 : decode cL_law_ 3043 = .ok (.iconst 1, 1) := by decide +kernel
theorem dL_law__3044 : decode cL_law_ 3044 = .ok (.iadd, 1) := by decide +kernel
theorem dL_law__3045 : decode cL_law_ 3045 = .ok (.iaload, 1) := by decide +kernel
theorem dL_law__3046 : decode cL_law_ 3046 = .ok (.invokestatic 273, 3) := by decide +kernel
theorem dL_law__3049 : decode cL_law_ 3049 = .ok (.istore 5, 2) := by decide +kernel
theorem dL_law__3051 : decode cL_law_ 3051 = .ok (.aload_n 2, 1) := by decide +kernel
theorem dL_law__3052 : decode cL_law_ 3052 = .ok (.aload_n 0, 1) := by decide +kernel
theorem dL_law__3053 : decode cL_law_ 3053 = .ok (.iload 4, 2) := by decide +kernel
theorem dL_law__3055 : decode cL_law_ 3055 = .ok (.iconst 1, 1) := by decide +kernel
theorem dL_law__3056 : decode cL_law_ 3056 = .ok (.iadd, 1) := by decide +kernel
theorem dL_law__3057 : decode cL_law_ 3057 = .ok (.iaload, 1) := by decide +kernel
theorem dL_law__3058 : decode cL_law_ 3058 = .ok (.invokevirtual 275, 3) := by decide +kernel
theorem dL_law__3061 : decode cL_law_ 3061 = .ok (.aload_n 2, 1) := by decide +kernel
theorem dL_law__3062 : decode cL_law_ 3062 = .ok (.invokevirtual 142, 3) := by decide +kernel
theorem dL_law__3065 : decode cL_law_ 3065 = .ok (.iload 5, 2) := by decide +kernel
theorem dL_law__3067 : decode cL_law_ 3067 = .ok (.if_icmp .eq 5, 3) := by decide +kernel
theorem dL_law__3070 : decode cL_law_ 3070 = .ok (.iconst 0, 1) := by decide +kernel
theorem dL_law__3071 : decode cL_law_ 3071 = .ok (.ireturn, 1) := by decide +kernel
theorem dL_law__3072 : decode cL_law_ 3072 = .ok (.goto 28, 3) := by decide +kernel
theorem dL_law__3075 : decode cL_law_ 3075 = .ok (.aload_n 1, 1) := by decide +kernel
theorem dL_law__3076 : decode cL_law_ 3076 = .ok (.aload_n 0, 1) := by decide +kernel
theorem dL_law__3077 : decode cL_law_ 3077 = .ok (.iload 4, 2) := by decide +kernel
theorem dL_law__3079 : decode cL_law_ 3079 = .ok (.iconst 1, 1) := by decide +kernel
theorem dL_law__3080 : decode cL_law_ 3080 = .ok (.iadd, 1) := by decide +kernel
theorem dL_law__3081 : decode cL_law_ 3081 = .ok (.iaload, 1) := by decide +kernel
theorem dL_law__3082 : decode cL_law_ 3082 = .ok (.invokevirtual 276, 3) := by decide +kernel
theorem dL_law__3085 : decode cL_law_ 3085 = .ok (.aload_n 2, 1) := by decide +kernel
theorem dL_law__3086 : decode cL_law_ 3086 = .ok (.aload_n 0, 1) := by decide +kernel
theorem dL_law__3087 : decode cL_law_ 3087 = .ok (.iload 4, 2) := by decide +kernel
theorem dL_law__3089 : decode cL_law_ 3089 = .ok (.iconst 1, 1) := by decide +kernel
theorem dL_law__3090 : decode cL_law_ 3090 = .ok (.iadd, 1) := by decide +kernel
theorem dL_law__3091 : decode cL_law_ 3091 = .ok (.iaload, 1) := by decide +kernel
theorem dL_law__3092 : decode cL_law_ 3092 = .ok (.invokevirtual 279, 3) := by decide +kernel
theorem dL_law__3095 : decode cL_law_ 3095 = .ok (.if_icmp .eq 5, 3) := by decide +kernel
theorem dL_law__3098 : decode cL_law_ 3098 = .ok (.iconst 0, 1) := by decide +kernel
theorem dL_law__3099 : decode cL_law_ 3099 = .ok (.ireturn, 1) := by decide +kernel
theorem dL_law__3100 : decode cL_law_ 3100 = .ok (.iinc 4 8, 3) := by decide +kernel
theorem dL_law__3103 : decode cL_law_ 3103 = .ok (.goto (-3080), 3) := by decide +kernel
theorem dL_law__3106 : decode cL_law_ 3106 = .ok (.iconst 1, 1) := by decide +kernel
theorem dL_law__3107 : decode cL_law_ 3107 = .ok (.ireturn, 1) := by decide +kernel
