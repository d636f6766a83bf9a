/-! THE LAW's code -/
theorem dL_1241 : decode code 1241 = .ok (.aload_n 2, 1) := by decide +kernel
theorem dL_1242 : decode code 1242 = .ok (.aload_n 0, 1) := by decide +kernel
theorem dL_1243 : decode code 1243 = .ok (.iload_n 3, 1) := by decide +kernel
theorem dL_1244 : decode code 1244 = .ok (.iconst 1, 1) := by decide +kernel
theorem dL_1245 : decode code 1245 = .ok (.iadd, 1) := by decide +kernel
theorem dL_1246 : decode code 1246 = .ok (.iaload, 1) := by decide +kernel
theorem dL_1247 : decode code 1247 = .ok (.aload_n 0, 1) := by decide +kernel
theorem dL_1248 : decode code 1248 = .ok (.iload_n 3, 1) := by decide +kernel
theorem dL_1249 : decode code 1249 = .ok (.iconst 2, 1) := by decide +kernel
theorem dL_1250 : decode code 1250 = .ok (.iadd, 1) := by decide +kernel
theorem dL_1251 : decode code 1251 = .ok (.iaload, 1) := by decide +kernel
theorem dL_1252 : decode code 1252 = .ok (.aload_n 0, 1) := by decide +kernel
theorem dL_1253 : decode code 1253 = .ok (.iload_n 3, 1) := by decide +kernel
theorem dL_1254 : decode code 1254 = .ok (.iconst 3, 1) := by decide +kernel
theorem dL_1255 : decode code 1255 = .ok (.iadd, 1) := by decide +kernel
theorem dL_1256 : decode code 1256 = .ok (.iaload, 1) := by decide +kernel
theorem dL_1257 : decode code 1257 = .ok (.invokevirtual 146, 3) := by decide +kernel
theorem dL_1260 : decode code 1260 = .ok (.if_icmp .eq 370, 3) := by decide +kernel
theorem dL_1263 : decode code 1263 = .ok (.iconst 0, 1) := by decide +kernel
theorem dL_1264 : decode code 1264 = .ok (.ireturn, 1) := by decide +kernel
theorem dL_1265 : decode code 1265 = .ok (.aload_n 1, 1) := by decide +kernel
theorem dL_1266 : decode code 1266 = .ok (.aload_n 0, 1) := by decide +kernel
theorem dL_1267 : decode code 1267 = .ok (.iload_n 3, 1) := by decide +kernel
theorem dL_1268 : decode code 1268 = .ok (.iconst 1, 1) := by decide +kernel
theorem dL_1269 : decode code 1269 = .ok (.iadd, 1) := by decide +kernel
theorem dL_1270 : decode code 1270 = .ok (.iaload, 1) := by decide +kernel
theorem dL_1271 : decode code 1271 = .ok (.invokevirtual 147, 3) := by decide +kernel
theorem dL_1274 : decode code 1274 = .ok (.aload_n 2, 1) := by decide +kernel
theorem dL_1275 : decode code 1275 = .ok (.aload_n 0, 1) := by decide +kernel
theorem dL_1276 : decode code 1276 = .ok (.iload_n 3, 1) := by decide +kernel
theorem dL_1277 : decode code 1277 = .ok (.iconst 1, 1) := by decide +kernel
theorem dL_1278 : decode code 1278 = .ok (.iadd, 1) := by decide +kernel
theorem dL_1279 : decode code 1279 = .ok (.iaload, 1) := by decide +kernel
theorem dL_1280 : decode code 1280 = .ok (.invokevirtual 150, 3) := by decide +kernel
theorem dL_1283 : decode code 1283 = .ok (.if_icmp .eq 347, 3) := by decide +kernel
theorem dL_1286 : decode code 1286 = .ok (.iconst 0, 1) := by decide +kernel
theorem dL_1287 : decode code 1287 = .ok (.ireturn, 1) := by decide +kernel
theorem dL_1288 : decode code 1288 = .ok (.aload_n 1, 1) := by decide +kernel
theorem dL_1289 : decode code 1289 = .ok (.aload_n 0, 1) := by decide +kernel
theorem dL_1290 : decode code 1290 = .ok (.iload_n 3, 1) := by decide +kernel
theorem dL_1291 : decode code 1291 = .ok (.iconst 1, 1) := by decide +kernel
theorem dL_1292 : decode code 1292 = .ok (.iadd, 1) := by decide +kernel
theorem dL_1293 : decode code 1293 = .ok (.iaload, 1) := by decide +kernel
theorem dL_1294 : decode code 1294 = .ok (.aload_n 0, 1) := by decide +kernel
theorem dL_1295 : decode code 1295 = .ok (.iload_n 3, 1) := by decide +kernel
theorem dL_1296 : decode code 1296 = .ok (.iconst 2, 1) := by decide +kernel
theorem dL_1297 : decode code 1297 = .ok (.iadd, 1) := by decide +kernel
theorem dL_1298 : decode code 1298 = .ok (.iaload, 1) := by decide +kernel
theorem dL_1299 : decode code 1299 = .ok (.invokevirtual 151, 3) := by decide +kernel
theorem dL_1302 : decode code 1302 = .ok (.aload_n 2, 1) := by decide +kernel
theorem dL_1303 : decode code 1303 = .ok (.aload_n 0, 1) := by decide +kernel
theorem dL_1304 : decode code 1304 = .ok (.iload_n 3, 1) := by decide +kernel
theorem dL_1305 : decode code 1305 = .ok (.iconst 1, 1) := by decide +kernel
theorem dL_1306 : decode code 1306 = .ok (.iadd, 1) := by decide +kernel
theorem dL_1307 : decode code 1307 = .ok (.iaload, 1) := by decide +kernel
theorem dL_1308 : decode code 1308 = .ok (.aload_n 0, 1) := by decide +kernel
theorem dL_1309 : decode code 1309 = .ok (.iload_n 3, 1) := by decide +kernel
theorem dL_1310 : decode code 1310 = .ok (.iconst 2, 1) := by decide +kernel
theorem dL_1311 : decode code 1311 = .ok (.iadd, 1) := by decide +kernel
theorem dL_1312 : decode code 1312 = .ok (.iaload, 1) := by decide +kernel
theorem dL_1313 : decode code 1313 = .ok (.invokevirtual 154, 3) := by decide +kernel
theorem dL_1316 : decode code 1316 = .ok (.if_icmp .eq 314, 3) := by decide +kernel
theorem dL_1319 : decode code 1319 = .ok (.iconst 0, 1) := by decide +kernel
theorem dL_1320 : decode code 1320 = .ok (.ireturn, 1) := by decide +kernel
theorem dL_1321 : decode code 1321 = .ok (.aload_n 1, 1) := by decide +kernel
theorem dL_1322 : decode code 1322 = .ok (.aload_n 0, 1) := by decide +kernel
theorem dL_1323 : decode code 1323 = .ok (.iload_n 3, 1) := by decide +kernel
theorem dL_1324 : decode code 1324 = .ok (.iconst 1, 1) := by decide +kernel
theorem dL_1325 : decode code 1325 = .ok (.iadd, 1) := by decide +kernel
theorem dL_1326 : decode code 1326 = .ok (.iaload, 1) := by decide +kernel
theorem dL_1327 : decode code 1327 = .ok (.aload_n 0, 1) := by decide +kernel
theorem dL_1328 : decode code 1328 = .ok (.iload_n 3, 1) := by decide +kernel
theorem dL_1329 : decode code 1329 = .ok (.iconst 2, 1) := by decide +kernel
theorem dL_1330 : decode code 1330 = .ok (.iadd, 1) := by decide +kernel
theorem dL_1331 : decode code 1331 = .ok (.iaload, 1) := by decide +kernel
theorem dL_1332 : decode code 1332 = .ok (.invokevirtual 155, 3) := by decide +kernel
theorem dL_1335 : decode code 1335 = .ok (.aload_n 2, 1) := by decide +kernel
theorem dL_1336 : decode code 1336 = .ok (.aload_n 0, 1) := by decide +kernel
theorem dL_1337 : decode code 1337 = .ok (.iload_n 3, 1) := by decide +kernel
theorem dL_1338 : decode code 1338 = .ok (.iconst 1, 1) := by decide +kernel
theorem dL_1339 : decode code 1339 = .ok (.iadd, 1) := by decide +kernel
theorem dL_1340 : decode code 1340 = .ok (.iaload, 1) := by decide +kernel
theorem dL_1341 : decode code 1341 = .ok (.aload_n 0, 1) := by decide +kernel
theorem dL_1342 : decode code 1342 = .ok (.iload_n 3, 1) := by decide +kernel
theorem dL_1343 : decode code 1343 = .ok (.iconst 2, 1) := by decide +kernel
theorem dL_1344 : decode code 1344 = .ok (.iadd, 1) := by decide +kernel
theorem dL_1345 : decode code 1345 = .ok (.iaload, 1) := by decide +kernel
theorem dL_1346 : decode code 1346 = .ok (.invokevirtual 158, 3) := by decide +kernel
theorem dL_1349 : decode code 1349 = .ok (.if_icmp .eq 281, 3) := by decide +kernel
theorem dL_1352 : decode code 1352 = .ok (.iconst 0, 1) := by decide +kernel
theorem dL_1353 : decode code 1353 = .ok (.ireturn, 1) := by decide +kernel
theorem dL_1354 : decode code 1354 = .ok (.aload_n 1, 1) := by decide +kernel
theorem dL_1355 : decode code 1355 = .ok (.aload_n 0, 1) := by decide +kernel
theorem dL_1356 : decode code 1356 = .ok (.iload_n 3, 1) := by decide +kernel
theorem dL_1357 : decode code 1357 = .ok (.iconst 1, 1) := by decide +kernel
theorem dL_1358 : decode code 1358 = .ok (.iadd, 1) := by decide +kernel
theorem dL_1359 : decode code 1359 = .ok (.iaload, 1) := by decide +kernel
theorem dL_1360 : decode code 1360 = .ok (.aload_n 0, 1) := by decide +kernel
theorem dL_1361 : decode code 1361 = .ok (.iload_n 3, 1) := by decide +kernel
theorem dL_1362 : decode code 1362 = .ok (.iconst 2, 1) := by decide +kernel
theorem dL_1363 : decode code 1363 = .ok (.iadd, 1) := by decide +kernel
theorem dL_1364 : decode code 1364 = .ok (.iaload, 1) := by decide +kernel
theorem dL_1365 : decode code 1365 = .ok (.aload_n 0, 1) := by decide +kernel
theorem dL_1366 : decode code 1366 = .ok (.iload_n 3, 1) := by decide +kernel
theorem dL_1367 : decode code 1367 = .ok (.iconst 3, 1) := by decide +kernel
theorem dL_1368 : decode code 1368 = .ok (.iadd, 1) := by decide +kernel
theorem dL_1369 : decode code 1369 = .ok (.iaload, 1) := by decide +kernel
theorem dL_1370 : decode code 1370 = .ok (.invokevirtual 159, 3) := by decide +kernel
theorem dL_1373 : decode code 1373 = .ok (.aload_n 2, 1) := by decide +kernel
theorem dL_1374 : decode code 1374 = .ok (.aload_n 0, 1) := by decide +kernel
theorem dL_1375 : decode code 1375 = .ok (.iload_n 3, 1) := by decide +kernel
theorem dL_1376 : decode code 1376 = .ok (.iconst 1, 1) := by decide +kernel
theorem dL_1377 : decode code 1377 = .ok (.iadd, 1) := by decide +kernel
theorem dL_1378 : decode code 1378 = .ok (.iaload, 1) := by decide +kernel
theorem dL_1379 : decode code 1379 = .ok (.aload_n 0, 1) := by decide +kernel
theorem dL_1380 : decode code 1380 = .ok (.iload_n 3, 1) := by decide +kernel
theorem dL_1381 : decode code 1381 = .ok (.iconst 2, 1) := by decide +kernel
theorem dL_1382 : decode code 1382 = .ok (.iadd, 1) := by decide +kernel
theorem dL_1383 : decode code 1383 = .ok (.iaload, 1) := by decide +kernel
theorem dL_1384 : decode code 1384 = .ok (.aload_n 0, 1) := by decide +kernel
theorem dL_1385 : decode code 1385 = .ok (.iload_n 3, 1) := by decide +kernel
theorem dL_1386 : decode code 1386 = .ok (.iconst 3, 1) := by decide +kernel
theorem dL_1387 : decode code 1387 = .ok (.iadd, 1) := by decide +kernel
theorem dL_1388 : decode code 1388 = .ok (.iaload, 1) := by decide +kernel
theorem dL_1389 : decode code 1389 = .ok (.invokevirtual 162, 3) := by decide +kernel
theorem dL_1392 : decode code 1392 = .ok (.if_icmp .eq 238, 3) := by decide +kernel
theorem dL_1395 : decode code 1395 = .ok (.iconst 0, 1) := by decide +kernel
theorem dL_1396 : decode code 1396 = .ok (.ireturn, 1) := by decide +kernel
theorem dL_1397 : decode code 1397 = .ok (.aload_n 1, 1) := by decide +kernel
theorem dL_1398 : decode code 1398 = .ok (.aload_n 0, 1) := by decide +kernel
theorem dL_1399 : decode code 1399 = .ok (.iload_n 3, 1) := by decide +kernel
theorem dL_1400 : decode code 1400 = .ok (.iconst 1, 1) := by decide +kernel
theorem dL_1401 : decode code 1401 = .ok (.iadd, 1) := by decide +kernel
theorem dL_1402 : decode code 1402 = .ok (.iaload, 1) := by decide +kernel
theorem dL_1403 : decode code 1403 = .ok (.invokevirtual 163, 3) := by decide +kernel
theorem dL_1406 : decode code 1406 = .ok (.aload_n 2, 1) := by decide +kernel
theorem dL_1407 : decode code 1407 = .ok (.aload_n 0, 1) := by decide +kernel
theorem dL_1408 : decode code 1408 = .ok (.iload_n 3, 1) := by decide +kernel
theorem dL_1409 : decode code 1409 = .ok (.iconst 1, 1) := by decide +kernel
theorem dL_1410 : decode code 1410 = .ok (.iadd, 1) := by decide +kernel
theorem dL_1411 : decode code 1411 = .ok (.iaload, 1) := by decide +kernel
theorem dL_1412 : decode code 1412 = .ok (.invokevirtual 166, 3) := by decide +kernel
theorem dL_1415 : decode code 1415 = .ok (.if_icmp .eq 215, 3) := by decide +kernel
theorem dL_1418 : decode code 1418 = .ok (.iconst 0, 1) := by decide +kernel
theorem dL_1419 : decode code 1419 = .ok (.ireturn, 1) := by decide +kernel
theorem dL_1420 : decode code 1420 = .ok (.aload_n 1, 1) := by decide +kernel
theorem dL_1421 : decode code 1421 = .ok (.aload_n 0, 1) := by decide +kernel
theorem dL_1422 : decode code 1422 = .ok (.iload_n 3, 1) := by decide +kernel
theorem dL_1423 : decode code 1423 = .ok (.iconst 1, 1) := by decide +kernel
theorem dL_1424 : decode code 1424 = .ok (.iadd, 1) := by decide +kernel
theorem dL_1425 : decode code 1425 = .ok (.iaload, 1) := by decide +kernel
theorem dL_1426 : decode code 1426 = .ok (.invokevirtual 167, 3) := by decide +kernel
theorem dL_1429 : decode code 1429 = .ok (.aload_n 2, 1) := by decide +kernel
theorem dL_1430 : decode code 1430 = .ok (.aload_n 0, 1) := by decide +kernel
theorem dL_1431 : decode code 1431 = .ok (.iload_n 3, 1) := by decide +kernel
theorem dL_1432 : decode code 1432 = .ok (.iconst 1, 1) := by decide +kernel
theorem dL_1433 : decode code 1433 = .ok (.iadd, 1) := by decide +kernel
theorem dL_1434 : decode code 1434 = .ok (.iaload, 1) := by decide +kernel
theorem dL_1435 : decode code 1435 = .ok (.invokevirtual 170, 3) := by decide +kernel
theorem dL_1438 : decode code 1438 = .ok (.if_icmp .eq 192, 3) := by decide +kernel
theorem dL_1441 : decode code 1441 = .ok (.iconst 0, 1) := by decide +kernel
theorem dL_1442 : decode code 1442 = .ok (.ireturn, 1) := by decide +kernel
theorem dL_1443 : decode code 1443 = .ok (.aload_n 1, 1) := by decide +kernel
theorem dL_1444 : decode code 1444 = .ok (.aload_n 0, 1) := by decide +kernel
theorem dL_1445 : decode code 1445 = .ok (.iload_n 3, 1) := by decide +kernel
theorem dL_1446 : decode code 1446 = .ok (.iconst 1, 1) := by decide +kernel
theorem dL_1447 : decode code 1447 = .ok (.iadd, 1) := by decide +kernel
theorem dL_1448 : decode code 1448 = .ok (.iaload, 1) := by decide +kernel
theorem dL_1449 : decode code 1449 = .ok (.invokevirtual 171, 3) := by decide +kernel
theorem dL_1452 : decode code 1452 = .ok (.aload_n 2, 1) := by decide +kernel
theorem dL_1453 : decode code 1453 = .ok (.aload_n 0, 1) := by decide +kernel
theorem dL_1454 : decode code 1454 = .ok (.iload_n 3, 1) := by decide +kernel
theorem dL_1455 : decode code 1455 = .ok (.iconst 1, 1) := by decide +kernel
theorem dL_1456 : decode code 1456 = .ok (.iadd, 1) := by decide +kernel
theorem dL_1457 : decode code 1457 = .ok (.iaload, 1) := by decide +kernel
theorem dL_1458 : decode code 1458 = .ok (.invokevirtual 174, 3) := by decide +kernel
theorem dL_1461 : decode code 1461 = .ok (.if_icmp .eq 169, 3) := by decide +kernel
theorem dL_1464 : decode code 1464 = .ok (.iconst 0, 1) := by decide +kernel
theorem dL_1465 : decode code 1465 = .ok (.ireturn, 1) := by decide +kernel
theorem dL_1466 : decode code 1466 = .ok (.aload_n 1, 1) := by decide +kernel
theorem dL_1467 : decode code 1467 = .ok (.aload_n 0, 1) := by decide +kernel
theorem dL_1468 : decode code 1468 = .ok (.iload_n 3, 1) := by decide +kernel
theorem dL_1469 : decode code 1469 = .ok (.iconst 1, 1) := by decide +kernel
theorem dL_1470 : decode code 1470 = .ok (.iadd, 1) := by decide +kernel
theorem dL_1471 : decode code 1471 = .ok (.iaload, 1) := by decide +kernel
theorem dL_1472 : decode code 1472 = .ok (.invokevirtual 175, 3) := by decide +kernel
theorem dL_1475 : decode code 1475 = .ok (.aload_n 2, 1) := by decide +kernel
theorem dL_1476 : decode code 1476 = .ok (.aload_n 0, 1) := by decide +kernel
theorem dL_1477 : decode code 1477 = .ok (.iload_n 3, 1) := by decide +kernel
theorem dL_1478 : decode code 1478 = .ok (.iconst 1, 1) := by decide +kernel
theorem dL_1479 : decode code 1479 = .ok (.iadd, 1) := by decide +kernel
theorem dL_1480 : decode code 1480 = .ok (.iaload, 1) := by decide +kernel
theorem dL_1481 : decode code 1481 = .ok (.invokevirtual 178, 3) := by decide +kernel
theorem dL_1484 : decode code 1484 = .ok (.if_icmp .eq 146, 3) := by decide +kernel
theorem dL_1487 : decode code 1487 = .ok (.iconst 0, 1) := by decide +kernel
theorem dL_1488 : decode code 1488 = .ok (.ireturn, 1) := by decide +kernel
theorem dL_1489 : decode code 1489 = .ok (.aload_n 1, 1) := by decide +kernel
theorem dL_1490 : decode code 1490 = .ok (.aload_n 0, 1) := by decide +kernel
theorem dL_1491 : decode code 1491 = .ok (.iload_n 3, 1) := by decide +kernel
theorem dL_1492 : decode code 1492 = .ok (.iconst 1, 1) := by decide +kernel
theorem dL_1493 : decode code 1493 = .ok (.iadd, 1) := by decide +kernel
theorem dL_1494 : decode code 1494 = .ok (.iaload, 1) := by decide +kernel
theorem dL_1495 : decode code 1495 = .ok (.invokevirtual 179, 3) := by decide +kernel
theorem dL_1498 : decode code 1498 = .ok (.aload_n 2, 1) := by decide +kernel
theorem dL_1499 : decode code 1499 = .ok (.aload_n 0, 1) := by decide +kernel
theorem dL_1500 : decode code 1500 = .ok (.iload_n 3, 1) := by decide +kernel
theorem dL_1501 : decode code 1501 = .ok (.iconst 1, 1) := by decide +kernel
theorem dL_1502 : decode code 1502 = .ok (.iadd, 1) := by decide +kernel
theorem dL_1503 : decode code 1503 = .ok (.iaload, 1) := by decide +kernel
theorem dL_1504 : decode code 1504 = .ok (.invokevirtual 182, 3) := by decide +kernel
theorem dL_1507 : decode code 1507 = .ok (.if_icmp .eq 123, 3) := by decide +kernel
theorem dL_1510 : decode code 1510 = .ok (.iconst 0, 1) := by decide +kernel
theorem dL_1511 : decode code 1511 = .ok (.ireturn, 1) := by decide +kernel
theorem dL_1512 : decode code 1512 = .ok (.aload_n 1, 1) := by decide +kernel
theorem dL_1513 : decode code 1513 = .ok (.invokevirtual 183, 3) := by decide +kernel
theorem dL_1516 : decode code 1516 = .ok (.aload_n 2, 1) := by decide +kernel
theorem dL_1517 : decode code 1517 = .ok (.invokevirtual 186, 3) := by decide +kernel
theorem dL_1520 : decode code 1520 = .ok (.if_icmp .eq 110, 3) := by decide +kernel
theorem dL_1523 : decode code 1523 = .ok (.iconst 0, 1) := by decide +kernel
theorem dL_1524 : decode code 1524 = .ok (.ireturn, 1) := by decide +kernel
theorem dL_1525 : decode code 1525 = .ok (.aload_n 1, 1) := by decide +kernel
theorem dL_1526 : decode code 1526 = .ok (.invokevirtual 187, 3) := by decide +kernel
theorem dL_1529 : decode code 1529 = .ok (.aload_n 2, 1) := by decide +kernel
theorem dL_1530 : decode code 1530 = .ok (.invokevirtual 190, 3) := by decide +kernel
theorem dL_1533 : decode code 1533 = .ok (.if_icmp .eq 97, 3) := by decide +kernel
theorem dL_1536 : decode code 1536 = .ok (.iconst 0, 1) := by decide +kernel
theorem dL_1537 : decode code 1537 = .ok (.ireturn, 1) := by decide +kernel
theorem dL_1538 : decode code 1538 = .ok (.aload_n 1, 1) := by decide +kernel
theorem dL_1539 : decode code 1539 = .ok (.aload_n 0, 1) := by decide +kernel
theorem dL_1540 : decode code 1540 = .ok (.iload_n 3, 1) := by decide +kernel
theorem dL_1541 : decode code 1541 = .ok (.iconst 1, 1) := by decide +kernel
theorem dL_1542 : decode code 1542 = .ok (.iadd, 1) := by decide +kernel
theorem dL_1543 : decode code 1543 = .ok (.iaload, 1) := by decide +kernel
theorem dL_1544 : decode code 1544 = .ok (.aload_n 0, 1) := by decide +kernel
theorem dL_1545 : decode code 1545 = .ok (.iload_n 3, 1) := by decide +kernel
theorem dL_1546 : decode code 1546 = .ok (.iconst 2, 1) := by decide +kernel
theorem dL_1547 : decode code 1547 = .ok (.iadd, 1) := by decide +kernel
theorem dL_1548 : decode code 1548 = .ok (.iaload, 1) := by decide +kernel
theorem dL_1549 : decode code 1549 = .ok (.aload_n 0, 1) := by decide +kernel
theorem dL_1550 : decode code 1550 = .ok (.iload_n 3, 1) := by decide +kernel
theorem dL_1551 : decode code 1551 = .ok (.iconst 3, 1) := by decide +kernel
theorem dL_1552 : decode code 1552 = .ok (.iadd, 1) := by decide +kernel
theorem dL_1553 : decode code 1553 = .ok (.iaload, 1) := by decide +kernel
theorem dL_1554 : decode code 1554 = .ok (.invokevirtual 191, 3) := by decide +kernel
theorem dL_1557 : decode code 1557 = .ok (.aload_n 2, 1) := by decide +kernel
theorem dL_1558 : decode code 1558 = .ok (.aload_n 0, 1) := by decide +kernel
theorem dL_1559 : decode code 1559 = .ok (.iload_n 3, 1) := by decide +kernel
theorem dL_1560 : decode code 1560 = .ok (.iconst 1, 1) := by decide +kernel
theorem dL_1561 : decode code 1561 = .ok (.iadd, 1) := by decide +kernel
theorem dL_1562 : decode code 1562 = .ok (.iaload, 1) := by decide +kernel
theorem dL_1563 : decode code 1563 = .ok (.aload_n 0, 1) := by decide +kernel
theorem dL_1564 : decode code 1564 = .ok (.iload_n 3, 1) := by decide +kernel
theorem dL_1565 : decode code 1565 = .ok (.iconst 2, 1) := by decide +kernel
theorem dL_1566 : decode code 1566 = .ok (.iadd, 1) := by decide +kernel
theorem dL_1567 : decode code 1567 = .ok (.iaload, 1) := by decide +kernel
theorem dL_1568 : decode code 1568 = .ok (.aload_n 0, 1) := by decide +kernel
theorem dL_1569 : decode code 1569 = .ok (.iload_n 3, 1) := by decide +kernel
theorem dL_1570 : decode code 1570 = .ok (.iconst 3, 1) := by decide +kernel
theorem dL_1571 : decode code 1571 = .ok (.iadd, 1) := by decide +kernel
theorem dL_1572 : decode code 1572 = .ok (.iaload, 1) := by decide +kernel
theorem dL_1573 : decode code 1573 = .ok (.invokevirtual 194, 3) := by decide +kernel
theorem dL_1576 : decode code 1576 = .ok (.if_icmp .eq 54, 3) := by decide +kernel
theorem dL_1579 : decode code 1579 = .ok (.iconst 0, 1) := by decide +kernel
theorem dL_1580 : decode code 1580 = .ok (.ireturn, 1) := by decide +kernel
theorem dL_1581 : decode code 1581 = .ok (.aload_n 1, 1) := by decide +kernel
theorem dL_1582 : decode code 1582 = .ok (.invokevirtual 195, 3) := by decide +kernel
theorem dL_1585 : decode code 1585 = .ok (.aload_n 2, 1) := by decide +kernel
theorem dL_1586 : decode code 1586 = .ok (.invokevirtual 198, 3) := by decide +kernel
theorem dL_1589 : decode code 1589 = .ok (.if_icmp .eq 41, 3) := by decide +kernel
theorem dL_1592 : decode code 1592 = .ok (.iconst 0, 1) := by decide +kernel
theorem dL_1593 : decode code 1593 = .ok (.ireturn, 1) := by decide +kernel
theorem dL_1594 : decode code 1594 = .ok (.aload_n 1, 1) := by decide +kernel
theorem dL_1595 : decode code 1595 = .ok (.invokevirtual 199, 3) := by decide +kernel
theorem dL_1598 : decode code 1598 = .ok (.aload_n 2, 1) := by decide +kernel
theorem dL_1599 : decode code 1599 = .ok (.invokevirtual 202, 3) := by decide +kernel
theorem dL_1602 : decode code 1602 = .ok (.if_icmp .eq 28, 3) := by decide +kernel
theorem dL_1605 : decode code 1605 = .ok (.iconst 0, 1) := by decide +kernel
theorem dL_1606 : decode code 1606 = .ok (.ireturn, 1) := by decide +kernel
theorem dL_1607 : decode code 1607 = .ok (.aload_n 1, 1) := by decide +kernel
theorem dL_1608 : decode code 1608 = .ok (.aload_n 0, 1) := by decide +kernel
theorem dL_1609 : decode code 1609 = .ok (.iload_n 3, 1) := by decide +kernel
theorem dL_1610 : decode code 1610 = .ok (.iconst 1, 1) := by decide +kernel
theorem dL_1611 : decode code 1611 = .ok (.iadd, 1) := by decide +kernel
theorem dL_1612 : decode code 1612 = .ok (.iaload, 1) := by decide +kernel
theorem dL_1613 : decode code 1613 = .ok (.invokevirtual 203, 3) := by decide +kernel
theorem dL_1616 : decode code 1616 = .ok (.aload_n 2, 1) := by decide +kernel
theorem dL_1617 : decode code 1617 = .ok (.aload_n 0, 1) := by decide +kernel
theorem dL_1618 : decode code 1618 = .ok (.iload_n 3, 1) := by decide +kernel
theorem dL_1619 : decode code 1619 = .ok (.iconst 1, 1) := by decide +kernel
theorem dL_1620 : decode code 1620 = .ok (.iadd, 1) := by decide +kernel
theorem dL_1621 : decode code 1621 = .ok (.iaload, 1) := by decide +kernel
theorem dL_1622 : decode code 1622 = .ok (.invokevirtual 206, 3) := by decide +kernel
theorem dL_1625 : decode code 1625 = .ok (.if_icmp .eq 5, 3) := by decide +kernel
theorem dL_1628 : decode code 1628 = .ok (.iconst 0, 1) := by decide +kernel
theorem dL_1629 : decode code 1629 = .ok (.ireturn, 1) := by decide +kernel
theorem dL_1630 : decode code 1630 = .ok (.iinc 3 7, 3) := by decide +kernel
theorem dL_1633 : decode code 1633 = .ok (.goto (-1615), 3) := by decide +kernel
theorem dL_1636 : decode code 1636 = .ok (.iconst 1, 1) := by decide +kernel
theorem dL_1637 : decode code 1637 = .ok (.ireturn, 1) := by decide +kernel
