theorem dL_law__1231 : decode cL_law_ 1231 = .ok (.iload 4, 2) := by decide +kernel
theorem dL_law__1233 : decode cL_law_ 1233 = .ok (.iconst 1, 1) := by decide +kernel
theorem dL_law__1234 : decode cL_law_ 1234 = .ok (.iadd, 1) := by decide +kernel
theorem dL_law__1235 : decode cL_law_ 1235 = .ok (.iaload, 1) := by decide +kernel
theorem dL_law__1236 : decode cL_law_ 1236 = .ok (.aload_n 0, 1) := by decide +kernel
theorem dL_law__1237 : decode cL_law_ 1237 = .ok (.iload 4, 2) := by decide +kernel
theorem dL_law__1239 : decode cL_law_ 1239 = .ok (.iconst 2, 1) := by decide +kernel
theorem dL_law__1240 : decode cL_law_ 1240 = .ok (.iadd, 1) := by decide +kernel
theorem dL_law__1241 : decode cL_law_ 1241 = .ok (.iaload, 1) := by decide +kernel
theorem dL_law__1242 : decode cL_law_ 1242 = .ok (.invokevirtual 186, 3) := by decide +kernel
theorem dL_law__1245 : decode cL_law_ 1245 = .ok (.istore 6, 2) := by decide +kernel
theorem dL_law__1247 : decode cL_law_ 1247 = .ok (.aload_n 2, 1) := by decide +kernel
theorem dL_law__1248 : decode cL_law_ 1248 = .ok (.invokevirtual 133, 3) := by decide +kernel
theorem dL_law__1251 : decode cL_law_ 1251 = .ok (.iload 5, 2) := by decide +kernel
theorem dL_law__1253 : decode cL_law_ 1253 = .ok (.if_icmp .eq 5, 3) := by decide +kernel
theorem dL_law__1256 : decode cL_law_ 1256 = .ok (.iconst 0, 1) := by decide +kernel
theorem dL_law__1257 : decode cL_law_ 1257 = .ok (.ireturn, 1) := by decide +kernel
theorem dL_law__1258 : decode cL_law_ 1258 = .ok (.iload 5, 2) := by decide +kernel
theorem dL_law__1260 : decode cL_law_ 1260 = .ok (.ifCond .ne 15, 3) := by decide +kernel
theorem dL_law__1263 : decode cL_law_ 1263 = .ok (.aload_n 3, 1) := by decide +kernel
theorem dL_law__1264 : decode cL_law_ 1264 = .ok (.iconst 0, 1) := by decide +kernel
theorem dL_law__1265 : decode cL_law_ 1265 = .ok (.laload, 1) := by decide +kernel
theorem dL_law__1266 : decode cL_law_ 1266 = .ok (.iload 6, 2) := by decide +kernel
theorem dL_law__1268 : decode cL_law_ 1268 = .ok (.i2l, 1) := by decide +kernel
theorem dL_law__1269 : decode cL_law_ 1269 = .ok (.lcmp, 1) := by decide +kernel
theorem dL_law__1270 : decode cL_law_ 1270 = .ok (.ifCond .eq 5, 3) := by decide +kernel
theorem dL_law__1273 : decode cL_law_ 1273 = .ok (.iconst 0, 1) := by decide +kernel
theorem dL_law__1274 : decode cL_law_ 1274 = .ok (.ireturn, 1) := by decide +kernel
theorem dL_law__1275 : decode cL_law_ 1275 = .ok (.goto 1458, 3) := by decide +kernel
theorem dL_law__1278 : decode cL_law_ 1278 = .ok (.aload_n 1, 1) := by decide +kernel
theorem dL_law__1279 : decode cL_law_ 1279 = .ok (.aload_n 0, 1) := by decide +kernel
theorem dL_law__1280 : decode cL_law_ 1280 = .ok (.iload 4, 2) := by decide +kernel
theorem dL_law__1282 : decode cL_law_ 1282 = .ok (.iconst 1, 1) := by decide +kernel
theorem dL_law__1283 : decode cL_law_ 1283 = .ok (.iadd, 1) := by decide +kernel
theorem dL_law__1284 : decode cL_law_ 1284 = .ok (.iaload, 1) := by decide +kernel
theorem dL_law__1285 : decode cL_law_ 1285 = .ok (.aload_n 3, 1) := by decide +kernel
theorem dL_law__1286 : decode cL_law_ 1286 = .ok (.invokestatic 187, 3) := by decide +kernel
theorem dL_law__1289 : decode cL_law_ 1289 = .ok (.istore 5, 2) := by decide +kernel
theorem dL_law__1291 : decode cL_law_ 1291 = .ok (.aload_n 2, 1) := by decide +kernel
theorem dL_law__1292 : decode cL_law_ 1292 = .ok (.aload_n 0, 1) := by decide +kernel
theorem dL_law__1293 : decode cL_law_ 1293 = .ok (.iload 4, 2) := by decide +kernel
theorem dL_law__1295 : decode cL_law_ 1295 = .ok (.iconst 1, 1) := by decide +kernel
theorem dL_law__1296 : decode cL_law_ 1296 = .ok (.iadd, 1) := by decide +kernel
theorem dL_law__1297 : decode cL_law_ 1297 = .ok (.iaload, 1) := by decide +kernel
theorem dL_law__1298 : decode cL_law_ 1298 = .ok (.invokevirtual 189, 3) := by decide +kernel
theorem dL_law__1301 : decode cL_law_ 1301 = .ok (.istore 6, 2) := by decide +kernel
theorem dL_law__1303 : decode cL_law_ 1303 = .ok (.aload_n 2, 1) := by decide +kernel
theorem dL_law__1304 : decode cL_law_ 1304 = .ok (.invokevirtual 133, 3) := by decide +kernel
theorem dL_law__1307 : decode cL_law_ 1307 = .ok (.iload 5, 2) := by decide +kernel
theorem dL_law__1309 : decode cL_law_ 1309 = .ok (.if_icmp .eq 5, 3) := by decide +kernel
theorem dL_law__1312 : decode cL_law_ 1312 = .ok (.iconst 0, 1) := by decide +kernel
theorem dL_law__1313 : decode cL_law_ 1313 = .ok (.ireturn, 1) := by decide +kernel
theorem dL_law__1314 : decode cL_law_ 1314 = .ok (.iload 5, 2) := by decide +kernel
theorem dL_law__1316 : decode cL_law_ 1316 = .ok (.ifCond .ne 15, 3) := by decide +kernel
theorem dL_law__1319 : decode cL_law_ 1319 = .ok (.aload_n 3, 1) := by decide +kernel
theorem dL_law__1320 : decode cL_law_ 1320 = .ok (.iconst 0, 1) := by decide +kernel
theorem dL_law__1321 : decode cL_law_ 1321 = .ok (.laload, 1) := by decide +kernel
theorem dL_law__1322 : decode cL_law_ 1322 = .ok (.iload 6, 2) := by decide +kernel
theorem dL_law__1324 : decode cL_law_ 1324 = .ok (.i2l, 1) := by decide +kernel
theorem dL_law__1325 : decode cL_law_ 1325 = .ok (.lcmp, 1) := by decide +kernel
theorem dL_law__1326 : decode cL_law_ 1326 = .ok (.ifCond .eq 5, 3) := by decide +kernel
theorem dL_law__1329 : decode cL_law_ 1329 = .ok (.iconst 0, 1) := by decide +kernel
theorem dL_law__1330 : decode cL_law_ 1330 = .ok (.ireturn, 1) := by decide +kernel
theorem dL_law__1331 : decode cL_law_ 1331 = .ok (.goto 1402, 3) := by decide +kernel
theorem dL_law__1334 : decode cL_law_ 1334 = .ok (.aload_n 1, 1) := by decide +kernel
theorem dL_law__1335 : decode cL_law_ 1335 = .ok (.invokevirtual 190, 3) := by decide +kernel
theorem dL_law__1338 : decode cL_law_ 1338 = .ok (.aload_n 2, 1) := by decide +kernel
theorem dL_law__1339 : decode cL_law_ 1339 = .ok (.invokevirtual 193, 3) := by decide +kernel
theorem dL_law__1342 : decode cL_law_ 1342 = .ok (.if_icmp .eq 1391, 3) := by decide +kernel
theorem dL_law__1345 : decode cL_law_ 1345 = .ok (.iconst 0, 1) := by decide +kernel
theorem dL_law__1346 : decode cL_law_ 1346 = .ok (.ireturn, 1) := by decide +kernel
theorem dL_law__1347 : decode cL_law_ 1347 = .ok (.aload_n 1, 1) := by decide +kernel
theorem dL_law__1348 : decode cL_law_ 1348 = .ok (.aload_n 0, 1) := by decide +kernel
theorem dL_law__1349 : decode cL_law_ 1349 = .ok (.iload 4, 2) := by decide +kernel
theorem dL_law__1351 : decode cL_law_ 1351 = .ok (.iconst 1, 1) := by decide +kernel
theorem dL_law__1352 : decode cL_law_ 1352 = .ok (.iadd, 1) := by decide +kernel
theorem dL_law__1353 : decode cL_law_ 1353 = .ok (.iaload, 1) := by decide +kernel
theorem dL_law__1354 : decode cL_law_ 1354 = .ok (.aload_n 0, 1) := by decide +kernel
theorem dL_law__1355 : decode cL_law_ 1355 = .ok (.iload 4, 2) := by decide +kernel
theorem dL_law__1357 : decode cL_law_ 1357 = .ok (.iconst 2, 1) := by decide +kernel
theorem dL_law__1358 : decode cL_law_ 1358 = .ok (.iadd, 1) := by decide +kernel
theorem dL_law__1359 : decode cL_law_ 1359 = .ok (.iaload, 1) := by decide +kernel
theorem dL_law__1360 : decode cL_law_ 1360 = .ok (.aload_n 0, 1) := by decide +kernel
theorem dL_law__1361 : decode cL_law_ 1361 = .ok (.iload 4, 2) := by decide +kernel
theorem dL_law__1363 : decode cL_law_ 1363 = .ok (.iconst 3, 1) := by decide +kernel
theorem dL_law__1364 : decode cL_law_ 1364 = .ok (.iadd, 1) := by decide +kernel
theorem dL_law__1365 : decode cL_law_ 1365 = .ok (.iaload, 1) := by decide +kernel
theorem dL_law__1366 : decode cL_law_ 1366 = .ok (.aload_n 3, 1) := by decide +kernel
theorem dL_law__1367 : decode cL_law_ 1367 = .ok (.invokestatic 194, 3) := by decide +kernel
theorem dL_law__1370 : decode cL_law_ 1370 = .ok (.istore 5, 2) := by decide +kernel
theorem dL_law__1372 : decode cL_law_ 1372 = .ok (.aload_n 2, 1) := by decide +kernel
theorem dL_law__1373 : decode cL_law_ 1373 = .ok (.aload_n 0, 1) := by decide +kernel
theorem dL_law__1374 : decode cL_law_ 1374 = .ok (.iload 4, 2) := by decide +kernel
theorem dL_law__1376 : decode cL_law_ 1376 = .ok (.iconst 1, 1) := by decide +kernel
theorem dL_law__1377 : decode cL_law_ 1377 = .ok (.iadd, 1) := by decide +kernel
theorem dL_law__1378 : decode cL_law_ 1378 = .ok (.iaload, 1) := by decide +kernel
theorem dL_law__1379 : decode cL_law_ 1379 = .ok (.aload_n 0, 1) := by decide +kernel
theorem dL_law__1380 : decode cL_law_ 1380 = .ok (.iload 4, 2) := by decide +kernel
theorem dL_law__1382 : decode cL_law_ 1382 = .ok (.iconst 2, 1) := by decide +kernel
theorem dL_law__1383 : decode cL_law_ 1383 = .ok (.iadd, 1) := by decide +kernel
theorem dL_law__1384 : decode cL_law_ 1384 = .ok (.iaload, 1) := by decide +kernel
theorem dL_law__1385 : decode cL_law_ 1385 = .ok (.aload_n 0, 1) := by decide +kernel
theorem dL_law__1386 : decode cL_law_ 1386 = .ok (.iload 4, 2) := by decide +kernel
theorem dL_law__1388 : decode cL_law_ 1388 = .ok (.iconst 3, 1) := by decide +kernel
theorem dL_law__1389 : decode cL_law_ 1389 = .ok (.iadd, 1) := by decide +kernel
theorem dL_law__1390 : decode cL_law_ 1390 = .ok (.iaload, 1) := by decide +kernel
theorem dL_law__1391 : decode cL_law_ 1391 = .ok (.invokevirtual 196, 3) := by decide +kernel
theorem dL_law__1394 : decode cL_law_ 1394 = .ok (.istore 6, 2) := by decide +kernel
theorem dL_law__1396 : decode cL_law_ 1396 = .ok (.aload_n 2, 1) := by decide +kernel
theorem dL_law__1397 : decode cL_law_ 1397 = .ok (.invokevirtual 133, 3) := by decide +kernel
theorem dL_law__1400 : decode cL_law_ 1400 = .ok (.iload 5, 2) := by decide +kernel
theorem dL_law__1402 : decode cL_law_ 1402 = .ok (.if_icmp .eq 5, 3) := by decide +kernel
theorem dL_law__1405 : decode cL_law_ 1405 = .ok (.iconst 0, 1) := by decide +kernel
theorem dL_law__1406 : decode cL_law_ 1406 = .ok (.ireturn, 1) := by decide +kernel
theorem dL_law__1407 : decode cL_law_ 1407 = .ok (.iload 5, 2) := by decide +kernel
theorem dL_law__1409 : decode cL_law_ 1409 = .ok (.ifCond .ne 15, 3) := by decide +kernel
theorem dL_law__1412 : decode cL_law_ 1412 = .ok (.aload_n 3, 1) := by decide +kernel
theorem dL_law__1413 : decode cL_law_ 1413 = .ok (.iconst 0, 1) := by decide +kernel
theorem dL_law__1414 : decode cL_law_ 1414 = .ok (.laload, 1) := by decide +kernel
theorem dL_law__1415 : decode cL_law_ 1415 = .ok (.iload 6, 2) := by decide +kernel
theorem dL_law__1417 : decode cL_law_ 1417 = .ok (.i2l, 1) := by decide +kernel
theorem dL_law__1418 : decode cL_law_ 1418 = .ok (.lcmp, 1) := by decide +kernel
theorem dL_law__1419 : decode cL_law_ 1419 = .ok (.ifCond .eq 5, 3) := by decide +kernel
theorem dL_law__1422 : decode cL_law_ 1422 = .ok (.iconst 0, 1) := by decide +kernel
theorem dL_law__1423 : decode cL_law_ 1423 = .ok (.ireturn, 1) := by decide +kernel
theorem dL_law__1424 : decode cL_law_ 1424 = .ok (.goto 1309, 3) := by decide +kernel
theorem dL_law__1427 : decode cL_law_ 1427 = .ok (.aload_n 1, 1) := by decide +kernel
theorem dL_law__1428 : decode cL_law_ 1428 = .ok (.aload_n 0, 1) := by decide +kernel
theorem dL_law__1429 : decode cL_law_ 1429 = .ok (.iload 4, 2) := by decide +kernel
theorem dL_law__1431 : decode cL_law_ 1431 = .ok (.iconst 1, 1) := by decide +kernel
theorem dL_law__1432 : decode cL_law_ 1432 = .ok (.iadd, 1) := by decide +kernel
theorem dL_law__1433 : decode cL_law_ 1433 = .ok (.iaload, 1) := by decide +kernel
theorem dL_law__1434 : decode cL_law_ 1434 = .ok (.aload_n 0, 1) := by decide +kernel
theorem dL_law__1435 : decode cL_law_ 1435 = .ok (.iload 4, 2) := by decide +kernel
theorem dL_law__1437 : decode cL_law_ 1437 = .ok (.iconst 2, 1) := by decide +kernel
theorem dL_law__1438 : decode cL_law_ 1438 = .ok (.iadd, 1) := by decide +kernel
theorem dL_law__1439 : decode cL_law_ 1439 = .ok (.iaload, 1) := by decide +kernel
theorem dL_law__1440 : decode cL_law_ 1440 = .ok (.aload_n 0, 1) := by decide +kernel
theorem dL_law__1441 : decode cL_law_ 1441 = .ok (.iload 4, 2) := by decide +kernel
theorem dL_law__1443 : decode cL_law_ 1443 = .ok (.iconst 3, 1) := by decide +kernel
theorem dL_law__1444 : decode cL_law_ 1444 = .ok (.iadd, 1) := by decide +kernel
theorem dL_law__1445 : decode cL_law_ 1445 = .ok (.iaload, 1) := by decide +kernel
theorem dL_law__1446 : decode cL_law_ 1446 = .ok (.aload_n 3, 1) := by decide +kernel
theorem dL_law__1447 : decode cL_law_ 1447 = .ok (.invokestatic 197, 3) := by decide +kernel
theorem dL_law__1450 : decode cL_law_ 1450 = .ok (.istore 5, 2) := by decide +kernel
theorem dL_law__1452 : decode cL_law_ 1452 = .ok (.aload_n 2, 1) := by decide +kernel
theorem dL_law__1453 : decode cL_law_ 1453 = .ok (.aload_n 0, 1) := by decide +kernel
theorem dL_law__1454 : decode cL_law_ 1454 = .ok (.iload 4, 2) := by decide +kernel
theorem dL_law__1456 : decode cL_law_ 1456 = .ok (.iconst 1, 1) := by decide +kernel
theorem dL_law__1457 : decode cL_law_ 1457 = .ok (.iadd, 1) := by decide +kernel
theorem dL_law__1458 : decode cL_law_ 1458 = .ok (.iaload, 1) := by decide +kernel
theorem dL_law__1459 : decode cL_law_ 1459 = .ok (.aload_n 0, 1) := by decide +kernel
theorem dL_law__1460 : decode cL_law_ 1460 = .ok (.iload 4, 2) := by decide +kernel
theorem dL_law__1462 : decode cL_law_ 1462 = .ok (.iconst 2, 1) := by decide +kernel
theorem dL_law__1463 : decode cL_law_ 1463 = .ok (.iadd, 1) := by decide +kernel
theorem dL_law__1464 : decode cL_law_ 1464 = .ok (.iaload, 1) := by decide +kernel
theorem dL_law__1465 : decode cL_law_ 1465 = .ok (.aload_n 0, 1) := by decide +kernel
theorem dL_law__1466 : decode cL_law_ 1466 = .ok (.iload 4, 2) := by decide +kernel
theorem dL_law__1468 : decode cL_law_ 1468 = .ok (.iconst 3, 1) := by decide +kernel
theorem dL_law__1469 : decode cL_law_ 1469 = .ok (.iadd, 1) := by decide +kernel
theorem dL_law__1470 : decode cL_law_ 1470 = .ok (.iaload, 1) := by decide +kernel
theorem dL_law__1471 : decode cL_law_ 1471 = .ok (.invokevirtual 199, 3) := by decide +kernel
theorem dL_law__1474 : decode cL_law_ 1474 = .ok (.istore 6, 2) := by decide +kernel
theorem dL_law__1476 : decode cL_law_ 1476 = .ok (.aload_n 2, 1) := by decide +kernel
theorem dL_law__1477 : decode cL_law_ 1477 = .ok (.invokevirtual 133, 3) := by decide +kernel
theorem dL_law__1480 : decode cL_law_ 1480 = .ok (.iload 5, 2) := by decide +kernel
theorem dL_law__1482 : decode cL_law_ 1482 = .ok (.if_icmp .eq 5, 3) := by decide +kernel
theorem dL_law__1485 : decode cL_law_ 1485 = .ok (.iconst 0, 1) := by decide +kernel
theorem dL_law__1486 : decode cL_law_ 1486 = .ok (.ireturn, 1) := by decide +kernel
theorem dL_law__1487 : decode cL_law_ 1487 = .ok (.iload 5, 2) := by decide +kernel
theorem dL_law__1489 : decode cL_law_ 1489 = .ok (.ifCond .ne 15, 3) := by decide +kernel
theorem dL_law__1492 : decode cL_law_ 1492 = .ok (.aload_n 3, 1) := by decide +kernel
theorem dL_law__1493 : decode cL_law_ 1493 = .ok (.iconst 0, 1) := by decide +kernel
theorem dL_law__1494 : decode cL_law_ 1494 = .ok (.laload, 1) := by decide +kernel
theorem dL_law__1495 : decode cL_law_ 1495 = .ok (.iload 6, 2) := by decide +kernel
theorem dL_law__1497 : decode cL_law_ 1497 = .ok (.i2l, 1) := by decide +kernel
theorem dL_law__1498 : decode cL_law_ 1498 = .ok (.lcmp, 1) := by decide +kernel
theorem dL_law__1499 : decode cL_law_ 1499 = .ok (.ifCond .eq 5, 3) := by decide +kernel
theorem dL_law__1502 : decode cL_law_ 1502 = .ok (.iconst 0, 1) := by decide +kernel
theorem dL_law__1503 : decode cL_law_ 1503 = .ok (.ireturn, 1) := by decide +kernel
theorem dL_law__1504 : decode cL_law_ 1504 = .ok (.goto 1229, 3) := by decide +kernel
theorem dL_law__1507 : decode cL_law_ 1507 = .ok (.aload_n 1, 1) := by decide +kernel
theorem dL_law__1508 : decode cL_law_ 1508 = .ok (.aload_n 0, 1) := by decide +kernel
theorem dL_law__1509 : decode cL_law_ 1509 = .ok (.iload 4, 2) := by decide +kernel
theorem dL_law__1511 : decode cL_law_ 1511 = .ok (.iconst 1, 1) := by decide +kernel
theorem dL_law__1512 : decode cL_law_ 1512 = .ok (.iadd, 1) := by decide +kernel
theorem dL_law__1513 : decode cL_law_ 1513 = .ok (.iaload, 1) := by decide +kernel
theorem dL_law__1514 : decode cL_law_ 1514 = .ok (.aload_n 3, 1) := by decide +kernel
theorem dL_law__1515 : decode cL_law_ 1515 = .ok (.invokestatic 200, 3) := by decide +kernel
theorem dL_law__1518 : decode cL_law_ 1518 = .ok (.istore 5, 2) := by decide +kernel
theorem dL_law__1520 : decode cL_law_ 1520 = .ok (.aload_n 2, 1) := by decide +kernel
theorem dL_law__1521 : decode cL_law_ 1521 = .ok (.aload_n 0, 1) := by decide +kernel
theorem dL_law__1522 : decode cL_law_ 1522 = .ok (.iload 4, 2) := by decide +kernel
theorem dL_law__1524 : decode cL_law_ 1524 = .ok (.iconst 1, 1) := by decide +kernel
theorem dL_law__1525 : decode cL_law_ 1525 = .ok (.iadd, 1) := by decide +kernel
theorem dL_law__1526 : decode cL_law_ 1526 = .ok (.iaload, 1) := by decide +kernel
theorem dL_law__1527 : decode cL_law_ 1527 = .ok (.invokevirtual 202, 3) := by decide +kernel
theorem dL_law__1530 : decode cL_law_ 1530 = .ok (.istore 6, 2) := by decide +kernel
theorem dL_law__1532 : decode cL_law_ 1532 = .ok (.aload_n 2, 1) := by decide +kernel
theorem dL_law__1533 : decode cL_law_ 1533 = .ok (.invokevirtual 133, 3) := by decide +kernel
theorem dL_law__1536 : decode cL_law_ 1536 = .ok (.iload 5, 2) := by decide +kernel
theorem dL_law__1538 : decode cL_law_ 1538 = .ok (.if_icmp .eq 5, 3) := by decide +kernel
theorem dL_law__1541 : decode cL_law_ 1541 = .ok (.iconst 0, 1) := by decide +kernel
theorem dL_law__1542 : decode cL_law_ 1542 = .ok (.ireturn, 1) := by decide +kernel
theorem dL_law__1543 : decode cL_law_ 1543 = .ok (.iload 5, 2) := by decide +kernel
theorem dL_law__1545 : decode cL_law_ 1545 = .ok (.ifCond .ne 15, 3) := by decide +kernel
theorem dL_law__1548 : decode cL_law_ 1548 = .ok (.aload_n 3, 1) := by decide +kernel
theorem dL_law__1549 : decode cL_law_ 1549 = .ok (.iconst 0, 1) := by decide +kernel
theorem dL_law__1550 : decode cL_law_ 1550 = .ok (.laload, 1) := by decide +kernel
theorem dL_law__1551 : decode cL_law_ 1551 = .ok (.iload 6, 2) := by decide +kernel
theorem dL_law__1553 : decode cL_law_ 1553 = .ok (.i2l, 1) := by decide +kernel
theorem dL_law__1554 : decode cL_law_ 1554 = .ok (.lcmp, 1) := by decide +kernel
theorem dL_law__1555 : decode cL_law_ 1555 = .ok (.ifCond .eq 5, 3) := by decide +kernel
theorem dL_law__1558 : decode cL_law_ 1558 = .ok (.iconst 0, 1) := by decide +kernel
theorem dL_law__1559 : decode cL_law_ 1559 = .ok (.ireturn, 1) := by decide +kernel
theorem dL_law__1560 : decode cL_law_ 1560 = .ok (.goto 1173, 3) := by decide +kernel
theorem dL_law__1563 : decode cL_law_ 1563 = .ok (.aload_n 1, 1) := by decide +kernel
theorem dL_law__1564 : decode cL_law_ 1564 = .ok (.aload_n 0, 1) := by decide +kernel
theorem dL_law__1565 : decode cL_law_ 1565 = .ok (.iload 4, 2) := by decide +kernel
theorem dL_law__1567 : decode cL_law_ 1567 = .ok (.iconst 1, 1) := by decide +kernel
theorem dL_law__1568 : decode cL_law_ 1568 = .ok (.iadd, 1) := by decide +kernel
theorem dL_law__1569 : decode cL_law_ 1569 = .ok (.iaload, 1) := by decide +kernel
theorem dL_law__1570 : decode cL_law_ 1570 = .ok (.aload_n 3, 1) := by decide +kernel
theorem dL_law__1571 : decode cL_law_ 1571 = .ok (.invokestatic 203, 3) := by decide +kernel
theorem dL_law__1574 : decode cL_law_ 1574 = .ok (.istore 5, 2) := by decide +kernel
theorem dL_law__1576 : decode cL_law_ 1576 = .ok (.aload_n 2, 1) := by decide +kernel
theorem dL_law__1577 : decode cL_law_ 1577 = .ok (.aload_n 0, 1) := by decide +kernel
theorem dL_law__1578 : decode cL_law_ 1578 = .ok (.iload 4, 2) := by decide +kernel
theorem dL_law__1580 : decode cL_law_ 1580 = .ok (.iconst 1, 1) := by decide +kernel
theorem dL_law__1581 : decode cL_law_ 1581 = .ok (.iadd, 1) := by decide +kernel
theorem dL_law__1582 : decode cL_law_ 1582 = .ok (.iaload, 1) := by decide +kernel
theorem dL_law__1583 : decode cL_law_ 1583 = .ok (.invokevirtual 205, 3) := by decide +kernel
theorem dL_law__1586 : decode cL_law_ 1586 = .ok (.istore 6, 2) := by decide +kernel
theorem dL_law__1588 : decode cL_law_ 1588 = .ok (.aload_n 2, 1) := by decide +kernel
theorem dL_law__1589 : decode cL_law_ 1589 = .ok (.invokevirtual 133, 3) := by decide +kernel
theorem dL_law__1592 : decode cL_law_ 1592 = .ok (.iload 5, 2) := by decide +kernel
theorem dL_law__1594 : decode cL_law_ 1594 = .ok (.if_icmp .eq 5, 3) := by decide +kernel
theorem dL_law__1597 : decode cL_law_ 1597 = .ok (.iconst 0, 1) := by decide +kernel
theorem dL_law__1598 : decode cL_law_ 1598 = .ok (.ireturn, 1) := by decide +kernel
theorem dL_law__1599 : decode cL_law_ 1599 = .ok (.iload 5, 2) := by decide +kernel
theorem dL_law__1601 : decode cL_law_ 1601 = .ok (.ifCond .ne 15, 3) := by decide +kernel
theorem dL_law__1604 : decode cL_law_ 1604 = .ok (.aload_n 3, 1) := by decide +kernel
theorem dL_law__1605 : decode cL_law_ 1605 = .ok (.iconst 0, 1) := by decide +kernel
theorem dL_law__1606 : decode cL_law_ 1606 = .ok (.laload, 1) := by decide +kernel
theorem dL_law__1607 : decode cL_law_ 1607 = .ok (.iload 6, 2) := by decide +kernel
theorem dL_law__1609 : decode cL_law_ 1609 = .ok (.i2l, 1) := by decide +kernel
theorem dL_law__1610 : decode cL_law_ 1610 = .ok (.lcmp, 1) := by decide +kernel
theorem dL_law__1611 : decode cL_law_ 1611 = .ok (.ifCond .eq 5, 3) := by decide +kernel
theorem dL_law__1614 : decode cL_law_ 1614 = .ok (.iconst 0, 1) := by decide +kernel
theorem dL_law__1615 : decode cL_law_ 1615 = .ok (.ireturn, 1) := by decide +kernel
theorem dL_law__1616 : decode cL_law_ 1616 = .ok (.goto 1117, 3) := by decide +kernel
theorem dL_law__1619 : decode cL_law_ 1619 = .ok (.aload_n 1, 1) := by decide +kernel
theorem dL_law__1620 : decode cL_law_ 1620 = .ok (.aload_n 0, 1) := by decide +kernel
theorem dL_law__1621 : decode cL_law_ 1621 = .ok (.iload 4, 2) := by decide +kernel
theorem dL_law__1623 : decode cL_law_ 1623 = .ok (.iconst 1, 1) := by decide +kernel
theorem dL_law__1624 : decode cL_law_ 1624 = .ok (.iadd, 1) := by decide +kernel
theorem dL_law__1625 : decode cL_law_ 1625 = .ok (.iaload, 1) := by decide +kernel
theorem dL_law__1626 : decode cL_law_ 1626 = .ok (.aload_n 0, 1) := by decide +kernel
theorem dL_law__1627 : decode cL_law_ 1627 = .ok (.iload 4, 2) := by decide +kernel
theorem dL_law__1629 : decode cL_law_ 1629 = .ok (.iconst 2, 1) := by decide +kernel
theorem dL_law__1630 : decode cL_law_ 1630 = .ok (.iadd, 1) := by decide +kernel
theorem dL_law__1631 : decode cL_law_ 1631 = .ok (.iaload, 1) := by decide +kernel
theorem dL_law__1632 : decode cL_law_ 1632 = .ok (.aload_n 3, 1) := by decide +kernel
theorem dL_law__1633 : decode cL_law_ 1633 = .ok (.invokestatic 206, 3) := by decide +kernel
theorem dL_law__1636 : decode cL_law_ 1636 = .ok (.istore 5, 2) := by decide +kernel
theorem dL_law__1638 : decode cL_law_ 1638 = .ok (.aload_n 2, 1) := by decide +kernel
theorem dL_law__1639 : decode cL_law_ 1639 = .ok (.aload_n 0, 1) := by decide +kernel
theorem dL_law__1640 : decode cL_law_ 1640 = .ok (.iload 4, 2) := by decide +kernel
theorem dL_law__1642 : decode cL_law_ 1642 = .ok (.iconst 1, 1) := by decide +kernel
theorem dL_law__1643 : decode cL_law_ 1643 = .ok (.iadd, 1) := by decide +kernel
theorem dL_law__1644 : decode cL_law_ 1644 = .ok (.iaload, 1) := by decide +kernel
theorem dL_law__1645 : decode cL_law_ 1645 = .ok (.aload_n 0, 1) := by decide +kernel
theorem dL_law__1646 : decode cL_law_ 1646 = .ok (.iload 4, 2) := by decide +kernel
theorem dL_law__1648 : decode cL_law_ 1648 = .ok (.iconst 2, 1) := by decide +kernel
theorem dL_law__1649 : decode cL_law_ 1649 = .ok (.iadd, 1) := by decide +kernel
theorem dL_law__1650 : decode cL_law_ 1650 = .ok (.iaload, 1) := by decide +kernel
theorem dL_law__1651 : decode cL_law_ 1651 = .ok (.invokevirtual 208, 3) := by decide +kernel
theorem dL_law__1654 : decode cL_law_ 1654 = .ok (.istore 6, 2) := by decide +kernel
theorem dL_law__1656 : decode cL_law_ 1656 = .ok (.aload_n 2, 1) := by decide +kernel
theorem dL_law__1657 : decode cL_law_ 1657 = .ok (.invokevirtual 133, 3) := by decide +kernel
theorem dL_law__1660 : decode cL_law_ 1660 = .ok (.iload 5, 2) := by decide +kernel
theorem dL_law__1662 : decode cL_law_ 1662 = .ok (.if_icmp .eq 5, 3) := by decide +kernel
theorem dL_law__1665 : decode cL_law_ 1665 = .ok (.iconst 0, 1) := by decide +kernel
theorem dL_law__1666 : decode cL_law_ 1666 = .ok (.ireturn, 1) := by decide +kernel
theorem dL_law__1667 : decode cL_law_ 1667 = .ok (.iload 5, 2) := by decide +kernel
theorem dL_law__1669 : decode cL_law_ 1669 = .ok (.ifCond .ne 15, 3) := by decide +kernel
theorem dL_law__1672 : decode cL_law_ 1672 = .ok (.aload_n 3, 1) := by decide +kernel
theorem dL_law__1673 : decode cL_law_ 1673 = .ok (.iconst 0, 1) := by decide +kernel
theorem dL_law__1674 : decode cL_law_ 1674 = .ok (.laload, 1) := by decide +kernel
theorem dL_law__1675 : decode cL_law_ 1675 = .ok (.iload 6, 2) := by decide +kernel
theorem dL_law__1677 : decode cL_law_ 1677 = .ok (.i2l, 1) := by decide +kernel
theorem dL_law__1678 : decode cL_law_ 1678 = .ok (.lcmp, 1) := by decide +kernel
theorem dL_law__1679 : decode cL_law_ 1679 = .ok (.ifCond .eq 5, 3) := by decide +kernel
theorem dL_law__1682 : decode cL_law_ 1682 = .ok (.iconst 0, 1) := by decide +kernel
theorem dL_law__1683 : decode cL_law_ 1683 = .ok (.ireturn, 1) := by decide +kernel
theorem dL_law__1684 : decode cL_law_ 1684 = .ok (.goto 1049, 3) := by decide +kernel
theorem dL_law__1687 : decode cL_law_ 1687 = .ok (.aload_n 1, 1) := by decide +kernel
theorem dL_law__1688 : decode cL_law_ 1688 = .ok (.aload_n 0, 1) := by decide +kernel
theorem dL_law__1689 : decode cL_law_ 1689 = .ok (.iload 4, 2) := by decide +kernel
theorem dL_law__1691 : decode cL_law_ 1691 = .ok (.iconst 1, 1) := by decide +kernel
theorem dL_law__1692 : decode cL_law_ 1692 = .ok (.iadd, 1) := by decide +kernel
theorem dL_law__1693 : decode cL_law_ 1693 = .ok (.iaload, 1) := by decide +kernel
theorem dL_law__1694 : decode cL_law_ 1694 = .ok (.aload_n 0, 1) := by decide +kernel
theorem dL_law__1695 : decode cL_law_ 1695 = .ok (.iload 4, 2) := by decide +kernel
theorem dL_law__1697 : decode cL_law_ 1697 = .ok (.iconst 2, 1) := by decide +kernel
theorem dL_law__1698 : decode cL_law_ 1698 = .ok (.iadd, 1) := by decide +kernel
theorem dL_law__1699 : decode cL_law_ 1699 = .ok (.iaload, 1) := by decide +kernel
theorem dL_law__1700 : decode cL_law_ 1700 = .ok (.aload_n 3, 1) := by decide +kernel
theorem dL_law__1701 : decode cL_law_ 1701 = .ok (.invokestatic 209, 3) := by decide +kernel
theorem dL_law__1704 : decode cL_law_ 1704 = .ok (.istore 5, 2) := by decide +kernel
theorem dL_law__1706 : decode cL_law_ 1706 = .ok (.aload_n 2, 1) := by decide +kernel
theorem dL_law__1707 : decode cL_law_ 1707 = .ok (.aload_n 0, 1) := by decide +kernel
theorem dL_law__1708 : decode cL_law_ 1708 = .ok (.iload 4, 2) := by decide +kernel
theorem dL_law__1710 : decode cL_law_ 1710 = .ok (.iconst 1, 1) := by decide +kernel
theorem dL_law__1711 : decode cL_law_ 1711 = .ok (.iadd, 1) := by decide +kernel
theorem dL_law__1712 : decode cL_law_ 1712 = .ok (.iaload, 1) := by decide +kernel
theorem dL_law__1713 : decode cL_law_ 1713 = .ok (.aload_n 0, 1) := by decide +kernel
theorem dL_law__1714 : decode cL_law_ 1714 = .ok (.iload 4, 2) := by decide +kernel
theorem dL_law__1716 : decode cL_law_ 1716 = .ok (.iconst 2, 1) := by decide +kernel
theorem dL_law__1717 : decode cL_law_ 1717 = .ok (.iadd, 1) := by decide +kernel
theorem dL_law__1718 : decode cL_law_ 1718 = .ok (.iaload, 1) := by decide +kernel
theorem dL_law__1719 : decode cL_law_ 1719 = .ok (.invokevirtual 211, 3) := by decide +kernel
theorem dL_law__1722 : decode cL_law_ 1722 = .ok (.istore 6, 2) := by decide +kernel
theorem dL_law__1724 : decode cL_law_ 1724 = .ok (.aload_n 2, 1) := by decide +kernel
theorem dL_law__1725 : decode cL_law_ 1725 = .ok (.invokevirtual 133, 3) := by decide +kernel
theorem dL_law__1728 : decode cL_law_ 1728 = .ok (.iload 5, 2) := by decide +kernel
theorem dL_law__1730 : decode cL_law_ 1730 = .ok (.if_icmp .eq 5, 3) := by decide +kernel
theorem dL_law__1733 : decode cL_law_ 1733 = .ok (.iconst 0, 1) := by decide +kernel
theorem dL_law__1734 : decode cL_law_ 1734 = .ok (.ireturn, 1) := by decide +kernel
theorem dL_law__1735 : decode cL_law_ 1735 = .ok (.iload 5, 2) := by decide +kernel
theorem dL_law__1737 : decode cL_law_ 1737 = .ok (.ifCond .ne 15, 3) := by decide +kernel
theorem dL_law__1740 : decode cL_law_ 1740 = .ok (.aload_n 3, 1) := by decide +kernel
theorem dL_law__1741 : decode cL_law_ 1741 = .ok (.iconst 0, 1) := by decide +kernel
theorem dL_law__1742 : decode cL_law_ 1742 = .ok (.laload, 1) := by decide +kernel
theorem dL_law__1743 : decode cL_law_ 1743 = .ok (.iload 6, 2) := by decide +kernel
theorem dL_law__1745 : decode cL_law_ 1745 = .ok (.i2l, 1) := by decide +kernel
theorem dL_law__1746 : decode cL_law_ 1746 = .ok (.lcmp, 1) := by decide +kernel
theorem dL_law__1747 : decode cL_law_ 1747 = .ok (.ifCond .eq 5, 3) := by decide +kernel
theorem dL_law__1750 : decode cL_law_ 1750 = .ok (.iconst 0, 1) := by decide +kernel
theorem dL_law__1751 : decode cL_law_ 1751 = .ok (.ireturn, 1) := by decide +kernel
theorem dL_law__1752 : decode cL_law_ 1752 = .ok (.goto 981, 3) := by decide +kernel
theorem dL_law__1755 : decode cL_law_ 1755 = .ok (.aload_n 1, 1) := by decide +kernel
theorem dL_law__1756 : decode cL_law_ 1756 = .ok (.invokevirtual 212, 3) := by decide +kernel
theorem dL_law__1759 : decode cL_law_ 1759 = .ok (.aload_n 2, 1) := by decide +kernel
theorem dL_law__1760 : decode cL_law_ 1760 = .ok (.invokevirtual 215, 3) := by decide +kernel
theorem dL_law__1763 : decode cL_law_ 1763 = .ok (.if_icmp .eq 970, 3) := by decide +kernel
theorem dL_law__1766 : decode cL_law_ 1766 = .ok (.iconst 0, 1) := by decide +kernel
theorem dL_law__1767 : decode cL_law_ 1767 = .ok (.ireturn, 1) := by decide +kernel
theorem dL_law__1768 : decode cL_law_ 1768 = .ok (.aload_n 1, 1) := by decide +kernel
theorem dL_law__1769 : decode cL_law_ 1769 = .ok (.aload_n 0, 1) := by decide +kernel
