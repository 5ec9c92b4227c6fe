theorem dL_1374 : decode code 1374 = .ok (.aload_n 0, 1) := by decide +kernel
theorem dL_1375 : decode code 1375 = .ok (.iload_n 3, 1) := by decide +kernel
theorem dL_1376 : decode code 1376 = .ok (.iconst 5, 1) := by decide +kernel
theorem dL_1377 : decode code 1377 = .ok (.iadd, 1) := by decide +kernel
theorem dL_1378 : decode code 1378 = .ok (.iaload, 1) := by decide +kernel
theorem dL_1379 : decode code 1379 = .ok (.invokevirtual 133, 3) := by decide +kernel
theorem dL_1382 : decode code 1382 = .ok (.aload_n 2, 1) := by decide +kernel
theorem dL_1383 : decode code 1383 = .ok (.aload_n 0, 1) := by decide +kernel
theorem dL_1384 : decode code 1384 = .ok (.iload_n 3, 1) := by decide +kernel
theorem dL_1385 : decode code 1385 = .ok (.iconst 1, 1) := by decide +kernel
theorem dL_1386 : decode code 1386 = .ok (.iadd, 1) := by decide +kernel
theorem dL_1387 : decode code 1387 = .ok (.iaload, 1) := by decide +kernel
theorem dL_1388 : decode code 1388 = .ok (.aload_n 0, 1) := by decide +kernel
theorem dL_1389 : decode code 1389 = .ok (.iload_n 3, 1) := by decide +kernel
theorem dL_1390 : decode code 1390 = .ok (.iconst 2, 1) := by decide +kernel
theorem dL_1391 : decode code 1391 = .ok (.iadd, 1) := by decide +kernel
theorem dL_1392 : decode code 1392 = .ok (.iaload, 1) := by decide +kernel
theorem dL_1393 : decode code 1393 = .ok (.aload_n 0, 1) := by decide +kernel
theorem dL_1394 : decode code 1394 = .ok (.iload_n 3, 1) := by decide +kernel
theorem dL_1395 : decode code 1395 = .ok (.iconst 3, 1) := by decide +kernel
theorem dL_1396 : decode code 1396 = .ok (.iadd, 1) := by decide +kernel
theorem dL_1397 : decode code 1397 = .ok (.iaload, 1) := by decide +kernel
theorem dL_1398 : decode code 1398 = .ok (.aload_n 0, 1) := by decide +kernel
theorem dL_1399 : decode code 1399 = .ok (.iload_n 3, 1) := by decide +kernel
theorem dL_1400 : decode code 1400 = .ok (.iconst 4, 1) := by decide +kernel
theorem dL_1401 : decode code 1401 = .ok (.iadd, 1) := by decide +kernel
theorem dL_1402 : decode code 1402 = .ok (.iaload, 1) := by decide +kernel
theorem dL_1403 : decode code 1403 = .ok (.aload_n 0, 1) := by decide +kernel
theorem dL_1404 : decode code 1404 = .ok (.iload_n 3, 1) := by decide +kernel
theorem dL_1405 : decode code 1405 = .ok (.iconst 5, 1) := by decide +kernel
theorem dL_1406 : decode code 1406 = .ok (.iadd, 1) := by decide +kernel
theorem dL_1407 : decode code 1407 = .ok (.iaload, 1) := by decide +kernel
theorem dL_1408 : decode code 1408 = .ok (.invokevirtual 136, 3) := by decide +kernel
theorem dL_1411 : decode code 1411 = .ok (.if_icmp .eq 786, 3) := by decide +kernel
theorem dL_1416 : decode code 1416 = .ok (.aload_n 1, 1) := by decide +kernel
theorem dL_1417 : decode code 1417 = .ok (.aload_n 0, 1) := by decide +kernel
theorem dL_1418 : decode code 1418 = .ok (.iload_n 3, 1) := by decide +kernel
theorem dL_1419 : decode code 1419 = .ok (.iconst 1, 1) := by decide +kernel
theorem dL_1420 : decode code 1420 = .ok (.iadd, 1) := by decide +kernel
theorem dL_1421 : decode code 1421 = .ok (.iaload, 1) := by decide +kernel
theorem dL_1422 : decode code 1422 = .ok (.aload_n 0, 1) := by decide +kernel
theorem dL_1423 : decode code 1423 = .ok (.iload_n 3, 1) := by decide +kernel
theorem dL_1424 : decode code 1424 = .ok (.iconst 2, 1) := by decide +kernel
theorem dL_1425 : decode code 1425 = .ok (.iadd, 1) := by decide +kernel
theorem dL_1426 : decode code 1426 = .ok (.iaload, 1) := by decide +kernel
theorem dL_1427 : decode code 1427 = .ok (.aload_n 0, 1) := by decide +kernel
theorem dL_1428 : decode code 1428 = .ok (.iload_n 3, 1) := by decide +kernel
theorem dL_1429 : decode code 1429 = .ok (.iconst 3, 1) := by decide +kernel
theorem dL_1430 : decode code 1430 = .ok (.iadd, 1) := by decide +kernel
theorem dL_1431 : decode code 1431 = .ok (.iaload, 1) := by decide +kernel
theorem dL_1432 : decode code 1432 = .ok (.aload_n 0, 1) := by decide +kernel
theorem dL_1433 : decode code 1433 = .ok (.iload_n 3, 1) := by decide +kernel
theorem dL_1434 : decode code 1434 = .ok (.iconst 4, 1) := by decide +kernel
theorem dL_1435 : decode code 1435 = .ok (.iadd, 1) := by decide +kernel
theorem dL_1436 : decode code 1436 = .ok (.iaload, 1) := by decide +kernel
theorem dL_1437 : decode code 1437 = .ok (.aload_n 0, 1) := by decide +kernel
theorem dL_1438 : decode code 1438 = .ok (.iload_n 3, 1) := by decide +kernel
theorem dL_1439 : decode code 1439 = .ok (.iconst 5, 1) := by decide +kernel
theorem dL_1440 : decode code 1440 = .ok (.iadd, 1) := by decide +kernel
theorem dL_1441 : decode code 1441 = .ok (.iaload, 1) := by decide +kernel
theorem dL_1442 : decode code 1442 = .ok (.aload_n 0, 1) := by decide +kernel
theorem dL_1443 : decode code 1443 = .ok (.iload_n 3, 1) := by decide +kernel
theorem dL_1444 : decode code 1444 = .ok (.bipush 6, 2) := by decide +kernel
theorem dL_1446 : decode code 1446 = .ok (.iadd, 1) := by decide +kernel
theorem dL_1447 : decode code 1447 = .ok (.iaload, 1) := by decide +kernel
theorem dL_1448 : decode code 1448 = .ok (.invokevirtual 137, 3) := by decide +kernel
theorem dL_1451 : decode code 1451 = .ok (.aload_n 2, 1) := by decide +kernel
theorem dL_1452 : decode code 1452 = .ok (.aload_n 0, 1) := by decide +kernel
theorem dL_1453 : decode code 1453 = .ok (.iload_n 3, 1) := by decide +kernel
theorem dL_1454 : decode code 1454 = .ok (.iconst 1, 1) := by decide +kernel
theorem dL_1455 : decode code 1455 = .ok (.iadd, 1) := by decide +kernel
theorem dL_1456 : decode code 1456 = .ok (.iaload, 1) := by decide +kernel
theorem dL_1457 : decode code 1457 = .ok (.aload_n 0, 1) := by decide +kernel
theorem dL_1458 : decode code 1458 = .ok (.iload_n 3, 1) := by decide +kernel
theorem dL_1459 : decode code 1459 = .ok (.iconst 2, 1) := by decide +kernel
theorem dL_1460 : decode code 1460 = .ok (.iadd, 1) := by decide +kernel
theorem dL_1461 : decode code 1461 = .ok (.iaload, 1) := by decide +kernel
theorem dL_1462 : decode code 1462 = .ok (.aload_n 0, 1) := by decide +kernel
theorem dL_1463 : decode code 1463 = .ok (.iload_n 3, 1) := by decide +kernel
theorem dL_1464 : decode code 1464 = .ok (.iconst 3, 1) := by decide +kernel
theorem dL_1465 : decode code 1465 = .ok (.iadd, 1) := by decide +kernel
theorem dL_1466 : decode code 1466 = .ok (.iaload, 1) := by decide +kernel
theorem dL_1467 : decode code 1467 = .ok (.aload_n 0, 1) := by decide +kernel
theorem dL_1468 : decode code 1468 = .ok (.iload_n 3, 1) := by decide +kernel
theorem dL_1469 : decode code 1469 = .ok (.iconst 4, 1) := by decide +kernel
theorem dL_1470 : decode code 1470 = .ok (.iadd, 1) := by decide +kernel
theorem dL_1471 : decode code 1471 = .ok (.iaload, 1) := by decide +kernel
theorem dL_1472 : decode code 1472 = .ok (.aload_n 0, 1) := by decide +kernel
theorem dL_1473 : decode code 1473 = .ok (.iload_n 3, 1) := by decide +kernel
theorem dL_1474 : decode code 1474 = .ok (.iconst 5, 1) := by decide +kernel
theorem dL_1475 : decode code 1475 = .ok (.iadd, 1) := by decide +kernel
theorem dL_1476 : decode code 1476 = .ok (.iaload, 1) := by decide +kernel
theorem dL_1477 : decode code 1477 = .ok (.aload_n 0, 1) := by decide +kernel
theorem dL_1478 : decode code 1478 = .ok (.iload_n 3, 1) := by decide +kernel
theorem dL_1479 : decode code 1479 = .ok (.bipush 6, 2) := by decide +kernel
theorem dL_1481 : decode code 1481 = .ok (.iadd, 1) := by decide +kernel
theorem dL_1482 : decode code 1482 = .ok (.iaload, 1) := by decide +kernel
theorem dL_1483 : decode code 1483 = .ok (.invokevirtual 141, 3) := by decide +kernel
theorem dL_1486 : decode code 1486 = .ok (.if_icmp .eq 711, 3) := by decide +kernel
theorem dL_1491 : decode code 1491 = .ok (.aload_n 1, 1) := by decide +kernel
theorem dL_1492 : decode code 1492 = .ok (.aload_n 0, 1) := by decide +kernel
theorem dL_1493 : decode code 1493 = .ok (.iload_n 3, 1) := by decide +kernel
theorem dL_1494 : decode code 1494 = .ok (.iconst 1, 1) := by decide +kernel
theorem dL_1495 : decode code 1495 = .ok (.iadd, 1) := by decide +kernel
theorem dL_1496 : decode code 1496 = .ok (.iaload, 1) := by decide +kernel
theorem dL_1497 : decode code 1497 = .ok (.aload_n 0, 1) := by decide +kernel
theorem dL_1498 : decode code 1498 = .ok (.iload_n 3, 1) := by decide +kernel
theorem dL_1499 : decode code 1499 = .ok (.iconst 2, 1) := by decide +kernel
theorem dL_1500 : decode code 1500 = .ok (.iadd, 1) := by decide +kernel
theorem dL_1501 : decode code 1501 = .ok (.iaload, 1) := by decide +kernel
theorem dL_1502 : decode code 1502 = .ok (.aload_n 0, 1) := by decide +kernel
theorem dL_1503 : decode code 1503 = .ok (.iload_n 3, 1) := by decide +kernel
theorem dL_1504 : decode code 1504 = .ok (.iconst 3, 1) := by decide +kernel
theorem dL_1505 : decode code 1505 = .ok (.iadd, 1) := by decide +kernel
theorem dL_1506 : decode code 1506 = .ok (.iaload, 1) := by decide +kernel
theorem dL_1507 : decode code 1507 = .ok (.invokevirtual 142, 3) := by decide +kernel
theorem dL_1510 : decode code 1510 = .ok (.aload_n 2, 1) := by decide +kernel
theorem dL_1511 : decode code 1511 = .ok (.aload_n 0, 1) := by decide +kernel
theorem dL_1512 : decode code 1512 = .ok (.iload_n 3, 1) := by decide +kernel
theorem dL_1513 : decode code 1513 = .ok (.iconst 1, 1) := by decide +kernel
theorem dL_1514 : decode code 1514 = .ok (.iadd, 1) := by decide +kernel
theorem dL_1515 : decode code 1515 = .ok (.iaload, 1) := by decide +kernel
theorem dL_1516 : decode code 1516 = .ok (.aload_n 0, 1) := by decide +kernel
theorem dL_1517 : decode code 1517 = .ok (.iload_n 3, 1) := by decide +kernel
theorem dL_1518 : decode code 1518 = .ok (.iconst 2, 1) := by decide +kernel
theorem dL_1519 : decode code 1519 = .ok (.iadd, 1) := by decide +kernel
theorem dL_1520 : decode code 1520 = .ok (.iaload, 1) := by decide +kernel
theorem dL_1521 : decode code 1521 = .ok (.aload_n 0, 1) := by decide +kernel
theorem dL_1522 : decode code 1522 = .ok (.iload_n 3, 1) := by decide +kernel
theorem dL_1523 : decode code 1523 = .ok (.iconst 3, 1) := by decide +kernel
theorem dL_1524 : decode code 1524 = .ok (.iadd, 1) := by decide +kernel
theorem dL_1525 : decode code 1525 = .ok (.iaload, 1) := by decide +kernel
theorem dL_1526 : decode code 1526 = .ok (.invokevirtual 145, 3) := by decide +kernel
theorem dL_1529 : decode code 1529 = .ok (.if_icmp .eq 668, 3) := by decide +kernel
theorem dL_1534 : decode code 1534 = .ok (.aload_n 1, 1) := by decide +kernel
theorem dL_1535 : decode code 1535 = .ok (.aload_n 0, 1) := by decide +kernel
theorem dL_1536 : decode code 1536 = .ok (.iload_n 3, 1) := by decide +kernel
theorem dL_1537 : decode code 1537 = .ok (.iconst 1, 1) := by decide +kernel
theorem dL_1538 : decode code 1538 = .ok (.iadd, 1) := by decide +kernel
theorem dL_1539 : decode code 1539 = .ok (.iaload, 1) := by decide +kernel
theorem dL_1540 : decode code 1540 = .ok (.aload_n 0, 1) := by decide +kernel
theorem dL_1541 : decode code 1541 = .ok (.iload_n 3, 1) := by decide +kernel
theorem dL_1542 : decode code 1542 = .ok (.iconst 2, 1) := by decide +kernel
theorem dL_1543 : decode code 1543 = .ok (.iadd, 1) := by decide +kernel
theorem dL_1544 : decode code 1544 = .ok (.iaload, 1) := by decide +kernel
theorem dL_1545 : decode code 1545 = .ok (.aload_n 0, 1) := by decide +kernel
theorem dL_1546 : decode code 1546 = .ok (.iload_n 3, 1) := by decide +kernel
theorem dL_1547 : decode code 1547 = .ok (.iconst 3, 1) := by decide +kernel
theorem dL_1548 : decode code 1548 = .ok (.iadd, 1) := by decide +kernel
theorem dL_1549 : decode code 1549 = .ok (.iaload, 1) := by decide +kernel
theorem dL_1550 : decode code 1550 = .ok (.aload_n 0, 1) := by decide +kernel
theorem dL_1551 : decode code 1551 = .ok (.iload_n 3, 1) := by decide +kernel
theorem dL_1552 : decode code 1552 = .ok (.iconst 4, 1) := by decide +kernel
theorem dL_1553 : decode code 1553 = .ok (.iadd, 1) := by decide +kernel
theorem dL_1554 : decode code 1554 = .ok (.iaload, 1) := by decide +kernel
theorem dL_1555 : decode code 1555 = .ok (.aload_n 0, 1) := by decide +kernel
theorem dL_1556 : decode code 1556 = .ok (.iload_n 3, 1) := by decide +kernel
theorem dL_1557 : decode code 1557 = .ok (.iconst 5, 1) := by decide +kernel
theorem dL_1558 : decode code 1558 = .ok (.iadd, 1) := by decide +kernel
theorem dL_1559 : decode code 1559 = .ok (.iaload, 1) := by decide +kernel
theorem dL_1560 : decode code 1560 = .ok (.aload_n 0, 1) := by decide +kernel
theorem dL_1561 : decode code 1561 = .ok (.iload_n 3, 1) := by decide +kernel
theorem dL_1562 : decode code 1562 = .ok (.bipush 6, 2) := by decide +kernel
theorem dL_1564 : decode code 1564 = .ok (.iadd, 1) := by decide +kernel
theorem dL_1565 : decode code 1565 = .ok (.iaload, 1) := by decide +kernel
theorem dL_1566 : decode code 1566 = .ok (.aload_n 0, 1) := by decide +kernel
theorem dL_1567 : decode code 1567 = .ok (.iload_n 3, 1) := by decide +kernel
theorem dL_1568 : decode code 1568 = .ok (.bipush 7, 2) := by decide +kernel
theorem dL_1570 : decode code 1570 = .ok (.iadd, 1) := by decide +kernel
theorem dL_1571 : decode code 1571 = .ok (.iaload, 1) := by decide +kernel
theorem dL_1572 : decode code 1572 = .ok (.invokevirtual 146, 3) := by decide +kernel
theorem dL_1575 : decode code 1575 = .ok (.aload_n 2, 1) := by decide +kernel
theorem dL_1576 : decode code 1576 = .ok (.aload_n 0, 1) := by decide +kernel
theorem dL_1577 : decode code 1577 = .ok (.iload_n 3, 1) := by decide +kernel
theorem dL_1578 : decode code 1578 = .ok (.iconst 1, 1) := by decide +kernel
theorem dL_1579 : decode code 1579 = .ok (.iadd, 1) := by decide +kernel
theorem dL_1580 : decode code 1580 = .ok (.iaload, 1) := by decide +kernel
theorem dL_1581 : decode code 1581 = .ok (.aload_n 0, 1) := by decide +kernel
theorem dL_1582 : decode code 1582 = .ok (.iload_n 3, 1) := by decide +kernel
theorem dL_1583 : decode code 1583 = .ok (.iconst 2, 1) := by decide +kernel
theorem dL_1584 : decode code 1584 = .ok (.iadd, 1) := by decide +kernel
theorem dL_1585 : decode code 1585 = .ok (.iaload, 1) := by decide +kernel
theorem dL_1586 : decode code 1586 = .ok (.aload_n 0, 1) := by decide +kernel
theorem dL_1587 : decode code 1587 = .ok (.iload_n 3, 1) := by decide +kernel
theorem dL_1588 : decode code 1588 = .ok (.iconst 3, 1) := by decide +kernel
theorem dL_1589 : decode code 1589 = .ok (.iadd, 1) := by decide +kernel
theorem dL_1590 : decode code 1590 = .ok (.iaload, 1) := by decide +kernel
theorem dL_1591 : decode code 1591 = .ok (.aload_n 0, 1) := by decide +kernel
theorem dL_1592 : decode code 1592 = .ok (.iload_n 3, 1) := by decide +kernel
theorem dL_1593 : decode code 1593 = .ok (.iconst 4, 1) := by decide +kernel
theorem dL_1594 : decode code 1594 = .ok (.iadd, 1) := by decide +kernel
theorem dL_1595 : decode code 1595 = .ok (.iaload, 1) := by decide +kernel
theorem dL_1596 : decode code 1596 = .ok (.aload_n 0, 1) := by decide +kernel
theorem dL_1597 : decode code 1597 = .ok (.iload_n 3, 1) := by decide +kernel
theorem dL_1598 : decode code 1598 = .ok (.iconst 5, 1) := by decide +kernel
theorem dL_1599 : decode code 1599 = .ok (.iadd, 1) := by decide +kernel
theorem dL_1600 : decode code 1600 = .ok (.iaload, 1) := by decide +kernel
theorem dL_1601 : decode code 1601 = .ok (.aload_n 0, 1) := by decide +kernel
theorem dL_1602 : decode code 1602 = .ok (.iload_n 3, 1) := by decide +kernel
theorem dL_1603 : decode code 1603 = .ok (.bipush 6, 2) := by decide +kernel
theorem dL_1605 : decode code 1605 = .ok (.iadd, 1) := by decide +kernel
theorem dL_1606 : decode code 1606 = .ok (.iaload, 1) := by decide +kernel
theorem dL_1607 : decode code 1607 = .ok (.aload_n 0, 1) := by decide +kernel
theorem dL_1608 : decode code 1608 = .ok (.iload_n 3, 1) := by decide +kernel
theorem dL_1609 : decode code 1609 = .ok (.bipush 7, 2) := by decide +kernel
theorem dL_1611 : decode code 1611 = .ok (.iadd, 1) := by decide +kernel
theorem dL_1612 : decode code 1612 = .ok (.iaload, 1) := by decide +kernel
theorem dL_1613 : decode code 1613 = .ok (.invokevirtual 149, 3) := by decide +kernel
theorem dL_1616 : decode code 1616 = .ok (.if_icmp .eq 581, 3) := by decide +kernel
theorem dL_1621 : decode code 1621 = .ok (.aload_n 1, 1) := by decide +kernel
theorem dL_1622 : decode code 1622 = .ok (.aload_n 0, 1) := by decide +kernel
theorem dL_1623 : decode code 1623 = .ok (.iload_n 3, 1) := by decide +kernel
theorem dL_1624 : decode code 1624 = .ok (.iconst 1, 1) := by decide +kernel
theorem dL_1625 : decode code 1625 = .ok (.iadd, 1) := by decide +kernel
theorem dL_1626 : decode code 1626 = .ok (.iaload, 1) := by decide +kernel
theorem dL_1627 : decode code 1627 = .ok (.aload_n 0, 1) := by decide +kernel
theorem dL_1628 : decode code 1628 = .ok (.iload_n 3, 1) := by decide +kernel
theorem dL_1629 : decode code 1629 = .ok (.iconst 2, 1) := by decide +kernel
theorem dL_1630 : decode code 1630 = .ok (.iadd, 1) := by decide +kernel
theorem dL_1631 : decode code 1631 = .ok (.iaload, 1) := by decide +kernel
theorem dL_1632 : decode code 1632 = .ok (.aload_n 0, 1) := by decide +kernel
theorem dL_1633 : decode code 1633 = .ok (.iload_n 3, 1) := by decide +kernel
theorem dL_1634 : decode code 1634 = .ok (.iconst 3, 1) := by decide +kernel
theorem dL_1635 : decode code 1635 = .ok (.iadd, 1) := by decide +kernel
theorem dL_1636 : decode code 1636 = .ok (.iaload, 1) := by decide +kernel
theorem dL_1637 : decode code 1637 = .ok (.aload_n 0, 1) := by decide +kernel
theorem dL_1638 : decode code 1638 = .ok (.iload_n 3, 1) := by decide +kernel
theorem dL_1639 : decode code 1639 = .ok (.iconst 4, 1) := by decide +kernel
theorem dL_1640 : decode code 1640 = .ok (.iadd, 1) := by decide +kernel
theorem dL_1641 : decode code 1641 = .ok (.iaload, 1) := by decide +kernel
theorem dL_1642 : decode code 1642 = .ok (.aload_n 0, 1) := by decide +kernel
theorem dL_1643 : decode code 1643 = .ok (.iload_n 3, 1) := by decide +kernel
theorem dL_1644 : decode code 1644 = .ok (.iconst 5, 1) := by decide +kernel
theorem dL_1645 : decode code 1645 = .ok (.iadd, 1) := by decide +kernel
theorem dL_1646 : decode code 1646 = .ok (.iaload, 1) := by decide +kernel
theorem dL_1647 : decode code 1647 = .ok (.invokevirtual 150, 3) := by decide +kernel
theorem dL_1650 : decode code 1650 = .ok (.aload_n 2, 1) := by decide +kernel
theorem dL_1651 : decode code 1651 = .ok (.aload_n 0, 1) := by decide +kernel
theorem dL_1652 : decode code 1652 = .ok (.iload_n 3, 1) := by decide +kernel
theorem dL_1653 : decode code 1653 = .ok (.iconst 1, 1) := by decide +kernel
theorem dL_1654 : decode code 1654 = .ok (.iadd, 1) := by decide +kernel
theorem dL_1655 : decode code 1655 = .ok (.iaload, 1) := by decide +kernel
theorem dL_1656 : decode code 1656 = .ok (.aload_n 0, 1) := by decide +kernel
theorem dL_1657 : decode code 1657 = .ok (.iload_n 3, 1) := by decide +kernel
theorem dL_1658 : decode code 1658 = .ok (.iconst 2, 1) := by decide +kernel
theorem dL_1659 : decode code 1659 = .ok (.iadd, 1) := by decide +kernel
theorem dL_1660 : decode code 1660 = .ok (.iaload, 1) := by decide +kernel
theorem dL_1661 : decode code 1661 = .ok (.aload_n 0, 1) := by decide +kernel
theorem dL_1662 : decode code 1662 = .ok (.iload_n 3, 1) := by decide +kernel
theorem dL_1663 : decode code 1663 = .ok (.iconst 3, 1) := by decide +kernel
theorem dL_1664 : decode code 1664 = .ok (.iadd, 1) := by decide +kernel
theorem dL_1665 : decode code 1665 = .ok (.iaload, 1) := by decide +kernel
theorem dL_1666 : decode code 1666 = .ok (.aload_n 0, 1) := by decide +kernel
theorem dL_1667 : decode code 1667 = .ok (.iload_n 3, 1) := by decide +kernel
theorem dL_1668 : decode code 1668 = .ok (.iconst 4, 1) := by decide +kernel
theorem dL_1669 : decode code 1669 = .ok (.iadd, 1) := by decide +kernel
theorem dL_1670 : decode code 1670 = .ok (.iaload, 1) := by decide +kernel
theorem dL_1671 : decode code 1671 = .ok (.aload_n 0, 1) := by decide +kernel
theorem dL_1672 : decode code 1672 = .ok (.iload_n 3, 1) := by decide +kernel
theorem dL_1673 : decode code 1673 = .ok (.iconst 5, 1) := by decide +kernel
theorem dL_1674 : decode code 1674 = .ok (.iadd, 1) := by decide +kernel
theorem dL_1675 : decode code 1675 = .ok (.iaload, 1) := by decide +kernel
theorem dL_1676 : decode code 1676 = .ok (.invokevirtual 153, 3) := by decide +kernel
theorem dL_1679 : decode code 1679 = .ok (.if_icmp .eq 518, 3) := by decide +kernel
theorem dL_1684 : decode code 1684 = .ok (.aload_n 1, 1) := by decide +kernel
theorem dL_1685 : decode code 1685 = .ok (.aload_n 0, 1) := by decide +kernel
theorem dL_1686 : decode code 1686 = .ok (.iload_n 3, 1) := by decide +kernel
theorem dL_1687 : decode code 1687 = .ok (.iconst 1, 1) := by decide +kernel
theorem dL_1688 : decode code 1688 = .ok (.iadd, 1) := by decide +kernel
theorem dL_1689 : decode code 1689 = .ok (.iaload, 1) := by decide +kernel
theorem dL_1690 : decode code 1690 = .ok (.aload_n 0, 1) := by decide +kernel
theorem dL_1691 : decode code 1691 = .ok (.iload_n 3, 1) := by decide +kernel
theorem dL_1692 : decode code 1692 = .ok (.iconst 2, 1) := by decide +kernel
theorem dL_1693 : decode code 1693 = .ok (.iadd, 1) := by decide +kernel
theorem dL_1694 : decode code 1694 = .ok (.iaload, 1) := by decide +kernel
theorem dL_1695 : decode code 1695 = .ok (.aload_n 0, 1) := by decide +kernel
theorem dL_1696 : decode code 1696 = .ok (.iload_n 3, 1) := by decide +kernel
theorem dL_1697 : decode code 1697 = .ok (.iconst 3, 1) := by decide +kernel
theorem dL_1698 : decode code 1698 = .ok (.iadd, 1) := by decide +kernel
theorem dL_1699 : decode code 1699 = .ok (.iaload, 1) := by decide +kernel
theorem dL_1700 : decode code 1700 = .ok (.aload_n 0, 1) := by decide +kernel
theorem dL_1701 : decode code 1701 = .ok (.iload_n 3, 1) := by decide +kernel
theorem dL_1702 : decode code 1702 = .ok (.iconst 4, 1) := by decide +kernel
theorem dL_1703 : decode code 1703 = .ok (.iadd, 1) := by decide +kernel
theorem dL_1704 : decode code 1704 = .ok (.iaload, 1) := by decide +kernel
theorem dL_1705 : decode code 1705 = .ok (.aload_n 0, 1) := by decide +kernel
theorem dL_1706 : decode code 1706 = .ok (.iload_n 3, 1) := by decide +kernel
theorem dL_1707 : decode code 1707 = .ok (.iconst 5, 1) := by decide +kernel
theorem dL_1708 : decode code 1708 = .ok (.iadd, 1) := by decide +kernel
theorem dL_1709 : decode code 1709 = .ok (.iaload, 1) := by decide +kernel
theorem dL_1710 : decode code 1710 = .ok (.aload_n 0, 1) := by decide +kernel
theorem dL_1711 : decode code 1711 = .ok (.iload_n 3, 1) := by decide +kernel
theorem dL_1712 : decode code 1712 = .ok (.bipush 6, 2) := by decide +kernel
theorem dL_1714 : decode code 1714 = .ok (.iadd, 1) := by decide +kernel
theorem dL_1715 : decode code 1715 = .ok (.iaload, 1) := by decide +kernel
theorem dL_1716 : decode code 1716 = .ok (.invokevirtual 154, 3) := by decide +kernel
theorem dL_1719 : decode code 1719 = .ok (.aload_n 2, 1) := by decide +kernel
theorem dL_1720 : decode code 1720 = .ok (.aload_n 0, 1) := by decide +kernel
theorem dL_1721 : decode code 1721 = .ok (.iload_n 3, 1) := by decide +kernel
theorem dL_1722 : decode code 1722 = .ok (.iconst 1, 1) := by decide +kernel
theorem dL_1723 : decode code 1723 = .ok (.iadd, 1) := by decide +kernel
theorem dL_1724 : decode code 1724 = .ok (.iaload, 1) := by decide +kernel
theorem dL_1725 : decode code 1725 = .ok (.aload_n 0, 1) := by decide +kernel
theorem dL_1726 : decode code 1726 = .ok (.iload_n 3, 1) := by decide +kernel
theorem dL_1727 : decode code 1727 = .ok (.iconst 2, 1) := by decide +kernel
theorem dL_1728 : decode code 1728 = .ok (.iadd, 1) := by decide +kernel
theorem dL_1729 : decode code 1729 = .ok (.iaload, 1) := by decide +kernel
theorem dL_1730 : decode code 1730 = .ok (.aload_n 0, 1) := by decide +kernel
theorem dL_1731 : decode code 1731 = .ok (.iload_n 3, 1) := by decide +kernel
theorem dL_1732 : decode code 1732 = .ok (.iconst 3, 1) := by decide +kernel
theorem dL_1733 : decode code 1733 = .ok (.iadd, 1) := by decide +kernel
theorem dL_1734 : decode code 1734 = .ok (.iaload, 1) := by decide +kernel
theorem dL_1735 : decode code 1735 = .ok (.aload_n 0, 1) := by decide +kernel
theorem dL_1736 : decode code 1736 = .ok (.iload_n 3, 1) := by decide +kernel
theorem dL_1737 : decode code 1737 = .ok (.iconst 4, 1) := by decide +kernel
theorem dL_1738 : decode code 1738 = .ok (.iadd, 1) := by decide +kernel
theorem dL_1739 : decode code 1739 = .ok (.iaload, 1) := by decide +kernel
theorem dL_1740 : decode code 1740 = .ok (.aload_n 0, 1) := by decide +kernel
theorem dL_1741 : decode code 1741 = .ok (.iload_n 3, 1) := by decide +kernel
theorem dL_1742 : decode code 1742 = .ok (.iconst 5, 1) := by decide +kernel
theorem dL_1743 : decode code 1743 = .ok (.iadd, 1) := by decide +kernel
theorem dL_1744 : decode code 1744 = .ok (.iaload, 1) := by decide +kernel
theorem dL_1745 : decode code 1745 = .ok (.aload_n 0, 1) := by decide +kernel
theorem dL_1746 : decode code 1746 = .ok (.iload_n 3, 1) := by decide +kernel
theorem dL_1747 : decode code 1747 = .ok (.bipush 6, 2) := by decide +kernel
theorem dL_1749 : decode code 1749 = .ok (.iadd, 1) := by decide +kernel
theorem dL_1750 : decode code 1750 = .ok (.iaload, 1) := by decide +kernel
theorem dL_1751 : decode code 1751 = .ok (.invokevirtual 157, 3) := by decide +kernel
theorem dL_1754 : decode code 1754 = .ok (.if_icmp .eq 443, 3) := by decide +kernel
theorem dL_1759 : decode code 1759 = .ok (.aload_n 1, 1) := by decide +kernel
theorem dL_1760 : decode code 1760 = .ok (.aload_n 0, 1) := by decide +kernel
theorem dL_1761 : decode code 1761 = .ok (.iload_n 3, 1) := by decide +kernel
theorem dL_1762 : decode code 1762 = .ok (.iconst 1, 1) := by decide +kernel
theorem dL_1763 : decode code 1763 = .ok (.iadd, 1) := by decide +kernel
theorem dL_1764 : decode code 1764 = .ok (.iaload, 1) := by decide +kernel
theorem dL_1765 : decode code 1765 = .ok (.aload_n 0, 1) := by decide +kernel
theorem dL_1766 : decode code 1766 = .ok (.iload_n 3, 1) := by decide +kernel
theorem dL_1767 : decode code 1767 = .ok (.iconst 2, 1) := by decide +kernel
theorem dL_1768 : decode code 1768 = .ok (.iadd, 1) := by decide +kernel
theorem dL_1769 : decode code 1769 = .ok (.iaload, 1) := by decide +kernel
theorem dL_1770 : decode code 1770 = .ok (.aload_n 0, 1) := by decide +kernel
theorem dL_1771 : decode code 1771 = .ok (.iload_n 3, 1) := by decide +kernel
theorem dL_1772 : decode code 1772 = .ok (.iconst 3, 1) := by decide +kernel
theorem dL_1773 : decode code 1773 = .ok (.iadd, 1) := by decide +kernel
theorem dL_1774 : decode code 1774 = .ok (.iaload, 1) := by decide +kernel
theorem dL_1775 : decode code 1775 = .ok (.invokevirtual 158, 3) := by decide +kernel
theorem dL_1778 : decode code 1778 = .ok (.aload_n 2, 1) := by decide +kernel
theorem dL_1779 : decode code 1779 = .ok (.aload_n 0, 1) := by decide +kernel
theorem dL_1780 : decode code 1780 = .ok (.iload_n 3, 1) := by decide +kernel
theorem dL_1781 : decode code 1781 = .ok (.iconst 1, 1) := by decide +kernel
theorem dL_1782 : decode code 1782 = .ok (.iadd, 1) := by decide +kernel
theorem dL_1783 : decode code 1783 = .ok (.iaload, 1) := by decide +kernel
theorem dL_1784 : decode code 1784 = .ok (.aload_n 0, 1) := by decide +kernel
theorem dL_1785 : decode code 1785 = .ok (.iload_n 3, 1) := by decide +kernel
theorem dL_1786 : decode code 1786 = .ok (.iconst 2, 1) := by decide +kernel
theorem dL_1787 : decode code 1787 = .ok (.iadd, 1) := by decide +kernel
theorem dL_1788 : decode code 1788 = .ok (.iaload, 1) := by decide +kernel
theorem dL_1789 : decode code 1789 = .ok (.aload_n 0, 1) := by decide +kernel
theorem dL_1790 : decode code 1790 = .ok (.iload_n 3, 1) := by decide +kernel
theorem dL_1791 : decode code 1791 = .ok (.iconst 3, 1) := by decide +kernel
theorem dL_1792 : decode code 1792 = .ok (.iadd, 1) := by decide +kernel
theorem dL_1793 : decode code 1793 = .ok (.iaload, 1) := by decide +kernel
theorem dL_1794 : decode code 1794 = .ok (.invokevirtual 161, 3) := by decide +kernel
theorem dL_1797 : decode code 1797 = .ok (.if_icmp .eq 400, 3) := by decide +kernel
theorem dL_1802 : decode code 1802 = .ok (.aload_n 1, 1) := by decide +kernel
theorem dL_1803 : decode code 1803 = .ok (.aload_n 0, 1) := by decide +kernel
theorem dL_1804 : decode code 1804 = .ok (.iload_n 3, 1) := by decide +kernel
theorem dL_1805 : decode code 1805 = .ok (.iconst 1, 1) := by decide +kernel
theorem dL_1806 : decode code 1806 = .ok (.iadd, 1) := by decide +kernel
theorem dL_1807 : decode code 1807 = .ok (.iaload, 1) := by decide +kernel
theorem dL_1808 : decode code 1808 = .ok (.aload_n 0, 1) := by decide +kernel
theorem dL_1809 : decode code 1809 = .ok (.iload_n 3, 1) := by decide +kernel
theorem dL_1810 : decode code 1810 = .ok (.iconst 2, 1) := by decide +kernel
theorem dL_1811 : decode code 1811 = .ok (.iadd, 1) := by decide +kernel
theorem dL_1812 : decode code 1812 = .ok (.iaload, 1) := by decide +kernel
theorem dL_1813 : decode code 1813 = .ok (.invokevirtual 162, 3) := by decide +kernel
theorem dL_1816 : decode code 1816 = .ok (.aload_n 2, 1) := by decide +kernel
theorem dL_1817 : decode code 1817 = .ok (.aload_n 0, 1) := by decide +kernel
theorem dL_1818 : decode code 1818 = .ok (.iload_n 3, 1) := by decide +kernel
theorem dL_1819 : decode code 1819 = .ok (.iconst 1, 1) := by decide +kernel
theorem dL_1820 : decode code 1820 = .ok (.iadd, 1) := by decide +kernel
theorem dL_1821 : decode code 1821 = .ok (.iaload, 1) := by decide +kernel
theorem dL_1822 : decode code 1822 = .ok (.aload_n 0, 1) := by decide +kernel
theorem dL_1823 : decode code 1823 = .ok (.iload_n 3, 1) := by decide +kernel
theorem dL_1824 : decode code 1824 = .ok (.iconst 2, 1) := by decide +kernel
theorem dL_1825 : decode code 1825 = .ok (.iadd, 1) := by decide +kernel
theorem dL_1826 : decode code 1826 = .ok (.iaload, 1) := by decide +kernel
theorem dL_1827 : decode code 1827 = .ok (.invokevirtual 165, 3) := by decide +kernel
theorem dL_1830 : decode code 1830 = .ok (.if_icmp .eq 367, 3) := by decide +kernel
theorem dL_1835 : decode code 1835 = .ok (.aload_n 1, 1) := by decide +kernel
theorem dL_1836 : decode code 1836 = .ok (.aload_n 0, 1) := by decide +kernel
theorem dL_1837 : decode code 1837 = .ok (.iload_n 3, 1) := by decide +kernel
theorem dL_1838 : decode code 1838 = .ok (.iconst 1, 1) := by decide +kernel
theorem dL_1839 : decode code 1839 = .ok (.iadd, 1) := by decide +kernel
theorem dL_1840 : decode code 1840 = .ok (.iaload, 1) := by decide +kernel
theorem dL_1841 : decode code 1841 = .ok (.aload_n 0, 1) := by decide +kernel
theorem dL_1842 : decode code 1842 = .ok (.iload_n 3, 1) := by decide +kernel
theorem dL_1843 : decode code 1843 = .ok (.iconst 2, 1) := by decide +kernel
theorem dL_1844 : decode code 1844 = .ok (.iadd, 1) := by decide +kernel
theorem dL_1845 : decode code 1845 = .ok (.iaload, 1) := by decide +kernel
theorem dL_1846 : decode code 1846 = .ok (.aload_n 0, 1) := by decide +kernel
theorem dL_1847 : decode code 1847 = .ok (.iload_n 3, 1) := by decide +kernel
theorem dL_1848 : decode code 1848 = .ok (.iconst 3, 1) := by decide +kernel
theorem dL_1849 : decode code 1849 = .ok (.iadd, 1) := by decide +kernel
theorem dL_1850 : decode code 1850 = .ok (.iaload, 1) := by decide +kernel
theorem dL_1851 : decode code 1851 = .ok (.invokevirtual 166, 3) := by decide +kernel
theorem dL_1854 : decode code 1854 = .ok (.aload_n 2, 1) := by decide +kernel
theorem dL_1855 : decode code 1855 = .ok (.aload_n 0, 1) := by decide +kernel
theorem dL_1856 : decode code 1856 = .ok (.iload_n 3, 1) := by decide +kernel
theorem dL_1857 : decode code 1857 = .ok (.iconst 1, 1) := by decide +kernel
theorem dL_1858 : decode code 1858 = .ok (.iadd, 1) := by decide +kernel
theorem dL_1859 : decode code 1859 = .ok (.iaload, 1) := by decide +kernel
theorem dL_1860 : decode code 1860 = .ok (.aload_n 0, 1) := by decide +kernel
theorem dL_1861 : decode code 1861 = .ok (.iload_n 3, 1) := by decide +kernel
theorem dL_1862 : decode code 1862 = .ok (.iconst 2, 1) := by decide +kernel
theorem dL_1863 : decode code 1863 = .ok (.iadd, 1) := by decide +kernel
theorem dL_1864 : decode code 1864 = .ok (.iaload, 1) := by decide +kernel
theorem dL_1865 : decode code 1865 = .ok (.aload_n 0, 1) := by decide +kernel
theorem dL_1866 : decode code 1866 = .ok (.iload_n 3, 1) := by decide +kernel
theorem dL_1867 : decode code 1867 = .ok (.iconst 3, 1) := by decide +kernel
theorem dL_1868 : decode code 1868 = .ok (.iadd, 1) := by decide +kernel
theorem dL_1869 : decode code 1869 = .ok (.iaload, 1) := by decide +kernel
theorem dL_1870 : decode code 1870 = .ok (.invokevirtual 169, 3) := by decide +kernel
theorem dL_1873 : decode code 1873 = .ok (.if_icmp .eq 324, 3) := by decide +kernel
theorem dL_1878 : decode code 1878 = .ok (.aload_n 1, 1) := by decide +kernel
theorem dL_1879 : decode code 1879 = .ok (.aload_n 0, 1) := by decide +kernel
theorem dL_1880 : decode code 1880 = .ok (.iload_n 3, 1) := by decide +kernel
theorem dL_1881 : decode code 1881 = .ok (.iconst 1, 1) := by decide +kernel
theorem dL_1882 : decode code 1882 = .ok (.iadd, 1) := by decide +kernel
theorem dL_1883 : decode code 1883 = .ok (.iaload, 1) := by decide +kernel
theorem dL_1884 : decode code 1884 = .ok (.aload_n 0, 1) := by decide +kernel
theorem dL_1885 : decode code 1885 = .ok (.iload_n 3, 1) := by decide +kernel
theorem dL_1886 : decode code 1886 = .ok (.iconst 2, 1) := by decide +kernel
theorem dL_1887 : decode code 1887 = .ok (.iadd, 1) := by decide +kernel
theorem dL_1888 : decode code 1888 = .ok (.iaload, 1) := by decide +kernel
theorem dL_1889 : decode code 1889 = .ok (.invokevirtual 170, 3) := by decide +kernel
theorem dL_1892 : decode code 1892 = .ok (.aload_n 2, 1) := by decide +kernel
theorem dL_1893 : decode code 1893 = .ok (.aload_n 0, 1) := by decide +kernel
theorem dL_1894 : decode code 1894 = .ok (.iload_n 3, 1) := by decide +kernel
theorem dL_1895 : decode code 1895 = .ok (.iconst 1, 1) := by decide +kernel
theorem dL_1896 : decode code 1896 = .ok (.iadd, 1) := by decide +kernel
theorem dL_1897 : decode code 1897 = .ok (.iaload, 1) := by decide +kernel
theorem dL_1898 : decode code 1898 = .ok (.aload_n 0, 1) := by decide +kernel
theorem dL_1899 : decode code 1899 = .ok (.iload_n 3, 1) := by decide +kernel
theorem dL_1900 : decode code 1900 = .ok (.iconst 2, 1) := by decide +kernel
theorem dL_1901 : decode code 1901 = .ok (.iadd, 1) := by decide +kernel
theorem dL_1902 : decode code 1902 = .ok (.iaload, 1) := by decide +kernel
theorem dL_1903 : decode code 1903 = .ok (.invokevirtual 173, 3) := by decide +kernel
theorem dL_1906 : decode code 1906 = .ok (.if_icmp .eq 291, 3) := by decide +kernel
theorem dL_1911 : decode code 1911 = .ok (.aload_n 1, 1) := by decide +kernel
theorem dL_1912 : decode code 1912 = .ok (.aload_n 0, 1) := by decide +kernel
theorem dL_1913 : decode code 1913 = .ok (.iload_n 3, 1) := by decide +kernel
theorem dL_1914 : decode code 1914 = .ok (.iconst 1, 1) := by decide +kernel
theorem dL_1915 : decode code 1915 = .ok (.iadd, 1) := by decide +kernel
theorem dL_1916 : decode code 1916 = .ok (.iaload, 1) := by decide +kernel
theorem dL_1917 : decode code 1917 = .ok (.invokevirtual 174, 3) := by decide +kernel
theorem dL_1920 : decode code 1920 = .ok (.aload_n 2, 1) := by decide +kernel
theorem dL_1921 : decode code 1921 = .ok (.aload_n 0, 1) := by decide +kernel
theorem dL_1922 : decode code 1922 = .ok (.iload_n 3, 1) := by decide +kernel
theorem dL_1923 : decode code 1923 = .ok (.iconst 1, 1) := by decide +kernel
theorem dL_1924 : decode code 1924 = .ok (.iadd, 1) := by decide +kernel
theorem dL_1925 : decode code 1925 = .ok (.iaload, 1) := by decide +kernel
theorem dL_1926 : decode code 1926 = .ok (.invokevirtual 177, 3) := by decide +kernel
theorem dL_1929 : decode code 1929 = .ok (.if_icmp .eq 268, 3) := by decide +kernel
theorem dL_1934 : decode code 1934 = .ok (.aload_n 1, 1) := by decide +kernel
theorem dL_1935 : decode code 1935 = .ok (.aload_n 0, 1) := by decide +kernel
theorem dL_1936 : decode code 1936 = .ok (.iload_n 3, 1) := by decide +kernel
theorem dL_1937 : decode code 1937 = .ok (.iconst 1, 1) := by decide +kernel
theorem dL_1938 : decode code 1938 = .ok (.iadd, 1) := by decide +kernel
theorem dL_1939 : decode code 1939 = .ok (.iaload, 1) := by decide +kernel
theorem dL_1940 : decode code 1940 = .ok (.invokevirtual 178, 3) := by decide +kernel
theorem dL_1943 : decode code 1943 = .ok (.aload_n 2, 1) := by decide +kernel
theorem dL_1944 : decode code 1944 = .ok (.aload_n 0, 1) := by decide +kernel
theorem dL_1945 : decode code 1945 = .ok (.iload_n 3, 1) := by decide +kernel
theorem dL_1946 : decode code 1946 = .ok (.iconst 1, 1) := by decide +kernel
theorem dL_1947 : decode code 1947 = .ok (.iadd, 1) := by decide +kernel
theorem dL_1948 : decode code 1948 = .ok (.iaload, 1) := by decide +kernel
theorem dL_1949 : decode code 1949 = .ok (.invokevirtual 181, 3) := by decide +kernel
theorem dL_1952 : decode code 1952 = .ok (.if_icmp .eq 245, 3) := by decide +kernel
theorem dL_1957 : decode code 1957 = .ok (.aload_n 1, 1) := by decide +kernel
theorem dL_1958 : decode code 1958 = .ok (.invokevirtual 182, 3) := by decide +kernel
theorem dL_1961 : decode code 1961 = .ok (.aload_n 2, 1) := by decide +kernel
theorem dL_1962 : decode code 1962 = .ok (.invokevirtual 185, 3) := by decide +kernel
theorem dL_1965 : decode code 1965 = .ok (.if_icmp .eq 232, 3) := by decide +kernel
theorem dL_1970 : decode code 1970 = .ok (.aload_n 1, 1) := by decide +kernel
theorem dL_1971 : decode code 1971 = .ok (.aload_n 0, 1) := by decide +kernel
theorem dL_1972 : decode code 1972 = .ok (.iload_n 3, 1) := by decide +kernel
theorem dL_1973 : decode code 1973 = .ok (.iconst 1, 1) := by decide +kernel
theorem dL_1974 : decode code 1974 = .ok (.iadd, 1) := by decide +kernel
theorem dL_1975 : decode code 1975 = .ok (.iaload, 1) := by decide +kernel
theorem dL_1976 : decode code 1976 = .ok (.aload_n 0, 1) := by decide +kernel
theorem dL_1977 : decode code 1977 = .ok (.iload_n 3, 1) := by decide +kernel
theorem dL_1978 : decode code 1978 = .ok (.iconst 2, 1) := by decide +kernel
theorem dL_1979 : decode code 1979 = .ok (.iadd, 1) := by decide +kernel
theorem dL_1980 : decode code 1980 = .ok (.iaload, 1) := by decide +kernel
theorem dL_1981 : decode code 1981 = .ok (.aload_n 0, 1) := by decide +kernel
theorem dL_1982 : decode code 1982 = .ok (.iload_n 3, 1) := by decide +kernel
theorem dL_1983 : decode code 1983 = .ok (.iconst 3, 1) := by decide +kernel
theorem dL_1984 : decode code 1984 = .ok (.iadd, 1) := by decide +kernel
theorem dL_1985 : decode code 1985 = .ok (.iaload, 1) := by decide +kernel
theorem dL_1986 : decode code 1986 = .ok (.aload_n 0, 1) := by decide +kernel
theorem dL_1987 : decode code 1987 = .ok (.iload_n 3, 1) := by decide +kernel
theorem dL_1988 : decode code 1988 = .ok (.iconst 4, 1) := by decide +kernel
theorem dL_1989 : decode code 1989 = .ok (.iadd, 1) := by decide +kernel
theorem dL_1990 : decode code 1990 = .ok (.iaload, 1) := by decide +kernel
theorem dL_1991 : decode code 1991 = .ok (.aload_n 0, 1) := by decide +kernel
theorem dL_1992 : decode code 1992 = .ok (.iload_n 3, 1) := by decide +kernel
theorem dL_1993 : decode code 1993 = .ok (.iconst 5, 1) := by decide +kernel
theorem dL_1994 : decode code 1994 = .ok (.iadd, 1) := by decide +kernel
theorem dL_1995 : decode code 1995 = .ok (.iaload, 1) := by decide +kernel
theorem dL_1996 : decode code 1996 = .ok (.aload_n 0, 1) := by decide +kernel
theorem dL_1997 : decode code 1997 = .ok (.iload_n 3, 1) := by decide +kernel
theorem dL_1998 : decode code 1998 = .ok (.bipush 6, 2) := by decide +kernel
theorem dL_2000 : decode code 2000 = .ok (.iadd, 1) := by decide +kernel
theorem dL_2001 : decode code 2001 = .ok (.iaload, 1) := by decide +kernel
theorem dL_2002 : decode code 2002 = .ok (.aload_n 0, 1) := by decide +kernel
theorem dL_2003 : decode code 2003 = .ok (.iload_n 3, 1) := by decide +kernel
theorem dL_2004 : decode code 2004 = .ok (.bipush 7, 2) := by decide +kernel
theorem dL_2006 : decode code 2006 = .ok (.iadd, 1) := by decide +kernel
theorem dL_2007 : decode code 2007 = .ok (.iaload, 1) := by decide +kernel
theorem dL_2008 : decode code 2008 = .ok (.aload_n 0, 1) := by decide +kernel
theorem dL_2009 : decode code 2009 = .ok (.iload_n 3, 1) := by decide +kernel
theorem dL_2010 : decode code 2010 = .ok (.bipush 8, 2) := by decide +kernel
theorem dL_2012 : decode code 2012 = .ok (.iadd, 1) := by decide +kernel
theorem dL_2013 : decode code 2013 = .ok (.iaload, 1) := by decide +kernel
theorem dL_2014 : decode code 2014 = .ok (.invokevirtual 186, 3) := by decide +kernel
theorem dL_2017 : decode code 2017 = .ok (.aload_n 2, 1) := by decide +kernel
theorem dL_2018 : decode code 2018 = .ok (.aload_n 0, 1) := by decide +kernel
theorem dL_2019 : decode code 2019 = .ok (.iload_n 3, 1) := by decide +kernel
theorem dL_2020 : decode code 2020 = .ok (.iconst 1, 1) := by decide +kernel
theorem dL_2021 : decode code 2021 = .ok (.iadd, 1) := by decide +kernel
theorem dL_2022 : decode code 2022 = .ok (.iaload, 1) := by decide +kernel
theorem dL_2023 : decode code 2023 = .ok (.aload_n 0, 1) := by decide +kernel
theorem dL_2024 : decode code 2024 = .ok (.iload_n 3, 1) := by decide +kernel
theorem dL_2025 : decode code 2025 = .ok (.iconst 2, 1) := by decide +kernel
theorem dL_2026 : decode code 2026 = .ok (.iadd, 1) := by decide +kernel
theorem dL_2027 : decode code 2027 = .ok (.iaload, 1) := by decide +kernel
theorem dL_2028 : decode code 2028 = .ok (.aload_n 0, 1) := by decide +kernel
theorem dL_2029 : decode code 2029 = .ok (.iload_n 3, 1) := by decide +kernel
theorem dL_2030 : decode code 2030 = .ok (.iconst 3, 1) := by decide +kernel
theorem dL_2031 : decode code 2031 = .ok (.iadd, 1) := by decide +kernel
theorem dL_2032 : decode code 2032 = .ok (.iaload, 1) := by decide +kernel
theorem dL_2033 : decode code 2033 = .ok (.aload_n 0, 1) := by decide +kernel
theorem dL_2034 : decode code 2034 = .ok (.iload_n 3, 1) := by decide +kernel
theorem dL_2035 : decode code 2035 = .ok (.iconst 4, 1) := by decide +kernel
theorem dL_2036 : decode code 2036 = .ok (.iadd, 1) := by decide +kernel
theorem dL_2037 : decode code 2037 = .ok (.iaload, 1) := by decide +kernel
theorem dL_2038 : decode code 2038 = .ok (.aload_n 0, 1) := by decide +kernel
theorem dL_2039 : decode code 2039 = .ok (.iload_n 3, 1) := by decide +kernel
theorem dL_2040 : decode code 2040 = .ok (.iconst 5, 1) := by decide +kernel
theorem dL_2041 : decode code 2041 = .ok (.iadd, 1) := by decide +kernel
theorem dL_2042 : decode code 2042 = .ok (.iaload, 1) := by decide +kernel
theorem dL_2043 : decode code 2043 = .ok (.aload_n 0, 1) := by decide +kernel
theorem dL_2044 : decode code 2044 = .ok (.iload_n 3, 1) := by decide +kernel
theorem dL_2045 : decode code 2045 = .ok (.bipush 6, 2) := by decide +kernel
theorem dL_2047 : decode code 2047 = .ok (.iadd, 1) := by decide +kernel
theorem dL_2048 : decode code 2048 = .ok (.iaload, 1) := by decide +kernel
theorem dL_2049 : decode code 2049 = .ok (.aload_n 0, 1) := by decide +kernel
theorem dL_2050 : decode code 2050 = .ok (.iload_n 3, 1) := by decide +kernel
theorem dL_2051 : decode code 2051 = .ok (.bipush 7, 2) := by decide +kernel
theorem dL_2053 : decode code 2053 = .ok (.iadd, 1) := by decide +kernel
theorem dL_2054 : decode code 2054 = .ok (.iaload, 1) := by decide +kernel
theorem dL_2055 : decode code 2055 = .ok (.aload_n 0, 1) := by decide +kernel
theorem dL_2056 : decode code 2056 = .ok (.iload_n 3, 1) := by decide +kernel
theorem dL_2057 : decode code 2057 = .ok (.bipush 8, 2) := by decide +kernel
theorem dL_2059 : decode code 2059 = .ok (.iadd, 1) := by decide +kernel
theorem dL_2060 : decode code 2060 = .ok (.iaload, 1) := by decide +kernel
theorem dL_2061 : decode code 2061 = .ok (.invokevirtual 190, 3) := by decide +kernel
theorem dL_2064 : decode code 2064 = .ok (.if_icmp .eq 133, 3) := by decide +kernel
theorem dL_2069 : decode code 2069 = .ok (.aload_n 1, 1) := by decide +kernel
theorem dL_2070 : decode code 2070 = .ok (.invokevirtual 191, 3) := by decide +kernel
theorem dL_2073 : decode code 2073 = .ok (.aload_n 2, 1) := by decide +kernel
theorem dL_2074 : decode code 2074 = .ok (.invokevirtual 194, 3) := by decide +kernel
theorem dL_2077 : decode code 2077 = .ok (.if_icmp .eq 120, 3) := by decide +kernel
theorem dL_2082 : decode code 2082 = .ok (.aload_n 1, 1) := by decide +kernel
theorem dL_2083 : decode code 2083 = .ok (.aload_n 0, 1) := by decide +kernel
theorem dL_2084 : decode code 2084 = .ok (.iload_n 3, 1) := by decide +kernel
theorem dL_2085 : decode code 2085 = .ok (.iconst 1, 1) := by decide +kernel
theorem dL_2086 : decode code 2086 = .ok (.iadd, 1) := by decide +kernel
theorem dL_2087 : decode code 2087 = .ok (.iaload, 1) := by decide +kernel
theorem dL_2088 : decode code 2088 = .ok (.invokevirtual 195, 3) := by decide +kernel
theorem dL_2091 : decode code 2091 = .ok (.aload_n 2, 1) := by decide +kernel
theorem dL_2092 : decode code 2092 = .ok (.aload_n 0, 1) := by decide +kernel
theorem dL_2093 : decode code 2093 = .ok (.iload_n 3, 1) := by decide +kernel
theorem dL_2094 : decode code 2094 = .ok (.iconst 1, 1) := by decide +kernel
theorem dL_2095 : decode code 2095 = .ok (.iadd, 1) := by decide +kernel
theorem dL_2096 : decode code 2096 = .ok (.iaload, 1) := by decide +kernel
theorem dL_2097 : decode code 2097 = .ok (.invokevirtual 198, 3) := by decide +kernel
theorem dL_2100 : decode code 2100 = .ok (.if_icmp .eq 97, 3) := by decide +kernel
theorem dL_2105 : decode code 2105 = .ok (.aload_n 1, 1) := by decide +kernel
theorem dL_2106 : decode code 2106 = .ok (.aload_n 0, 1) := by decide +kernel
theorem dL_2107 : decode code 2107 = .ok (.iload_n 3, 1) := by decide +kernel
theorem dL_2108 : decode code 2108 = .ok (.iconst 1, 1) := by decide +kernel
theorem dL_2109 : decode code 2109 = .ok (.iadd, 1) := by decide +kernel
theorem dL_2110 : decode code 2110 = .ok (.iaload, 1) := by decide +kernel
theorem dL_2111 : decode code 2111 = .ok (.invokevirtual 199, 3) := by decide +kernel
theorem dL_2114 : decode code 2114 = .ok (.aload_n 2, 1) := by decide +kernel
theorem dL_2115 : decode code 2115 = .ok (.aload_n 0, 1) := by decide +kernel
theorem dL_2116 : decode code 2116 = .ok (.iload_n 3, 1) := by decide +kernel
theorem dL_2117 : decode code 2117 = .ok (.iconst 1, 1) := by decide +kernel
theorem dL_2118 : decode code 2118 = .ok (.iadd, 1) := by decide +kernel
theorem dL_2119 : decode code 2119 = .ok (.iaload, 1) := by decide +kernel
theorem dL_2120 : decode code 2120 = .ok (.invokevirtual 202, 3) := by decide +kernel
theorem dL_2123 : decode code 2123 = .ok (.if_icmp .eq 74, 3) := by decide +kernel
theorem dL_2128 : decode code 2128 = .ok (.aload_n 1, 1) := by decide +kernel
theorem dL_2129 : decode code 2129 = .ok (.aload_n 0, 1) := by decide +kernel
theorem dL_2130 : decode code 2130 = .ok (.iload_n 3, 1) := by decide +kernel
theorem dL_2131 : decode code 2131 = .ok (.iconst 1, 1) := by decide +kernel
theorem dL_2132 : decode code 2132 = .ok (.iadd, 1) := by decide +kernel
theorem dL_2133 : decode code 2133 = .ok (.iaload, 1) := by decide +kernel
theorem dL_2134 : decode code 2134 = .ok (.aload_n 0, 1) := by decide +kernel
theorem dL_2135 : decode code 2135 = .ok (.iload_n 3, 1) := by decide +kernel
theorem dL_2136 : decode code 2136 = .ok (.iconst 2, 1) := by decide +kernel
theorem dL_2137 : decode code 2137 = .ok (.iadd, 1) := by decide +kernel
theorem dL_2138 : decode code 2138 = .ok (.iaload, 1) := by decide +kernel
theorem dL_2139 : decode code 2139 = .ok (.aload_n 0, 1) := by decide +kernel
theorem dL_2140 : decode code 2140 = .ok (.iload_n 3, 1) := by decide +kernel
theorem dL_2141 : decode code 2141 = .ok (.iconst 3, 1) := by decide +kernel
theorem dL_2142 : decode code 2142 = .ok (.iadd, 1) := by decide +kernel
theorem dL_2143 : decode code 2143 = .ok (.iaload, 1) := by decide +kernel
theorem dL_2144 : decode code 2144 = .ok (.invokevirtual 203, 3) := by decide +kernel
theorem dL_2147 : decode code 2147 = .ok (.aload_n 2, 1) := by decide +kernel
theorem dL_2148 : decode code 2148 = .ok (.aload_n 0, 1) := by decide +kernel
theorem dL_2149 : decode code 2149 = .ok (.iload_n 3, 1) := by decide +kernel
theorem dL_2150 : decode code 2150 = .ok (.iconst 1, 1) := by decide +kernel
theorem dL_2151 : decode code 2151 = .ok (.iadd, 1) := by decide +kernel
theorem dL_2152 : decode code 2152 = .ok (.iaload, 1) := by decide +kernel
theorem dL_2153 : decode code 2153 = .ok (.aload_n 0, 1) := by decide +kernel
theorem dL_2154 : decode code 2154 = .ok (.iload_n 3, 1) := by decide +kernel
theorem dL_2155 : decode code 2155 = .ok (.iconst 2, 1) := by decide +kernel
theorem dL_2156 : decode code 2156 = .ok (.iadd, 1) := by decide +kernel
theorem dL_2157 : decode code 2157 = .ok (.iaload, 1) := by decide +kernel
theorem dL_2158 : decode code 2158 = .ok (.aload_n 0, 1) := by decide +kernel
theorem dL_2159 : decode code 2159 = .ok (.iload_n 3, 1) := by decide +kernel
theorem dL_2160 : decode code 2160 = .ok (.iconst 3, 1) := by decide +kernel
theorem dL_2161 : decode code 2161 = .ok (.iadd, 1) := by decide +kernel
theorem dL_2162 : decode code 2162 = .ok (.iaload, 1) := by decide +kernel
theorem dL_2163 : decode code 2163 = .ok (.invokevirtual 206, 3) := by decide +kernel
theorem dL_2166 : decode code 2166 = .ok (.if_icmp .eq 31, 3) := by decide +kernel
theorem dL_2171 : decode code 2171 = .ok (.aload_n 1, 1) := by decide +kernel
theorem dL_2172 : decode code 2172 = .ok (.invokevirtual 207, 3) := by decide +kernel
theorem dL_2175 : decode code 2175 = .ok (.aload_n 2, 1) := by decide +kernel
theorem dL_2176 : decode code 2176 = .ok (.invokevirtual 210, 3) := by decide +kernel
theorem dL_2179 : decode code 2179 = .ok (.if_icmp .eq 18, 3) := by decide +kernel
theorem dL_2184 : decode code 2184 = .ok (.aload_n 1, 1) := by decide +kernel
theorem dL_2185 : decode code 2185 = .ok (.invokevirtual 211, 3) := by decide +kernel
theorem dL_2188 : decode code 2188 = .ok (.aload_n 2, 1) := by decide +kernel
theorem dL_2189 : decode code 2189 = .ok (.invokevirtual 214, 3) := by decide +kernel
theorem dL_2192 : decode code 2192 = .ok (.if_icmp .eq 5, 3) := by decide +kernel
theorem dL_2197 : decode code 2197 = .ok (.iinc 3 9, 3) := by decide +kernel
theorem dL_2200 : decode code 2200 = .ok (.goto (-2182), 3) := by decide +kernel
theorem dL_2203 : decode code 2203 = .ok (.iconst 1, 1) := by decide +kernel
theorem dL_2204 : decode code 2204 = .ok (.ireturn, 1) := by decide +kernel
theorem w_778 : Jvm.Cond.methodLink "PeaTubeLaw" (13 : Nat) ({ cls := "PeaTube", name := "status", desc := "()I" } : Jvm.MethodName) ∈ Gw := gwt_3 159 rfl rfl
theorem w_779 : Jvm.Cond.instanceMethod ({ cls := "PeaTube", name := "status", desc := "()I" } : Jvm.MethodName) ∈ Gw := gwt_3 160 rfl rfl
theorem w_780 : Jvm.Cond.selects "PeaTube" ({ cls := "PeaTube", name := "status", desc := "()I" } : Jvm.MethodName) ({ cls := "PeaTube", name := "status", desc := "()I" } : Jvm.MethodName) ∈ Gw := gwt_3 161 rfl rfl
theorem w_1642 : Jvm.Cond.methodLink "PeaTubeLaw" (17 : Nat) ({ cls := "PeaTubeModel", name := "status", desc := "()I" } : Jvm.MethodName) ∈ Gw := gwt_7 63 rfl rfl
theorem w_1643 : Jvm.Cond.instanceMethod ({ cls := "PeaTubeModel", name := "status", desc := "()I" } : Jvm.MethodName) ∈ Gw := gwt_7 64 rfl rfl
theorem w_1644 : Jvm.Cond.selects "PeaTubeModel" ({ cls := "PeaTubeModel", name := "status", desc := "()I" } : Jvm.MethodName) ({ cls := "PeaTubeModel", name := "status", desc := "()I" } : Jvm.MethodName) ∈ Gw := gwt_7 65 rfl rfl
theorem w_782 : Jvm.Cond.methodLink "PeaTubeLaw" (18 : Nat) ({ cls := "PeaTube", name := "top", desc := "()J" } : Jvm.MethodName) ∈ Gw := gwt_3 163 rfl rfl
theorem w_783 : Jvm.Cond.instanceMethod ({ cls := "PeaTube", name := "top", desc := "()J" } : Jvm.MethodName) ∈ Gw := gwt_3 164 rfl rfl
theorem w_784 : Jvm.Cond.selects "PeaTube" ({ cls := "PeaTube", name := "top", desc := "()J" } : Jvm.MethodName) ({ cls := "PeaTube", name := "top", desc := "()J" } : Jvm.MethodName) ∈ Gw := gwt_3 165 rfl rfl
theorem w_1646 : Jvm.Cond.methodLink "PeaTubeLaw" (22 : Nat) ({ cls := "PeaTubeModel", name := "top", desc := "()J" } : Jvm.MethodName) ∈ Gw := gwt_7 67 rfl rfl
theorem w_1647 : Jvm.Cond.instanceMethod ({ cls := "PeaTubeModel", name := "top", desc := "()J" } : Jvm.MethodName) ∈ Gw := gwt_7 68 rfl rfl
theorem w_1648 : Jvm.Cond.selects "PeaTubeModel" ({ cls := "PeaTubeModel", name := "top", desc := "()J" } : Jvm.MethodName) ({ cls := "PeaTubeModel", name := "top", desc := "()J" } : Jvm.MethodName) ∈ Gw := gwt_7 69 rfl rfl
theorem w_786 : Jvm.Cond.methodLink "PeaTubeLaw" (23 : Nat) ({ cls := "PeaTube", name := "bottom", desc := "()J" } : Jvm.MethodName) ∈ Gw := gwt_3 167 rfl rfl
theorem w_787 : Jvm.Cond.instanceMethod ({ cls := "PeaTube", name := "bottom", desc := "()J" } : Jvm.MethodName) ∈ Gw := gwt_3 168 rfl rfl
theorem w_788 : Jvm.Cond.selects "PeaTube" ({ cls := "PeaTube", name := "bottom", desc := "()J" } : Jvm.MethodName) ({ cls := "PeaTube", name := "bottom", desc := "()J" } : Jvm.MethodName) ∈ Gw := gwt_3 169 rfl rfl
theorem w_1650 : Jvm.Cond.methodLink "PeaTubeLaw" (26 : Nat) ({ cls := "PeaTubeModel", name := "bottom", desc := "()J" } : Jvm.MethodName) ∈ Gw := gwt_7 71 rfl rfl
theorem w_1651 : Jvm.Cond.instanceMethod ({ cls := "PeaTubeModel", name := "bottom", desc := "()J" } : Jvm.MethodName) ∈ Gw := gwt_7 72 rfl rfl
theorem w_1652 : Jvm.Cond.selects "PeaTubeModel" ({ cls := "PeaTubeModel", name := "bottom", desc := "()J" } : Jvm.MethodName) ({ cls := "PeaTubeModel", name := "bottom", desc := "()J" } : Jvm.MethodName) ∈ Gw := gwt_7 73 rfl rfl
theorem w_790 : Jvm.Cond.methodLink "PeaTubeLaw" (27 : Nat) ({ cls := "PeaTube", name := "tray", desc := "(III)Z" } : Jvm.MethodName) ∈ Gw := gwt_3 171 rfl rfl
theorem w_791 : Jvm.Cond.instanceMethod ({ cls := "PeaTube", name := "tray", desc := "(III)Z" } : Jvm.MethodName) ∈ Gw := gwt_3 172 rfl rfl
theorem w_792 : Jvm.Cond.selects "PeaTube" ({ cls := "PeaTube", name := "tray", desc := "(III)Z" } : Jvm.MethodName) ({ cls := "PeaTube", name := "tray", desc := "(III)Z" } : Jvm.MethodName) ∈ Gw := gwt_3 173 rfl rfl
theorem w_1654 : Jvm.Cond.methodLink "PeaTubeLaw" (31 : Nat) ({ cls := "PeaTubeModel", name := "tray", desc := "(III)Z" } : Jvm.MethodName) ∈ Gw := gwt_7 75 rfl rfl
theorem w_1655 : Jvm.Cond.instanceMethod ({ cls := "PeaTubeModel", name := "tray", desc := "(III)Z" } : Jvm.MethodName) ∈ Gw := gwt_7 76 rfl rfl
theorem w_1656 : Jvm.Cond.selects "PeaTubeModel" ({ cls := "PeaTubeModel", name := "tray", desc := "(III)Z" } : Jvm.MethodName) ({ cls := "PeaTubeModel", name := "tray", desc := "(III)Z" } : Jvm.MethodName) ∈ Gw := gwt_7 77 rfl rfl
theorem w_2242 : Jvm.Cond.constantLong "PeaTubeLaw" (32 : Nat) (4294967295 : Int64) ∈ Gw := gwt_9 183 rfl rfl
theorem w_815 : Jvm.Cond.methodLink "PeaTubeLaw" (34 : Nat) ({ cls := "PeaTube", name := "write", desc := "(IIJ)Z" } : Jvm.MethodName) ∈ Gw := gwt_3 196 rfl rfl
theorem w_816 : Jvm.Cond.instanceMethod ({ cls := "PeaTube", name := "write", desc := "(IIJ)Z" } : Jvm.MethodName) ∈ Gw := gwt_3 197 rfl rfl
theorem w_817 : Jvm.Cond.selects "PeaTube" ({ cls := "PeaTube", name := "write", desc := "(IIJ)Z" } : Jvm.MethodName) ({ cls := "PeaTube", name := "write", desc := "(IIJ)Z" } : Jvm.MethodName) ∈ Gw := gwt_3 198 rfl rfl
theorem w_1662 : Jvm.Cond.methodLink "PeaTubeLaw" (38 : Nat) ({ cls := "PeaTubeModel", name := "write", desc := "(IIJ)Z" } : Jvm.MethodName) ∈ Gw := gwt_7 83 rfl rfl
theorem w_1663 : Jvm.Cond.instanceMethod ({ cls := "PeaTubeModel", name := "write", desc := "(IIJ)Z" } : Jvm.MethodName) ∈ Gw := gwt_7 84 rfl rfl
theorem w_1664 : Jvm.Cond.selects "PeaTubeModel" ({ cls := "PeaTubeModel", name := "write", desc := "(IIJ)Z" } : Jvm.MethodName) ({ cls := "PeaTubeModel", name := "write", desc := "(IIJ)Z" } : Jvm.MethodName) ∈ Gw := gwt_7 85 rfl rfl
theorem w_832 : Jvm.Cond.methodLink "PeaTubeLaw" (39 : Nat) ({ cls := "PeaTube", name := "read", desc := "(II)J" } : Jvm.MethodName) ∈ Gw := gwt_3 213 rfl rfl
theorem w_833 : Jvm.Cond.instanceMethod ({ cls := "PeaTube", name := "read", desc := "(II)J" } : Jvm.MethodName) ∈ Gw := gwt_3 214 rfl rfl
theorem w_834 : Jvm.Cond.selects "PeaTube" ({ cls := "PeaTube", name := "read", desc := "(II)J" } : Jvm.MethodName) ({ cls := "PeaTube", name := "read", desc := "(II)J" } : Jvm.MethodName) ∈ Gw := gwt_3 215 rfl rfl
theorem w_1677 : Jvm.Cond.methodLink "PeaTubeLaw" (43 : Nat) ({ cls := "PeaTubeModel", name := "read", desc := "(II)J" } : Jvm.MethodName) ∈ Gw := gwt_7 98 rfl rfl
theorem w_1678 : Jvm.Cond.instanceMethod ({ cls := "PeaTubeModel", name := "read", desc := "(II)J" } : Jvm.MethodName) ∈ Gw := gwt_7 99 rfl rfl
theorem w_1679 : Jvm.Cond.selects "PeaTubeModel" ({ cls := "PeaTubeModel", name := "read", desc := "(II)J" } : Jvm.MethodName) ({ cls := "PeaTubeModel", name := "read", desc := "(II)J" } : Jvm.MethodName) ∈ Gw := gwt_7 100 rfl rfl
theorem w_840 : Jvm.Cond.methodLink "PeaTubeLaw" (44 : Nat) ({ cls := "PeaTube", name := "pour", desc := "(IIIII)Z" } : Jvm.MethodName) ∈ Gw := gwt_3 221 rfl rfl
theorem w_841 : Jvm.Cond.instanceMethod ({ cls := "PeaTube", name := "pour", desc := "(IIIII)Z" } : Jvm.MethodName) ∈ Gw := gwt_3 222 rfl rfl
theorem w_842 : Jvm.Cond.selects "PeaTube" ({ cls := "PeaTube", name := "pour", desc := "(IIIII)Z" } : Jvm.MethodName) ({ cls := "PeaTube", name := "pour", desc := "(IIIII)Z" } : Jvm.MethodName) ∈ Gw := gwt_3 223 rfl rfl
theorem w_1682 : Jvm.Cond.methodLink "PeaTubeLaw" (48 : Nat) ({ cls := "PeaTubeModel", name := "pour", desc := "(IIIII)Z" } : Jvm.MethodName) ∈ Gw := gwt_7 103 rfl rfl
theorem w_1683 : Jvm.Cond.instanceMethod ({ cls := "PeaTubeModel", name := "pour", desc := "(IIIII)Z" } : Jvm.MethodName) ∈ Gw := gwt_7 104 rfl rfl
theorem w_1684 : Jvm.Cond.selects "PeaTubeModel" ({ cls := "PeaTubeModel", name := "pour", desc := "(IIIII)Z" } : Jvm.MethodName) ({ cls := "PeaTubeModel", name := "pour", desc := "(IIIII)Z" } : Jvm.MethodName) ∈ Gw := gwt_7 105 rfl rfl
theorem w_847 : Jvm.Cond.methodLink "PeaTubeLaw" (49 : Nat) ({ cls := "PeaTube", name := "feed", desc := "(IIIII)I" } : Jvm.MethodName) ∈ Gw := gwt_3 228 rfl rfl
theorem w_848 : Jvm.Cond.instanceMethod ({ cls := "PeaTube", name := "feed", desc := "(IIIII)I" } : Jvm.MethodName) ∈ Gw := gwt_3 229 rfl rfl
theorem w_849 : Jvm.Cond.selects "PeaTube" ({ cls := "PeaTube", name := "feed", desc := "(IIIII)I" } : Jvm.MethodName) ({ cls := "PeaTube", name := "feed", desc := "(IIIII)I" } : Jvm.MethodName) ∈ Gw := gwt_3 230 rfl rfl
theorem w_1686 : Jvm.Cond.methodLink "PeaTubeLaw" (53 : Nat) ({ cls := "PeaTubeModel", name := "feed", desc := "(IIIII)I" } : Jvm.MethodName) ∈ Gw := gwt_7 107 rfl rfl
theorem w_1687 : Jvm.Cond.instanceMethod ({ cls := "PeaTubeModel", name := "feed", desc := "(IIIII)I" } : Jvm.MethodName) ∈ Gw := gwt_7 108 rfl rfl
theorem w_1688 : Jvm.Cond.selects "PeaTubeModel" ({ cls := "PeaTubeModel", name := "feed", desc := "(IIIII)I" } : Jvm.MethodName) ({ cls := "PeaTubeModel", name := "feed", desc := "(IIIII)I" } : Jvm.MethodName) ∈ Gw := gwt_7 109 rfl rfl
theorem w_855 : Jvm.Cond.methodLink "PeaTubeLaw" (54 : Nat) ({ cls := "PeaTube", name := "tent", desc := "(I)I" } : Jvm.MethodName) ∈ Gw := gwt_3 236 rfl rfl
theorem w_856 : Jvm.Cond.instanceMethod ({ cls := "PeaTube", name := "tent", desc := "(I)I" } : Jvm.MethodName) ∈ Gw := gwt_3 237 rfl rfl
theorem w_857 : Jvm.Cond.selects "PeaTube" ({ cls := "PeaTube", name := "tent", desc := "(I)I" } : Jvm.MethodName) ({ cls := "PeaTube", name := "tent", desc := "(I)I" } : Jvm.MethodName) ∈ Gw := gwt_3 238 rfl rfl
theorem w_1698 : Jvm.Cond.methodLink "PeaTubeLaw" (58 : Nat) ({ cls := "PeaTubeModel", name := "tent", desc := "(I)I" } : Jvm.MethodName) ∈ Gw := gwt_7 119 rfl rfl
theorem w_1699 : Jvm.Cond.instanceMethod ({ cls := "PeaTubeModel", name := "tent", desc := "(I)I" } : Jvm.MethodName) ∈ Gw := gwt_7 120 rfl rfl
theorem w_1700 : Jvm.Cond.selects "PeaTubeModel" ({ cls := "PeaTubeModel", name := "tent", desc := "(I)I" } : Jvm.MethodName) ({ cls := "PeaTubeModel", name := "tent", desc := "(I)I" } : Jvm.MethodName) ∈ Gw := gwt_7 121 rfl rfl
theorem w_977 : Jvm.Cond.methodLink "PeaTubeLaw" (59 : Nat) ({ cls := "PeaTube", name := "round", desc := "(I)I" } : Jvm.MethodName) ∈ Gw := gwt_4 118 rfl rfl
theorem w_978 : Jvm.Cond.instanceMethod ({ cls := "PeaTube", name := "round", desc := "(I)I" } : Jvm.MethodName) ∈ Gw := gwt_4 119 rfl rfl
theorem w_979 : Jvm.Cond.selects "PeaTube" ({ cls := "PeaTube", name := "round", desc := "(I)I" } : Jvm.MethodName) ({ cls := "PeaTube", name := "round", desc := "(I)I" } : Jvm.MethodName) ∈ Gw := gwt_4 120 rfl rfl
theorem w_1890 : Jvm.Cond.methodLink "PeaTubeLaw" (62 : Nat) ({ cls := "PeaTubeModel", name := "round", desc := "(I)I" } : Jvm.MethodName) ∈ Gw := gwt_8 71 rfl rfl
theorem w_1891 : Jvm.Cond.instanceMethod ({ cls := "PeaTubeModel", name := "round", desc := "(I)I" } : Jvm.MethodName) ∈ Gw := gwt_8 72 rfl rfl
theorem w_1892 : Jvm.Cond.selects "PeaTubeModel" ({ cls := "PeaTubeModel", name := "round", desc := "(I)I" } : Jvm.MethodName) ({ cls := "PeaTubeModel", name := "round", desc := "(I)I" } : Jvm.MethodName) ∈ Gw := gwt_8 73 rfl rfl
theorem w_1029 : Jvm.Cond.methodLink "PeaTubeLaw" (63 : Nat) ({ cls := "PeaTube", name := "fault", desc := "(I)I" } : Jvm.MethodName) ∈ Gw := gwt_4 170 rfl rfl
theorem w_1030 : Jvm.Cond.instanceMethod ({ cls := "PeaTube", name := "fault", desc := "(I)I" } : Jvm.MethodName) ∈ Gw := gwt_4 171 rfl rfl
theorem w_1031 : Jvm.Cond.selects "PeaTube" ({ cls := "PeaTube", name := "fault", desc := "(I)I" } : Jvm.MethodName) ({ cls := "PeaTube", name := "fault", desc := "(I)I" } : Jvm.MethodName) ∈ Gw := gwt_4 172 rfl rfl
theorem w_1694 : Jvm.Cond.methodLink "PeaTubeLaw" (66 : Nat) ({ cls := "PeaTubeModel", name := "fault", desc := "(I)I" } : Jvm.MethodName) ∈ Gw := gwt_7 115 rfl rfl
theorem w_1695 : Jvm.Cond.instanceMethod ({ cls := "PeaTubeModel", name := "fault", desc := "(I)I" } : Jvm.MethodName) ∈ Gw := gwt_7 116 rfl rfl
theorem w_1696 : Jvm.Cond.selects "PeaTubeModel" ({ cls := "PeaTubeModel", name := "fault", desc := "(I)I" } : Jvm.MethodName) ({ cls := "PeaTubeModel", name := "fault", desc := "(I)I" } : Jvm.MethodName) ∈ Gw := gwt_7 117 rfl rfl
theorem w_1033 : Jvm.Cond.methodLink "PeaTubeLaw" (67 : Nat) ({ cls := "PeaTube", name := "many", desc := "(I)I" } : Jvm.MethodName) ∈ Gw := gwt_4 174 rfl rfl
theorem w_1034 : Jvm.Cond.instanceMethod ({ cls := "PeaTube", name := "many", desc := "(I)I" } : Jvm.MethodName) ∈ Gw := gwt_4 175 rfl rfl
theorem w_1035 : Jvm.Cond.selects "PeaTube" ({ cls := "PeaTube", name := "many", desc := "(I)I" } : Jvm.MethodName) ({ cls := "PeaTube", name := "many", desc := "(I)I" } : Jvm.MethodName) ∈ Gw := gwt_4 176 rfl rfl
theorem w_1914 : Jvm.Cond.methodLink "PeaTubeLaw" (70 : Nat) ({ cls := "PeaTubeModel", name := "many", desc := "(I)I" } : Jvm.MethodName) ∈ Gw := gwt_8 95 rfl rfl
theorem w_1915 : Jvm.Cond.instanceMethod ({ cls := "PeaTubeModel", name := "many", desc := "(I)I" } : Jvm.MethodName) ∈ Gw := gwt_8 96 rfl rfl
theorem w_1916 : Jvm.Cond.selects "PeaTubeModel" ({ cls := "PeaTubeModel", name := "many", desc := "(I)I" } : Jvm.MethodName) ({ cls := "PeaTubeModel", name := "many", desc := "(I)I" } : Jvm.MethodName) ∈ Gw := gwt_8 97 rfl rfl
theorem w_1037 : Jvm.Cond.methodLink "PeaTubeLaw" (71 : Nat) ({ cls := "PeaTube", name := "ring", desc := "(II)I" } : Jvm.MethodName) ∈ Gw := gwt_4 178 rfl rfl
theorem w_1038 : Jvm.Cond.instanceMethod ({ cls := "PeaTube", name := "ring", desc := "(II)I" } : Jvm.MethodName) ∈ Gw := gwt_4 179 rfl rfl
theorem w_1039 : Jvm.Cond.selects "PeaTube" ({ cls := "PeaTube", name := "ring", desc := "(II)I" } : Jvm.MethodName) ({ cls := "PeaTube", name := "ring", desc := "(II)I" } : Jvm.MethodName) ∈ Gw := gwt_4 180 rfl rfl
theorem w_1923 : Jvm.Cond.methodLink "PeaTubeLaw" (75 : Nat) ({ cls := "PeaTubeModel", name := "ring", desc := "(II)I" } : Jvm.MethodName) ∈ Gw := gwt_8 104 rfl rfl
theorem w_1924 : Jvm.Cond.instanceMethod ({ cls := "PeaTubeModel", name := "ring", desc := "(II)I" } : Jvm.MethodName) ∈ Gw := gwt_8 105 rfl rfl
theorem w_1925 : Jvm.Cond.selects "PeaTubeModel" ({ cls := "PeaTubeModel", name := "ring", desc := "(II)I" } : Jvm.MethodName) ({ cls := "PeaTubeModel", name := "ring", desc := "(II)I" } : Jvm.MethodName) ∈ Gw := gwt_8 106 rfl rfl
theorem w_1041 : Jvm.Cond.methodLink "PeaTubeLaw" (76 : Nat) ({ cls := "PeaTube", name := "pea", desc := "(II)I" } : Jvm.MethodName) ∈ Gw := gwt_4 182 rfl rfl
theorem w_1042 : Jvm.Cond.instanceMethod ({ cls := "PeaTube", name := "pea", desc := "(II)I" } : Jvm.MethodName) ∈ Gw := gwt_4 183 rfl rfl
theorem w_1043 : Jvm.Cond.selects "PeaTube" ({ cls := "PeaTube", name := "pea", desc := "(II)I" } : Jvm.MethodName) ({ cls := "PeaTube", name := "pea", desc := "(II)I" } : Jvm.MethodName) ∈ Gw := gwt_4 184 rfl rfl
theorem w_1927 : Jvm.Cond.methodLink "PeaTubeLaw" (79 : Nat) ({ cls := "PeaTubeModel", name := "pea", desc := "(II)I" } : Jvm.MethodName) ∈ Gw := gwt_8 108 rfl rfl
theorem w_1928 : Jvm.Cond.instanceMethod ({ cls := "PeaTubeModel", name := "pea", desc := "(II)I" } : Jvm.MethodName) ∈ Gw := gwt_8 109 rfl rfl
theorem w_1929 : Jvm.Cond.selects "PeaTubeModel" ({ cls := "PeaTubeModel", name := "pea", desc := "(II)I" } : Jvm.MethodName) ({ cls := "PeaTubeModel", name := "pea", desc := "(II)I" } : Jvm.MethodName) ∈ Gw := gwt_8 110 rfl rfl
theorem w_1058 : Jvm.Cond.methodLink "PeaTubeLaw" (80 : Nat) ({ cls := "PeaTube", name := "shooter", desc := "(II)I" } : Jvm.MethodName) ∈ Gw := gwt_4 199 rfl rfl
theorem w_1059 : Jvm.Cond.instanceMethod ({ cls := "PeaTube", name := "shooter", desc := "(II)I" } : Jvm.MethodName) ∈ Gw := gwt_4 200 rfl rfl
theorem w_1060 : Jvm.Cond.selects "PeaTube" ({ cls := "PeaTube", name := "shooter", desc := "(II)I" } : Jvm.MethodName) ({ cls := "PeaTube", name := "shooter", desc := "(II)I" } : Jvm.MethodName) ∈ Gw := gwt_4 201 rfl rfl
theorem w_1939 : Jvm.Cond.methodLink "PeaTubeLaw" (83 : Nat) ({ cls := "PeaTubeModel", name := "shooter", desc := "(II)I" } : Jvm.MethodName) ∈ Gw := gwt_8 120 rfl rfl
theorem w_1940 : Jvm.Cond.instanceMethod ({ cls := "PeaTubeModel", name := "shooter", desc := "(II)I" } : Jvm.MethodName) ∈ Gw := gwt_8 121 rfl rfl
theorem w_1941 : Jvm.Cond.selects "PeaTubeModel" ({ cls := "PeaTubeModel", name := "shooter", desc := "(II)I" } : Jvm.MethodName) ({ cls := "PeaTubeModel", name := "shooter", desc := "(II)I" } : Jvm.MethodName) ∈ Gw := gwt_8 122 rfl rfl
theorem w_1070 : Jvm.Cond.methodLink "PeaTubeLaw" (84 : Nat) ({ cls := "PeaTube", name := "pace", desc := "(III)I" } : Jvm.MethodName) ∈ Gw := gwt_4 211 rfl rfl
theorem w_1071 : Jvm.Cond.instanceMethod ({ cls := "PeaTube", name := "pace", desc := "(III)I" } : Jvm.MethodName) ∈ Gw := gwt_4 212 rfl rfl
theorem w_1072 : Jvm.Cond.selects "PeaTube" ({ cls := "PeaTube", name := "pace", desc := "(III)I" } : Jvm.MethodName) ({ cls := "PeaTube", name := "pace", desc := "(III)I" } : Jvm.MethodName) ∈ Gw := gwt_4 213 rfl rfl
theorem w_1958 : Jvm.Cond.methodLink "PeaTubeLaw" (88 : Nat) ({ cls := "PeaTubeModel", name := "pace", desc := "(III)I" } : Jvm.MethodName) ∈ Gw := gwt_8 139 rfl rfl
theorem w_1959 : Jvm.Cond.instanceMethod ({ cls := "PeaTubeModel", name := "pace", desc := "(III)I" } : Jvm.MethodName) ∈ Gw := gwt_8 140 rfl rfl
theorem w_1960 : Jvm.Cond.selects "PeaTubeModel" ({ cls := "PeaTubeModel", name := "pace", desc := "(III)I" } : Jvm.MethodName) ({ cls := "PeaTubeModel", name := "pace", desc := "(III)I" } : Jvm.MethodName) ∈ Gw := gwt_8 141 rfl rfl
theorem w_1099 : Jvm.Cond.methodLink "PeaTubeLaw" (89 : Nat) ({ cls := "PeaTube", name := "flight", desc := "(IIII)I" } : Jvm.MethodName) ∈ Gw := gwt_5 0 rfl rfl
theorem w_1100 : Jvm.Cond.instanceMethod ({ cls := "PeaTube", name := "flight", desc := "(IIII)I" } : Jvm.MethodName) ∈ Gw := gwt_5 1 rfl rfl
theorem w_1101 : Jvm.Cond.selects "PeaTube" ({ cls := "PeaTube", name := "flight", desc := "(IIII)I" } : Jvm.MethodName) ({ cls := "PeaTube", name := "flight", desc := "(IIII)I" } : Jvm.MethodName) ∈ Gw := gwt_5 2 rfl rfl
theorem w_1977 : Jvm.Cond.methodLink "PeaTubeLaw" (93 : Nat) ({ cls := "PeaTubeModel", name := "flight", desc := "(IIII)I" } : Jvm.MethodName) ∈ Gw := gwt_8 158 rfl rfl
theorem w_1978 : Jvm.Cond.instanceMethod ({ cls := "PeaTubeModel", name := "flight", desc := "(IIII)I" } : Jvm.MethodName) ∈ Gw := gwt_8 159 rfl rfl
theorem w_1979 : Jvm.Cond.selects "PeaTubeModel" ({ cls := "PeaTubeModel", name := "flight", desc := "(IIII)I" } : Jvm.MethodName) ({ cls := "PeaTubeModel", name := "flight", desc := "(IIII)I" } : Jvm.MethodName) ∈ Gw := gwt_8 160 rfl rfl
theorem w_1103 : Jvm.Cond.methodLink "PeaTubeLaw" (94 : Nat) ({ cls := "PeaTube", name := "becomes", desc := "(III)I" } : Jvm.MethodName) ∈ Gw := gwt_5 4 rfl rfl
theorem w_1104 : Jvm.Cond.instanceMethod ({ cls := "PeaTube", name := "becomes", desc := "(III)I" } : Jvm.MethodName) ∈ Gw := gwt_5 5 rfl rfl
theorem w_1105 : Jvm.Cond.selects "PeaTube" ({ cls := "PeaTube", name := "becomes", desc := "(III)I" } : Jvm.MethodName) ({ cls := "PeaTube", name := "becomes", desc := "(III)I" } : Jvm.MethodName) ∈ Gw := gwt_5 6 rfl rfl
theorem w_1987 : Jvm.Cond.methodLink "PeaTubeLaw" (97 : Nat) ({ cls := "PeaTubeModel", name := "becomes", desc := "(III)I" } : Jvm.MethodName) ∈ Gw := gwt_8 168 rfl rfl
theorem w_1988 : Jvm.Cond.instanceMethod ({ cls := "PeaTubeModel", name := "becomes", desc := "(III)I" } : Jvm.MethodName) ∈ Gw := gwt_8 169 rfl rfl
theorem w_1989 : Jvm.Cond.selects "PeaTubeModel" ({ cls := "PeaTubeModel", name := "becomes", desc := "(III)I" } : Jvm.MethodName) ({ cls := "PeaTubeModel", name := "becomes", desc := "(III)I" } : Jvm.MethodName) ∈ Gw := gwt_8 170 rfl rfl
theorem w_1107 : Jvm.Cond.methodLink "PeaTubeLaw" (98 : Nat) ({ cls := "PeaTube", name := "strikes", desc := "(IIIIIII)I" } : Jvm.MethodName) ∈ Gw := gwt_5 8 rfl rfl
theorem w_1108 : Jvm.Cond.instanceMethod ({ cls := "PeaTube", name := "strikes", desc := "(IIIIIII)I" } : Jvm.MethodName) ∈ Gw := gwt_5 9 rfl rfl
theorem w_1109 : Jvm.Cond.selects "PeaTube" ({ cls := "PeaTube", name := "strikes", desc := "(IIIIIII)I" } : Jvm.MethodName) ({ cls := "PeaTube", name := "strikes", desc := "(IIIIIII)I" } : Jvm.MethodName) ∈ Gw := gwt_5 10 rfl rfl
theorem w_1991 : Jvm.Cond.methodLink "PeaTubeLaw" (102 : Nat) ({ cls := "PeaTubeModel", name := "strikes", desc := "(IIIIIII)I" } : Jvm.MethodName) ∈ Gw := gwt_8 172 rfl rfl
theorem w_1992 : Jvm.Cond.instanceMethod ({ cls := "PeaTubeModel", name := "strikes", desc := "(IIIIIII)I" } : Jvm.MethodName) ∈ Gw := gwt_8 173 rfl rfl
theorem w_1993 : Jvm.Cond.selects "PeaTubeModel" ({ cls := "PeaTubeModel", name := "strikes", desc := "(IIIIIII)I" } : Jvm.MethodName) ({ cls := "PeaTubeModel", name := "strikes", desc := "(IIIIIII)I" } : Jvm.MethodName) ∈ Gw := gwt_8 174 rfl rfl
theorem w_1123 : Jvm.Cond.methodLink "PeaTubeLaw" (103 : Nat) ({ cls := "PeaTube", name := "points", desc := "(II)I" } : Jvm.MethodName) ∈ Gw := gwt_5 24 rfl rfl
theorem w_1124 : Jvm.Cond.instanceMethod ({ cls := "PeaTube", name := "points", desc := "(II)I" } : Jvm.MethodName) ∈ Gw := gwt_5 25 rfl rfl
theorem w_1125 : Jvm.Cond.selects "PeaTube" ({ cls := "PeaTube", name := "points", desc := "(II)I" } : Jvm.MethodName) ({ cls := "PeaTube", name := "points", desc := "(II)I" } : Jvm.MethodName) ∈ Gw := gwt_5 26 rfl rfl
theorem w_2008 : Jvm.Cond.methodLink "PeaTubeLaw" (106 : Nat) ({ cls := "PeaTubeModel", name := "points", desc := "(II)I" } : Jvm.MethodName) ∈ Gw := gwt_8 189 rfl rfl
theorem w_2009 : Jvm.Cond.instanceMethod ({ cls := "PeaTubeModel", name := "points", desc := "(II)I" } : Jvm.MethodName) ∈ Gw := gwt_8 190 rfl rfl
theorem w_2010 : Jvm.Cond.selects "PeaTubeModel" ({ cls := "PeaTubeModel", name := "points", desc := "(II)I" } : Jvm.MethodName) ({ cls := "PeaTubeModel", name := "points", desc := "(II)I" } : Jvm.MethodName) ∈ Gw := gwt_8 191 rfl rfl
theorem w_1135 : Jvm.Cond.methodLink "PeaTubeLaw" (107 : Nat) ({ cls := "PeaTube", name := "ringAt", desc := "(II)I" } : Jvm.MethodName) ∈ Gw := gwt_5 36 rfl rfl
theorem w_1136 : Jvm.Cond.instanceMethod ({ cls := "PeaTube", name := "ringAt", desc := "(II)I" } : Jvm.MethodName) ∈ Gw := gwt_5 37 rfl rfl
theorem w_1137 : Jvm.Cond.selects "PeaTube" ({ cls := "PeaTube", name := "ringAt", desc := "(II)I" } : Jvm.MethodName) ({ cls := "PeaTube", name := "ringAt", desc := "(II)I" } : Jvm.MethodName) ∈ Gw := gwt_5 38 rfl rfl
theorem w_2025 : Jvm.Cond.methodLink "PeaTubeLaw" (110 : Nat) ({ cls := "PeaTubeModel", name := "ringAt", desc := "(II)I" } : Jvm.MethodName) ∈ Gw := gwt_8 206 rfl rfl
theorem w_2026 : Jvm.Cond.instanceMethod ({ cls := "PeaTubeModel", name := "ringAt", desc := "(II)I" } : Jvm.MethodName) ∈ Gw := gwt_8 207 rfl rfl
theorem w_2027 : Jvm.Cond.selects "PeaTubeModel" ({ cls := "PeaTubeModel", name := "ringAt", desc := "(II)I" } : Jvm.MethodName) ({ cls := "PeaTubeModel", name := "ringAt", desc := "(II)I" } : Jvm.MethodName) ∈ Gw := gwt_8 208 rfl rfl
theorem w_1140 : Jvm.Cond.methodLink "PeaTubeLaw" (111 : Nat) ({ cls := "PeaTube", name := "hand", desc := "(II)I" } : Jvm.MethodName) ∈ Gw := gwt_5 41 rfl rfl
theorem w_1141 : Jvm.Cond.instanceMethod ({ cls := "PeaTube", name := "hand", desc := "(II)I" } : Jvm.MethodName) ∈ Gw := gwt_5 42 rfl rfl
theorem w_1142 : Jvm.Cond.selects "PeaTube" ({ cls := "PeaTube", name := "hand", desc := "(II)I" } : Jvm.MethodName) ({ cls := "PeaTube", name := "hand", desc := "(II)I" } : Jvm.MethodName) ∈ Gw := gwt_5 43 rfl rfl
theorem w_2029 : Jvm.Cond.methodLink "PeaTubeLaw" (114 : Nat) ({ cls := "PeaTubeModel", name := "hand", desc := "(II)I" } : Jvm.MethodName) ∈ Gw := gwt_8 210 rfl rfl
theorem w_2030 : Jvm.Cond.instanceMethod ({ cls := "PeaTubeModel", name := "hand", desc := "(II)I" } : Jvm.MethodName) ∈ Gw := gwt_8 211 rfl rfl
theorem w_2031 : Jvm.Cond.selects "PeaTubeModel" ({ cls := "PeaTubeModel", name := "hand", desc := "(II)I" } : Jvm.MethodName) ({ cls := "PeaTubeModel", name := "hand", desc := "(II)I" } : Jvm.MethodName) ∈ Gw := gwt_8 212 rfl rfl
theorem w_1149 : Jvm.Cond.methodLink "PeaTubeLaw" (115 : Nat) ({ cls := "PeaTube", name := "odds", desc := "(IIIIIII)Z" } : Jvm.MethodName) ∈ Gw := gwt_5 50 rfl rfl
theorem w_1150 : Jvm.Cond.instanceMethod ({ cls := "PeaTube", name := "odds", desc := "(IIIIIII)Z" } : Jvm.MethodName) ∈ Gw := gwt_5 51 rfl rfl
theorem w_1151 : Jvm.Cond.selects "PeaTube" ({ cls := "PeaTube", name := "odds", desc := "(IIIIIII)Z" } : Jvm.MethodName) ({ cls := "PeaTube", name := "odds", desc := "(IIIIIII)Z" } : Jvm.MethodName) ∈ Gw := gwt_5 52 rfl rfl
theorem w_2038 : Jvm.Cond.methodLink "PeaTubeLaw" (119 : Nat) ({ cls := "PeaTubeModel", name := "odds", desc := "(IIIIIII)Z" } : Jvm.MethodName) ∈ Gw := gwt_8 219 rfl rfl
theorem w_2039 : Jvm.Cond.instanceMethod ({ cls := "PeaTubeModel", name := "odds", desc := "(IIIIIII)Z" } : Jvm.MethodName) ∈ Gw := gwt_8 220 rfl rfl
theorem w_2040 : Jvm.Cond.selects "PeaTubeModel" ({ cls := "PeaTubeModel", name := "odds", desc := "(IIIIIII)Z" } : Jvm.MethodName) ({ cls := "PeaTubeModel", name := "odds", desc := "(IIIIIII)Z" } : Jvm.MethodName) ∈ Gw := gwt_8 221 rfl rfl
theorem w_1182 : Jvm.Cond.methodLink "PeaTubeLaw" (120 : Nat) ({ cls := "PeaTube", name := "mean", desc := "(IIIIII)Z" } : Jvm.MethodName) ∈ Gw := gwt_5 83 rfl rfl
theorem w_1183 : Jvm.Cond.instanceMethod ({ cls := "PeaTube", name := "mean", desc := "(IIIIII)Z" } : Jvm.MethodName) ∈ Gw := gwt_5 84 rfl rfl
theorem w_1184 : Jvm.Cond.selects "PeaTube" ({ cls := "PeaTube", name := "mean", desc := "(IIIIII)Z" } : Jvm.MethodName) ({ cls := "PeaTube", name := "mean", desc := "(IIIIII)Z" } : Jvm.MethodName) ∈ Gw := gwt_5 85 rfl rfl
theorem w_2055 : Jvm.Cond.methodLink "PeaTubeLaw" (124 : Nat) ({ cls := "PeaTubeModel", name := "mean", desc := "(IIIIII)Z" } : Jvm.MethodName) ∈ Gw := gwt_8 236 rfl rfl
theorem w_2056 : Jvm.Cond.instanceMethod ({ cls := "PeaTubeModel", name := "mean", desc := "(IIIIII)Z" } : Jvm.MethodName) ∈ Gw := gwt_8 237 rfl rfl
theorem w_2057 : Jvm.Cond.selects "PeaTubeModel" ({ cls := "PeaTubeModel", name := "mean", desc := "(IIIIII)Z" } : Jvm.MethodName) ({ cls := "PeaTubeModel", name := "mean", desc := "(IIIIII)Z" } : Jvm.MethodName) ∈ Gw := gwt_8 238 rfl rfl
theorem w_1190 : Jvm.Cond.methodLink "PeaTubeLaw" (125 : Nat) ({ cls := "PeaTube", name := "bestAim", desc := "(IIIII)I" } : Jvm.MethodName) ∈ Gw := gwt_5 91 rfl rfl
theorem w_1191 : Jvm.Cond.instanceMethod ({ cls := "PeaTube", name := "bestAim", desc := "(IIIII)I" } : Jvm.MethodName) ∈ Gw := gwt_5 92 rfl rfl
theorem w_1192 : Jvm.Cond.selects "PeaTube" ({ cls := "PeaTube", name := "bestAim", desc := "(IIIII)I" } : Jvm.MethodName) ({ cls := "PeaTube", name := "bestAim", desc := "(IIIII)I" } : Jvm.MethodName) ∈ Gw := gwt_5 93 rfl rfl
theorem w_2059 : Jvm.Cond.methodLink "PeaTubeLaw" (128 : Nat) ({ cls := "PeaTubeModel", name := "bestAim", desc := "(IIIII)I" } : Jvm.MethodName) ∈ Gw := gwt_9 0 rfl rfl
theorem w_2060 : Jvm.Cond.instanceMethod ({ cls := "PeaTubeModel", name := "bestAim", desc := "(IIIII)I" } : Jvm.MethodName) ∈ Gw := gwt_9 1 rfl rfl
theorem w_2061 : Jvm.Cond.selects "PeaTubeModel" ({ cls := "PeaTubeModel", name := "bestAim", desc := "(IIIII)I" } : Jvm.MethodName) ({ cls := "PeaTubeModel", name := "bestAim", desc := "(IIIII)I" } : Jvm.MethodName) ∈ Gw := gwt_9 2 rfl rfl
theorem w_1221 : Jvm.Cond.methodLink "PeaTubeLaw" (129 : Nat) ({ cls := "PeaTube", name := "bestPuff", desc := "(IIIII)I" } : Jvm.MethodName) ∈ Gw := gwt_5 122 rfl rfl
theorem w_1222 : Jvm.Cond.instanceMethod ({ cls := "PeaTube", name := "bestPuff", desc := "(IIIII)I" } : Jvm.MethodName) ∈ Gw := gwt_5 123 rfl rfl
theorem w_1223 : Jvm.Cond.selects "PeaTube" ({ cls := "PeaTube", name := "bestPuff", desc := "(IIIII)I" } : Jvm.MethodName) ({ cls := "PeaTube", name := "bestPuff", desc := "(IIIII)I" } : Jvm.MethodName) ∈ Gw := gwt_5 124 rfl rfl
theorem w_2071 : Jvm.Cond.methodLink "PeaTubeLaw" (132 : Nat) ({ cls := "PeaTubeModel", name := "bestPuff", desc := "(IIIII)I" } : Jvm.MethodName) ∈ Gw := gwt_9 12 rfl rfl
theorem w_2072 : Jvm.Cond.instanceMethod ({ cls := "PeaTubeModel", name := "bestPuff", desc := "(IIIII)I" } : Jvm.MethodName) ∈ Gw := gwt_9 13 rfl rfl
theorem w_2073 : Jvm.Cond.selects "PeaTubeModel" ({ cls := "PeaTubeModel", name := "bestPuff", desc := "(IIIII)I" } : Jvm.MethodName) ({ cls := "PeaTubeModel", name := "bestPuff", desc := "(IIIII)I" } : Jvm.MethodName) ∈ Gw := gwt_9 14 rfl rfl
theorem w_1234 : Jvm.Cond.methodLink "PeaTubeLaw" (133 : Nat) ({ cls := "PeaTube", name := "bestBeat", desc := "(IIIII)I" } : Jvm.MethodName) ∈ Gw := gwt_5 135 rfl rfl
theorem w_1235 : Jvm.Cond.instanceMethod ({ cls := "PeaTube", name := "bestBeat", desc := "(IIIII)I" } : Jvm.MethodName) ∈ Gw := gwt_5 136 rfl rfl
theorem w_1236 : Jvm.Cond.selects "PeaTube" ({ cls := "PeaTube", name := "bestBeat", desc := "(IIIII)I" } : Jvm.MethodName) ({ cls := "PeaTube", name := "bestBeat", desc := "(IIIII)I" } : Jvm.MethodName) ∈ Gw := gwt_5 137 rfl rfl
theorem w_2075 : Jvm.Cond.methodLink "PeaTubeLaw" (136 : Nat) ({ cls := "PeaTubeModel", name := "bestBeat", desc := "(IIIII)I" } : Jvm.MethodName) ∈ Gw := gwt_9 16 rfl rfl
theorem w_2076 : Jvm.Cond.instanceMethod ({ cls := "PeaTubeModel", name := "bestBeat", desc := "(IIIII)I" } : Jvm.MethodName) ∈ Gw := gwt_9 17 rfl rfl
theorem w_2077 : Jvm.Cond.selects "PeaTubeModel" ({ cls := "PeaTubeModel", name := "bestBeat", desc := "(IIIII)I" } : Jvm.MethodName) ({ cls := "PeaTubeModel", name := "bestBeat", desc := "(IIIII)I" } : Jvm.MethodName) ∈ Gw := gwt_9 18 rfl rfl
theorem w_1238 : Jvm.Cond.methodLink "PeaTubeLaw" (137 : Nat) ({ cls := "PeaTube", name := "longest", desc := "(IIIIII)I" } : Jvm.MethodName) ∈ Gw := gwt_5 139 rfl rfl
theorem w_1239 : Jvm.Cond.instanceMethod ({ cls := "PeaTube", name := "longest", desc := "(IIIIII)I" } : Jvm.MethodName) ∈ Gw := gwt_5 140 rfl rfl
theorem w_1240 : Jvm.Cond.selects "PeaTube" ({ cls := "PeaTube", name := "longest", desc := "(IIIIII)I" } : Jvm.MethodName) ({ cls := "PeaTube", name := "longest", desc := "(IIIIII)I" } : Jvm.MethodName) ∈ Gw := gwt_5 141 rfl rfl
theorem w_2079 : Jvm.Cond.methodLink "PeaTubeLaw" (141 : Nat) ({ cls := "PeaTubeModel", name := "longest", desc := "(IIIIII)I" } : Jvm.MethodName) ∈ Gw := gwt_9 20 rfl rfl
theorem w_2080 : Jvm.Cond.instanceMethod ({ cls := "PeaTubeModel", name := "longest", desc := "(IIIIII)I" } : Jvm.MethodName) ∈ Gw := gwt_9 21 rfl rfl
theorem w_2081 : Jvm.Cond.selects "PeaTubeModel" ({ cls := "PeaTubeModel", name := "longest", desc := "(IIIIII)I" } : Jvm.MethodName) ({ cls := "PeaTubeModel", name := "longest", desc := "(IIIIII)I" } : Jvm.MethodName) ∈ Gw := gwt_9 22 rfl rfl
theorem w_1242 : Jvm.Cond.methodLink "PeaTubeLaw" (142 : Nat) ({ cls := "PeaTube", name := "bestPea", desc := "(III)I" } : Jvm.MethodName) ∈ Gw := gwt_5 143 rfl rfl
theorem w_1243 : Jvm.Cond.instanceMethod ({ cls := "PeaTube", name := "bestPea", desc := "(III)I" } : Jvm.MethodName) ∈ Gw := gwt_5 144 rfl rfl
theorem w_1244 : Jvm.Cond.selects "PeaTube" ({ cls := "PeaTube", name := "bestPea", desc := "(III)I" } : Jvm.MethodName) ({ cls := "PeaTube", name := "bestPea", desc := "(III)I" } : Jvm.MethodName) ∈ Gw := gwt_5 145 rfl rfl
theorem w_2083 : Jvm.Cond.methodLink "PeaTubeLaw" (145 : Nat) ({ cls := "PeaTubeModel", name := "bestPea", desc := "(III)I" } : Jvm.MethodName) ∈ Gw := gwt_9 24 rfl rfl
theorem w_2084 : Jvm.Cond.instanceMethod ({ cls := "PeaTubeModel", name := "bestPea", desc := "(III)I" } : Jvm.MethodName) ∈ Gw := gwt_9 25 rfl rfl
theorem w_2085 : Jvm.Cond.selects "PeaTubeModel" ({ cls := "PeaTubeModel", name := "bestPea", desc := "(III)I" } : Jvm.MethodName) ({ cls := "PeaTubeModel", name := "bestPea", desc := "(III)I" } : Jvm.MethodName) ∈ Gw := gwt_9 26 rfl rfl
theorem w_1246 : Jvm.Cond.methodLink "PeaTubeLaw" (146 : Nat) ({ cls := "PeaTube", name := "series", desc := "(IIIIIII)Z" } : Jvm.MethodName) ∈ Gw := gwt_5 147 rfl rfl
theorem w_1247 : Jvm.Cond.instanceMethod ({ cls := "PeaTube", name := "series", desc := "(IIIIIII)Z" } : Jvm.MethodName) ∈ Gw := gwt_5 148 rfl rfl
theorem w_1248 : Jvm.Cond.selects "PeaTube" ({ cls := "PeaTube", name := "series", desc := "(IIIIIII)Z" } : Jvm.MethodName) ({ cls := "PeaTube", name := "series", desc := "(IIIIIII)Z" } : Jvm.MethodName) ∈ Gw := gwt_5 149 rfl rfl
theorem w_2087 : Jvm.Cond.methodLink "PeaTubeLaw" (149 : Nat) ({ cls := "PeaTubeModel", name := "series", desc := "(IIIIIII)Z" } : Jvm.MethodName) ∈ Gw := gwt_9 28 rfl rfl
theorem w_2088 : Jvm.Cond.instanceMethod ({ cls := "PeaTubeModel", name := "series", desc := "(IIIIIII)Z" } : Jvm.MethodName) ∈ Gw := gwt_9 29 rfl rfl
theorem w_2089 : Jvm.Cond.selects "PeaTubeModel" ({ cls := "PeaTubeModel", name := "series", desc := "(IIIIIII)Z" } : Jvm.MethodName) ({ cls := "PeaTubeModel", name := "series", desc := "(IIIIIII)Z" } : Jvm.MethodName) ∈ Gw := gwt_9 30 rfl rfl
theorem w_1254 : Jvm.Cond.methodLink "PeaTubeLaw" (150 : Nat) ({ cls := "PeaTube", name := "wipeEvery", desc := "(IIIII)I" } : Jvm.MethodName) ∈ Gw := gwt_5 155 rfl rfl
theorem w_1255 : Jvm.Cond.instanceMethod ({ cls := "PeaTube", name := "wipeEvery", desc := "(IIIII)I" } : Jvm.MethodName) ∈ Gw := gwt_5 156 rfl rfl
theorem w_1256 : Jvm.Cond.selects "PeaTube" ({ cls := "PeaTube", name := "wipeEvery", desc := "(IIIII)I" } : Jvm.MethodName) ({ cls := "PeaTube", name := "wipeEvery", desc := "(IIIII)I" } : Jvm.MethodName) ∈ Gw := gwt_5 157 rfl rfl
theorem w_2096 : Jvm.Cond.methodLink "PeaTubeLaw" (153 : Nat) ({ cls := "PeaTubeModel", name := "wipeEvery", desc := "(IIIII)I" } : Jvm.MethodName) ∈ Gw := gwt_9 37 rfl rfl
theorem w_2097 : Jvm.Cond.instanceMethod ({ cls := "PeaTubeModel", name := "wipeEvery", desc := "(IIIII)I" } : Jvm.MethodName) ∈ Gw := gwt_9 38 rfl rfl
theorem w_2098 : Jvm.Cond.selects "PeaTubeModel" ({ cls := "PeaTubeModel", name := "wipeEvery", desc := "(IIIII)I" } : Jvm.MethodName) ({ cls := "PeaTubeModel", name := "wipeEvery", desc := "(IIIII)I" } : Jvm.MethodName) ∈ Gw := gwt_9 39 rfl rfl
theorem w_1259 : Jvm.Cond.methodLink "PeaTubeLaw" (154 : Nat) ({ cls := "PeaTube", name := "turns", desc := "(IIIIII)Z" } : Jvm.MethodName) ∈ Gw := gwt_5 160 rfl rfl
theorem w_1260 : Jvm.Cond.instanceMethod ({ cls := "PeaTube", name := "turns", desc := "(IIIIII)Z" } : Jvm.MethodName) ∈ Gw := gwt_5 161 rfl rfl
theorem w_1261 : Jvm.Cond.selects "PeaTube" ({ cls := "PeaTube", name := "turns", desc := "(IIIIII)Z" } : Jvm.MethodName) ({ cls := "PeaTube", name := "turns", desc := "(IIIIII)Z" } : Jvm.MethodName) ∈ Gw := gwt_5 162 rfl rfl
theorem w_2102 : Jvm.Cond.methodLink "PeaTubeLaw" (157 : Nat) ({ cls := "PeaTubeModel", name := "turns", desc := "(IIIIII)Z" } : Jvm.MethodName) ∈ Gw := gwt_9 43 rfl rfl
theorem w_2103 : Jvm.Cond.instanceMethod ({ cls := "PeaTubeModel", name := "turns", desc := "(IIIIII)Z" } : Jvm.MethodName) ∈ Gw := gwt_9 44 rfl rfl
theorem w_2104 : Jvm.Cond.selects "PeaTubeModel" ({ cls := "PeaTubeModel", name := "turns", desc := "(IIIIII)Z" } : Jvm.MethodName) ({ cls := "PeaTubeModel", name := "turns", desc := "(IIIIII)Z" } : Jvm.MethodName) ∈ Gw := gwt_9 45 rfl rfl
theorem w_1284 : Jvm.Cond.methodLink "PeaTubeLaw" (158 : Nat) ({ cls := "PeaTube", name := "knock", desc := "(III)Z" } : Jvm.MethodName) ∈ Gw := gwt_5 185 rfl rfl
theorem w_1285 : Jvm.Cond.instanceMethod ({ cls := "PeaTube", name := "knock", desc := "(III)Z" } : Jvm.MethodName) ∈ Gw := gwt_5 186 rfl rfl
theorem w_1286 : Jvm.Cond.selects "PeaTube" ({ cls := "PeaTube", name := "knock", desc := "(III)Z" } : Jvm.MethodName) ({ cls := "PeaTube", name := "knock", desc := "(III)Z" } : Jvm.MethodName) ∈ Gw := gwt_5 187 rfl rfl
theorem w_2116 : Jvm.Cond.methodLink "PeaTubeLaw" (161 : Nat) ({ cls := "PeaTubeModel", name := "knock", desc := "(III)Z" } : Jvm.MethodName) ∈ Gw := gwt_9 57 rfl rfl
theorem w_2117 : Jvm.Cond.instanceMethod ({ cls := "PeaTubeModel", name := "knock", desc := "(III)Z" } : Jvm.MethodName) ∈ Gw := gwt_9 58 rfl rfl
theorem w_2118 : Jvm.Cond.selects "PeaTubeModel" ({ cls := "PeaTubeModel", name := "knock", desc := "(III)Z" } : Jvm.MethodName) ({ cls := "PeaTubeModel", name := "knock", desc := "(III)Z" } : Jvm.MethodName) ∈ Gw := gwt_9 59 rfl rfl
theorem w_1300 : Jvm.Cond.methodLink "PeaTubeLaw" (162 : Nat) ({ cls := "PeaTube", name := "hole", desc := "(II)I" } : Jvm.MethodName) ∈ Gw := gwt_5 201 rfl rfl
theorem w_1301 : Jvm.Cond.instanceMethod ({ cls := "PeaTube", name := "hole", desc := "(II)I" } : Jvm.MethodName) ∈ Gw := gwt_5 202 rfl rfl
theorem w_1302 : Jvm.Cond.selects "PeaTube" ({ cls := "PeaTube", name := "hole", desc := "(II)I" } : Jvm.MethodName) ({ cls := "PeaTube", name := "hole", desc := "(II)I" } : Jvm.MethodName) ∈ Gw := gwt_5 203 rfl rfl
theorem w_2136 : Jvm.Cond.methodLink "PeaTubeLaw" (165 : Nat) ({ cls := "PeaTubeModel", name := "hole", desc := "(II)I" } : Jvm.MethodName) ∈ Gw := gwt_9 77 rfl rfl
theorem w_2137 : Jvm.Cond.instanceMethod ({ cls := "PeaTubeModel", name := "hole", desc := "(II)I" } : Jvm.MethodName) ∈ Gw := gwt_9 78 rfl rfl
theorem w_2138 : Jvm.Cond.selects "PeaTubeModel" ({ cls := "PeaTubeModel", name := "hole", desc := "(II)I" } : Jvm.MethodName) ({ cls := "PeaTubeModel", name := "hole", desc := "(II)I" } : Jvm.MethodName) ∈ Gw := gwt_9 79 rfl rfl
theorem w_1304 : Jvm.Cond.methodLink "PeaTubeLaw" (166 : Nat) ({ cls := "PeaTube", name := "lean", desc := "(III)Z" } : Jvm.MethodName) ∈ Gw := gwt_5 205 rfl rfl
theorem w_1305 : Jvm.Cond.instanceMethod ({ cls := "PeaTube", name := "lean", desc := "(III)Z" } : Jvm.MethodName) ∈ Gw := gwt_5 206 rfl rfl
theorem w_1306 : Jvm.Cond.selects "PeaTube" ({ cls := "PeaTube", name := "lean", desc := "(III)Z" } : Jvm.MethodName) ({ cls := "PeaTube", name := "lean", desc := "(III)Z" } : Jvm.MethodName) ∈ Gw := gwt_5 207 rfl rfl
theorem w_2140 : Jvm.Cond.methodLink "PeaTubeLaw" (169 : Nat) ({ cls := "PeaTubeModel", name := "lean", desc := "(III)Z" } : Jvm.MethodName) ∈ Gw := gwt_9 81 rfl rfl
theorem w_2141 : Jvm.Cond.instanceMethod ({ cls := "PeaTubeModel", name := "lean", desc := "(III)Z" } : Jvm.MethodName) ∈ Gw := gwt_9 82 rfl rfl
theorem w_2142 : Jvm.Cond.selects "PeaTubeModel" ({ cls := "PeaTubeModel", name := "lean", desc := "(III)Z" } : Jvm.MethodName) ({ cls := "PeaTubeModel", name := "lean", desc := "(III)Z" } : Jvm.MethodName) ∈ Gw := gwt_9 83 rfl rfl
theorem w_1316 : Jvm.Cond.methodLink "PeaTubeLaw" (170 : Nat) ({ cls := "PeaTube", name := "whose", desc := "(II)I" } : Jvm.MethodName) ∈ Gw := gwt_5 217 rfl rfl
theorem w_1317 : Jvm.Cond.instanceMethod ({ cls := "PeaTube", name := "whose", desc := "(II)I" } : Jvm.MethodName) ∈ Gw := gwt_5 218 rfl rfl
theorem w_1318 : Jvm.Cond.selects "PeaTube" ({ cls := "PeaTube", name := "whose", desc := "(II)I" } : Jvm.MethodName) ({ cls := "PeaTube", name := "whose", desc := "(II)I" } : Jvm.MethodName) ∈ Gw := gwt_5 219 rfl rfl
theorem w_2152 : Jvm.Cond.methodLink "PeaTubeLaw" (173 : Nat) ({ cls := "PeaTubeModel", name := "whose", desc := "(II)I" } : Jvm.MethodName) ∈ Gw := gwt_9 93 rfl rfl
theorem w_2153 : Jvm.Cond.instanceMethod ({ cls := "PeaTubeModel", name := "whose", desc := "(II)I" } : Jvm.MethodName) ∈ Gw := gwt_9 94 rfl rfl
theorem w_2154 : Jvm.Cond.selects "PeaTubeModel" ({ cls := "PeaTubeModel", name := "whose", desc := "(II)I" } : Jvm.MethodName) ({ cls := "PeaTubeModel", name := "whose", desc := "(II)I" } : Jvm.MethodName) ∈ Gw := gwt_9 95 rfl rfl
theorem w_1324 : Jvm.Cond.methodLink "PeaTubeLaw" (174 : Nat) ({ cls := "PeaTube", name := "worst", desc := "(I)I" } : Jvm.MethodName) ∈ Gw := gwt_5 225 rfl rfl
theorem w_1325 : Jvm.Cond.instanceMethod ({ cls := "PeaTube", name := "worst", desc := "(I)I" } : Jvm.MethodName) ∈ Gw := gwt_5 226 rfl rfl
theorem w_1326 : Jvm.Cond.selects "PeaTube" ({ cls := "PeaTube", name := "worst", desc := "(I)I" } : Jvm.MethodName) ({ cls := "PeaTube", name := "worst", desc := "(I)I" } : Jvm.MethodName) ∈ Gw := gwt_5 227 rfl rfl
theorem w_2157 : Jvm.Cond.methodLink "PeaTubeLaw" (177 : Nat) ({ cls := "PeaTubeModel", name := "worst", desc := "(I)I" } : Jvm.MethodName) ∈ Gw := gwt_9 98 rfl rfl
theorem w_2158 : Jvm.Cond.instanceMethod ({ cls := "PeaTubeModel", name := "worst", desc := "(I)I" } : Jvm.MethodName) ∈ Gw := gwt_9 99 rfl rfl
theorem w_2159 : Jvm.Cond.selects "PeaTubeModel" ({ cls := "PeaTubeModel", name := "worst", desc := "(I)I" } : Jvm.MethodName) ({ cls := "PeaTubeModel", name := "worst", desc := "(I)I" } : Jvm.MethodName) ∈ Gw := gwt_9 100 rfl rfl
theorem w_1328 : Jvm.Cond.methodLink "PeaTubeLaw" (178 : Nat) ({ cls := "PeaTube", name := "sieve", desc := "(I)I" } : Jvm.MethodName) ∈ Gw := gwt_5 229 rfl rfl
theorem w_1329 : Jvm.Cond.instanceMethod ({ cls := "PeaTube", name := "sieve", desc := "(I)I" } : Jvm.MethodName) ∈ Gw := gwt_5 230 rfl rfl
theorem w_1330 : Jvm.Cond.selects "PeaTube" ({ cls := "PeaTube", name := "sieve", desc := "(I)I" } : Jvm.MethodName) ({ cls := "PeaTube", name := "sieve", desc := "(I)I" } : Jvm.MethodName) ∈ Gw := gwt_5 231 rfl rfl
theorem w_2161 : Jvm.Cond.methodLink "PeaTubeLaw" (181 : Nat) ({ cls := "PeaTubeModel", name := "sieve", desc := "(I)I" } : Jvm.MethodName) ∈ Gw := gwt_9 102 rfl rfl
theorem w_2162 : Jvm.Cond.instanceMethod ({ cls := "PeaTubeModel", name := "sieve", desc := "(I)I" } : Jvm.MethodName) ∈ Gw := gwt_9 103 rfl rfl
theorem w_2163 : Jvm.Cond.selects "PeaTubeModel" ({ cls := "PeaTubeModel", name := "sieve", desc := "(I)I" } : Jvm.MethodName) ({ cls := "PeaTubeModel", name := "sieve", desc := "(I)I" } : Jvm.MethodName) ∈ Gw := gwt_9 104 rfl rfl
theorem w_1332 : Jvm.Cond.methodLink "PeaTubeLaw" (182 : Nat) ({ cls := "PeaTube", name := "same", desc := "()I" } : Jvm.MethodName) ∈ Gw := gwt_5 233 rfl rfl
theorem w_1333 : Jvm.Cond.instanceMethod ({ cls := "PeaTube", name := "same", desc := "()I" } : Jvm.MethodName) ∈ Gw := gwt_5 234 rfl rfl
theorem w_1334 : Jvm.Cond.selects "PeaTube" ({ cls := "PeaTube", name := "same", desc := "()I" } : Jvm.MethodName) ({ cls := "PeaTube", name := "same", desc := "()I" } : Jvm.MethodName) ∈ Gw := gwt_5 235 rfl rfl
theorem w_2166 : Jvm.Cond.methodLink "PeaTubeLaw" (185 : Nat) ({ cls := "PeaTubeModel", name := "same", desc := "()I" } : Jvm.MethodName) ∈ Gw := gwt_9 107 rfl rfl
theorem w_2167 : Jvm.Cond.instanceMethod ({ cls := "PeaTubeModel", name := "same", desc := "()I" } : Jvm.MethodName) ∈ Gw := gwt_9 108 rfl rfl
theorem w_2168 : Jvm.Cond.selects "PeaTubeModel" ({ cls := "PeaTubeModel", name := "same", desc := "()I" } : Jvm.MethodName) ({ cls := "PeaTubeModel", name := "same", desc := "()I" } : Jvm.MethodName) ∈ Gw := gwt_9 109 rfl rfl
theorem w_1340 : Jvm.Cond.methodLink "PeaTubeLaw" (186 : Nat) ({ cls := "PeaTube", name := "shoot", desc := "(IIIIIIII)I" } : Jvm.MethodName) ∈ Gw := gwt_6 1 rfl rfl
theorem w_1341 : Jvm.Cond.instanceMethod ({ cls := "PeaTube", name := "shoot", desc := "(IIIIIIII)I" } : Jvm.MethodName) ∈ Gw := gwt_6 2 rfl rfl
theorem w_1342 : Jvm.Cond.selects "PeaTube" ({ cls := "PeaTube", name := "shoot", desc := "(IIIIIIII)I" } : Jvm.MethodName) ({ cls := "PeaTube", name := "shoot", desc := "(IIIIIIII)I" } : Jvm.MethodName) ∈ Gw := gwt_6 3 rfl rfl
theorem w_2170 : Jvm.Cond.methodLink "PeaTubeLaw" (190 : Nat) ({ cls := "PeaTubeModel", name := "shoot", desc := "(IIIIIIII)I" } : Jvm.MethodName) ∈ Gw := gwt_9 111 rfl rfl
theorem w_2171 : Jvm.Cond.instanceMethod ({ cls := "PeaTubeModel", name := "shoot", desc := "(IIIIIIII)I" } : Jvm.MethodName) ∈ Gw := gwt_9 112 rfl rfl
theorem w_2172 : Jvm.Cond.selects "PeaTubeModel" ({ cls := "PeaTubeModel", name := "shoot", desc := "(IIIIIIII)I" } : Jvm.MethodName) ({ cls := "PeaTubeModel", name := "shoot", desc := "(IIIIIIII)I" } : Jvm.MethodName) ∈ Gw := gwt_9 113 rfl rfl
theorem w_1351 : Jvm.Cond.methodLink "PeaTubeLaw" (191 : Nat) ({ cls := "PeaTube", name := "wipe", desc := "()I" } : Jvm.MethodName) ∈ Gw := gwt_6 12 rfl rfl
theorem w_1352 : Jvm.Cond.instanceMethod ({ cls := "PeaTube", name := "wipe", desc := "()I" } : Jvm.MethodName) ∈ Gw := gwt_6 13 rfl rfl
theorem w_1353 : Jvm.Cond.selects "PeaTube" ({ cls := "PeaTube", name := "wipe", desc := "()I" } : Jvm.MethodName) ({ cls := "PeaTube", name := "wipe", desc := "()I" } : Jvm.MethodName) ∈ Gw := gwt_6 14 rfl rfl
theorem w_2180 : Jvm.Cond.methodLink "PeaTubeLaw" (194 : Nat) ({ cls := "PeaTubeModel", name := "wipe", desc := "()I" } : Jvm.MethodName) ∈ Gw := gwt_9 121 rfl rfl
theorem w_2181 : Jvm.Cond.instanceMethod ({ cls := "PeaTubeModel", name := "wipe", desc := "()I" } : Jvm.MethodName) ∈ Gw := gwt_9 122 rfl rfl
theorem w_2182 : Jvm.Cond.selects "PeaTubeModel" ({ cls := "PeaTubeModel", name := "wipe", desc := "()I" } : Jvm.MethodName) ({ cls := "PeaTubeModel", name := "wipe", desc := "()I" } : Jvm.MethodName) ∈ Gw := gwt_9 123 rfl rfl
theorem w_1355 : Jvm.Cond.methodLink "PeaTubeLaw" (195 : Nat) ({ cls := "PeaTube", name := "play", desc := "(I)I" } : Jvm.MethodName) ∈ Gw := gwt_6 16 rfl rfl
theorem w_1356 : Jvm.Cond.instanceMethod ({ cls := "PeaTube", name := "play", desc := "(I)I" } : Jvm.MethodName) ∈ Gw := gwt_6 17 rfl rfl
theorem w_1357 : Jvm.Cond.selects "PeaTube" ({ cls := "PeaTube", name := "play", desc := "(I)I" } : Jvm.MethodName) ({ cls := "PeaTube", name := "play", desc := "(I)I" } : Jvm.MethodName) ∈ Gw := gwt_6 18 rfl rfl
theorem w_2184 : Jvm.Cond.methodLink "PeaTubeLaw" (198 : Nat) ({ cls := "PeaTubeModel", name := "play", desc := "(I)I" } : Jvm.MethodName) ∈ Gw := gwt_9 125 rfl rfl
theorem w_2185 : Jvm.Cond.instanceMethod ({ cls := "PeaTubeModel", name := "play", desc := "(I)I" } : Jvm.MethodName) ∈ Gw := gwt_9 126 rfl rfl
theorem w_2186 : Jvm.Cond.selects "PeaTubeModel" ({ cls := "PeaTubeModel", name := "play", desc := "(I)I" } : Jvm.MethodName) ({ cls := "PeaTubeModel", name := "play", desc := "(I)I" } : Jvm.MethodName) ∈ Gw := gwt_9 127 rfl rfl
theorem w_1404 : Jvm.Cond.methodLink "PeaTubeLaw" (199 : Nat) ({ cls := "PeaTube", name := "played", desc := "(I)I" } : Jvm.MethodName) ∈ Gw := gwt_6 65 rfl rfl
theorem w_1405 : Jvm.Cond.instanceMethod ({ cls := "PeaTube", name := "played", desc := "(I)I" } : Jvm.MethodName) ∈ Gw := gwt_6 66 rfl rfl
theorem w_1406 : Jvm.Cond.selects "PeaTube" ({ cls := "PeaTube", name := "played", desc := "(I)I" } : Jvm.MethodName) ({ cls := "PeaTube", name := "played", desc := "(I)I" } : Jvm.MethodName) ∈ Gw := gwt_6 67 rfl rfl
theorem w_2222 : Jvm.Cond.methodLink "PeaTubeLaw" (202 : Nat) ({ cls := "PeaTubeModel", name := "played", desc := "(I)I" } : Jvm.MethodName) ∈ Gw := gwt_9 163 rfl rfl
theorem w_2223 : Jvm.Cond.instanceMethod ({ cls := "PeaTubeModel", name := "played", desc := "(I)I" } : Jvm.MethodName) ∈ Gw := gwt_9 164 rfl rfl
theorem w_2224 : Jvm.Cond.selects "PeaTubeModel" ({ cls := "PeaTubeModel", name := "played", desc := "(I)I" } : Jvm.MethodName) ({ cls := "PeaTubeModel", name := "played", desc := "(I)I" } : Jvm.MethodName) ∈ Gw := gwt_9 165 rfl rfl
theorem w_1408 : Jvm.Cond.methodLink "PeaTubeLaw" (203 : Nat) ({ cls := "PeaTube", name := "wins", desc := "(III)Z" } : Jvm.MethodName) ∈ Gw := gwt_6 69 rfl rfl
theorem w_1409 : Jvm.Cond.instanceMethod ({ cls := "PeaTube", name := "wins", desc := "(III)Z" } : Jvm.MethodName) ∈ Gw := gwt_6 70 rfl rfl
theorem w_1410 : Jvm.Cond.selects "PeaTube" ({ cls := "PeaTube", name := "wins", desc := "(III)Z" } : Jvm.MethodName) ({ cls := "PeaTube", name := "wins", desc := "(III)Z" } : Jvm.MethodName) ∈ Gw := gwt_6 71 rfl rfl
theorem w_2226 : Jvm.Cond.methodLink "PeaTubeLaw" (206 : Nat) ({ cls := "PeaTubeModel", name := "wins", desc := "(III)Z" } : Jvm.MethodName) ∈ Gw := gwt_9 167 rfl rfl
theorem w_2227 : Jvm.Cond.instanceMethod ({ cls := "PeaTubeModel", name := "wins", desc := "(III)Z" } : Jvm.MethodName) ∈ Gw := gwt_9 168 rfl rfl
theorem w_2228 : Jvm.Cond.selects "PeaTubeModel" ({ cls := "PeaTubeModel", name := "wins", desc := "(III)Z" } : Jvm.MethodName) ({ cls := "PeaTubeModel", name := "wins", desc := "(III)Z" } : Jvm.MethodName) ∈ Gw := gwt_9 169 rfl rfl
theorem w_1421 : Jvm.Cond.methodLink "PeaTubeLaw" (207 : Nat) ({ cls := "PeaTube", name := "mark", desc := "()I" } : Jvm.MethodName) ∈ Gw := gwt_6 82 rfl rfl
theorem w_1422 : Jvm.Cond.instanceMethod ({ cls := "PeaTube", name := "mark", desc := "()I" } : Jvm.MethodName) ∈ Gw := gwt_6 83 rfl rfl
theorem w_1423 : Jvm.Cond.selects "PeaTube" ({ cls := "PeaTube", name := "mark", desc := "()I" } : Jvm.MethodName) ({ cls := "PeaTube", name := "mark", desc := "()I" } : Jvm.MethodName) ∈ Gw := gwt_6 84 rfl rfl
theorem w_2234 : Jvm.Cond.methodLink "PeaTubeLaw" (210 : Nat) ({ cls := "PeaTubeModel", name := "mark", desc := "()I" } : Jvm.MethodName) ∈ Gw := gwt_9 175 rfl rfl
theorem w_2235 : Jvm.Cond.instanceMethod ({ cls := "PeaTubeModel", name := "mark", desc := "()I" } : Jvm.MethodName) ∈ Gw := gwt_9 176 rfl rfl
theorem w_2236 : Jvm.Cond.selects "PeaTubeModel" ({ cls := "PeaTubeModel", name := "mark", desc := "()I" } : Jvm.MethodName) ({ cls := "PeaTubeModel", name := "mark", desc := "()I" } : Jvm.MethodName) ∈ Gw := gwt_9 177 rfl rfl
theorem w_1440 : Jvm.Cond.methodLink "PeaTubeLaw" (211 : Nat) ({ cls := "PeaTube", name := "back", desc := "()I" } : Jvm.MethodName) ∈ Gw := gwt_6 101 rfl rfl
theorem w_1441 : Jvm.Cond.instanceMethod ({ cls := "PeaTube", name := "back", desc := "()I" } : Jvm.MethodName) ∈ Gw := gwt_6 102 rfl rfl
theorem w_1442 : Jvm.Cond.selects "PeaTube" ({ cls := "PeaTube", name := "back", desc := "()I" } : Jvm.MethodName) ({ cls := "PeaTube", name := "back", desc := "()I" } : Jvm.MethodName) ∈ Gw := gwt_6 103 rfl rfl
theorem w_2238 : Jvm.Cond.methodLink "PeaTubeLaw" (214 : Nat) ({ cls := "PeaTubeModel", name := "back", desc := "()I" } : Jvm.MethodName) ∈ Gw := gwt_9 179 rfl rfl
theorem w_2239 : Jvm.Cond.instanceMethod ({ cls := "PeaTubeModel", name := "back", desc := "()I" } : Jvm.MethodName) ∈ Gw := gwt_9 180 rfl rfl
theorem w_2240 : Jvm.Cond.selects "PeaTubeModel" ({ cls := "PeaTubeModel", name := "back", desc := "()I" } : Jvm.MethodName) ({ cls := "PeaTubeModel", name := "back", desc := "()I" } : Jvm.MethodName) ∈ Gw := gwt_9 181 rfl rfl
