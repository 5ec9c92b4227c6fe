section LWY
variable {p : Program} {l : Launch} {e : Env} {s : State} {m : MethodId} {below : List Frame} {meth : Method} {c : Code} {D : va_G} {ad : Nat → Nat → Nat → Nat} {cid : Nat → Nat → Nat → ClassId} {b L : Nat} {xs : Nat → Int32} {nc ns : Nat} {σC σM : Mem} {i : Nat}
theorem lw_c23 (F : LF p s m meth c D ad cid b L xs) (hroom : nc ≤ 600000 ∧ ns ≤ 7302250) (hi : i + 9 ≤ L) (hR : Rel σC σM) (next : ∀ σC' σM' : Mem, Rel σC' σM' → LJ p l e s m below meth c D ad cid b nc ns (lsL ad b i) 2197 [] σC' σM') : LJ p l e s m below meth c D ad cid b nc ns (lsL ad b i) 1152 [] σC σM := by
  obtain ⟨r, σC', σM', hC, hM, hR'⟩ := st_mean hR (xs (i + 1)) (xs (i + 2)) (xs (i + 3)) (xs (i + 4)) (xs (i + 5)) (xs (i + 6))
  refine lw_aload 1 F dL_1152 rfl rfl ?_
  refine lw_argC (k := 1) F dL_1153 dL_1154 dL_1155 dL_1156 dL_1157 rfl (by omega) ?_
  refine lw_argC (k := 2) F dL_1158 dL_1159 dL_1160 dL_1161 dL_1162 rfl (by omega) ?_
  refine lw_argC (k := 3) F dL_1163 dL_1164 dL_1165 dL_1166 dL_1167 rfl (by omega) ?_
  refine lw_argC (k := 4) F dL_1168 dL_1169 dL_1170 dL_1171 dL_1172 rfl (by omega) ?_
  refine lw_argC (k := 5) F dL_1173 dL_1174 dL_1175 dL_1176 dL_1177 rfl (by omega) ?_
  refine lw_argB (k := 6) F dL_1178 dL_1179 dL_1180 dL_1182 dL_1183 rfl (by omega) ?_
  refine lw_callC (As := [.int (xs (i + 1)), .int (xs (i + 2)), .int (xs (i + 3)), .int (xs (i + 4)), .int (xs (i + 5)), .int (xs (i + 6))]) (σC' := σC') F (c11_mean σC (xs (i + 1)) (xs (i + 2)) (xs (i + 3)) (xs (i + 4)) (xs (i + 5)) (xs (i + 6)) r σC' hC) rfl (by decide) mk_11_mean w_1183 w_1184 w_1182 rfl rfl (Nat.le_of_ble_eq_true rfl) dL_1184 ?_ hroom
  refine lw_aload 2 F dL_1187 rfl rfl ?_
  refine lw_argC (k := 1) F dL_1188 dL_1189 dL_1190 dL_1191 dL_1192 rfl (by omega) ?_
  refine lw_argC (k := 2) F dL_1193 dL_1194 dL_1195 dL_1196 dL_1197 rfl (by omega) ?_
  refine lw_argC (k := 3) F dL_1198 dL_1199 dL_1200 dL_1201 dL_1202 rfl (by omega) ?_
  refine lw_argC (k := 4) F dL_1203 dL_1204 dL_1205 dL_1206 dL_1207 rfl (by omega) ?_
  refine lw_argC (k := 5) F dL_1208 dL_1209 dL_1210 dL_1211 dL_1212 rfl (by omega) ?_
  refine lw_argB (k := 6) F dL_1213 dL_1214 dL_1215 dL_1217 dL_1218 rfl (by omega) ?_
  refine lw_callM (As := [.int (xs (i + 1)), .int (xs (i + 2)), .int (xs (i + 3)), .int (xs (i + 4)), .int (xs (i + 5)), .int (xs (i + 6))]) (σM' := σM') F (c12_mean σM (xs (i + 1)) (xs (i + 2)) (xs (i + 3)) (xs (i + 4)) (xs (i + 5)) (xs (i + 6)) r σM' hM) rfl (by decide) mk_12_mean w_2056 w_2057 w_2055 rfl rfl (Nat.le_of_ble_eq_true rfl) dL_1219 ?_ hroom
  exact lw_eqI F dL_1222 rfl (next _ _ hR')
theorem lw_c24 (F : LF p s m meth c D ad cid b L xs) (hroom : nc ≤ 600000 ∧ ns ≤ 7302250) (hi : i + 9 ≤ L) (hR : Rel σC σM) (next : ∀ σC' σM' : Mem, Rel σC' σM' → LJ p l e s m below meth c D ad cid b nc ns (lsL ad b i) 2197 [] σC' σM') : LJ p l e s m below meth c D ad cid b nc ns (lsL ad b i) 1227 [] σC σM := by
  obtain ⟨r, σC', σM', hC, hM, hR'⟩ := st_bestAim hR (xs (i + 1)) (xs (i + 2)) (xs (i + 3)) (xs (i + 4)) (xs (i + 5))
  refine lw_aload 1 F dL_1227 rfl rfl ?_
  refine lw_argC (k := 1) F dL_1228 dL_1229 dL_1230 dL_1231 dL_1232 rfl (by omega) ?_
  refine lw_argC (k := 2) F dL_1233 dL_1234 dL_1235 dL_1236 dL_1237 rfl (by omega) ?_
  refine lw_argC (k := 3) F dL_1238 dL_1239 dL_1240 dL_1241 dL_1242 rfl (by omega) ?_
  refine lw_argC (k := 4) F dL_1243 dL_1244 dL_1245 dL_1246 dL_1247 rfl (by omega) ?_
  refine lw_argC (k := 5) F dL_1248 dL_1249 dL_1250 dL_1251 dL_1252 rfl (by omega) ?_
  refine lw_callC (As := [.int (xs (i + 1)), .int (xs (i + 2)), .int (xs (i + 3)), .int (xs (i + 4)), .int (xs (i + 5))]) (σC' := σC') F (c11_bestAim σC (xs (i + 1)) (xs (i + 2)) (xs (i + 3)) (xs (i + 4)) (xs (i + 5)) r σC' hC) rfl (by decide) mk_11_bestAim w_1191 w_1192 w_1190 rfl rfl (Nat.le_of_ble_eq_true rfl) dL_1253 ?_ hroom
  refine lw_aload 2 F dL_1256 rfl rfl ?_
  refine lw_argC (k := 1) F dL_1257 dL_1258 dL_1259 dL_1260 dL_1261 rfl (by omega) ?_
  refine lw_argC (k := 2) F dL_1262 dL_1263 dL_1264 dL_1265 dL_1266 rfl (by omega) ?_
  refine lw_argC (k := 3) F dL_1267 dL_1268 dL_1269 dL_1270 dL_1271 rfl (by omega) ?_
  refine lw_argC (k := 4) F dL_1272 dL_1273 dL_1274 dL_1275 dL_1276 rfl (by omega) ?_
  refine lw_argC (k := 5) F dL_1277 dL_1278 dL_1279 dL_1280 dL_1281 rfl (by omega) ?_
  refine lw_callM (As := [.int (xs (i + 1)), .int (xs (i + 2)), .int (xs (i + 3)), .int (xs (i + 4)), .int (xs (i + 5))]) (σM' := σM') F (c12_bestAim σM (xs (i + 1)) (xs (i + 2)) (xs (i + 3)) (xs (i + 4)) (xs (i + 5)) r σM' hM) rfl (by decide) mk_12_bestAim w_2060 w_2061 w_2059 rfl rfl (Nat.le_of_ble_eq_true rfl) dL_1282 ?_ hroom
  exact lw_eqI F dL_1285 rfl (next _ _ hR')
theorem lw_c25 (F : LF p s m meth c D ad cid b L xs) (hroom : nc ≤ 600000 ∧ ns ≤ 7302250) (hi : i + 9 ≤ L) (hR : Rel σC σM) (next : ∀ σC' σM' : Mem, Rel σC' σM' → LJ p l e s m below meth c D ad cid b nc ns (lsL ad b i) 2197 [] σC' σM') : LJ p l e s m below meth c D ad cid b nc ns (lsL ad b i) 1290 [] σC σM := by
  obtain ⟨r, σC', σM', hC, hM, hR'⟩ := st_bestPuff hR (xs (i + 1)) (xs (i + 2)) (xs (i + 3)) (xs (i + 4)) (xs (i + 5))
  refine lw_aload 1 F dL_1290 rfl rfl ?_
  refine lw_argC (k := 1) F dL_1291 dL_1292 dL_1293 dL_1294 dL_1295 rfl (by omega) ?_
  refine lw_argC (k := 2) F dL_1296 dL_1297 dL_1298 dL_1299 dL_1300 rfl (by omega) ?_
  refine lw_argC (k := 3) F dL_1301 dL_1302 dL_1303 dL_1304 dL_1305 rfl (by omega) ?_
  refine lw_argC (k := 4) F dL_1306 dL_1307 dL_1308 dL_1309 dL_1310 rfl (by omega) ?_
  refine lw_argC (k := 5) F dL_1311 dL_1312 dL_1313 dL_1314 dL_1315 rfl (by omega) ?_
  refine lw_callC (As := [.int (xs (i + 1)), .int (xs (i + 2)), .int (xs (i + 3)), .int (xs (i + 4)), .int (xs (i + 5))]) (σC' := σC') F (c11_bestPuff σC (xs (i + 1)) (xs (i + 2)) (xs (i + 3)) (xs (i + 4)) (xs (i + 5)) r σC' hC) rfl (by decide) mk_11_bestPuff w_1222 w_1223 w_1221 rfl rfl (Nat.le_of_ble_eq_true rfl) dL_1316 ?_ hroom
  refine lw_aload 2 F dL_1319 rfl rfl ?_
  refine lw_argC (k := 1) F dL_1320 dL_1321 dL_1322 dL_1323 dL_1324 rfl (by omega) ?_
  refine lw_argC (k := 2) F dL_1325 dL_1326 dL_1327 dL_1328 dL_1329 rfl (by omega) ?_
  refine lw_argC (k := 3) F dL_1330 dL_1331 dL_1332 dL_1333 dL_1334 rfl (by omega) ?_
  refine lw_argC (k := 4) F dL_1335 dL_1336 dL_1337 dL_1338 dL_1339 rfl (by omega) ?_
  refine lw_argC (k := 5) F dL_1340 dL_1341 dL_1342 dL_1343 dL_1344 rfl (by omega) ?_
  refine lw_callM (As := [.int (xs (i + 1)), .int (xs (i + 2)), .int (xs (i + 3)), .int (xs (i + 4)), .int (xs (i + 5))]) (σM' := σM') F (c12_bestPuff σM (xs (i + 1)) (xs (i + 2)) (xs (i + 3)) (xs (i + 4)) (xs (i + 5)) r σM' hM) rfl (by decide) mk_12_bestPuff w_2072 w_2073 w_2071 rfl rfl (Nat.le_of_ble_eq_true rfl) dL_1345 ?_ hroom
  exact lw_eqI F dL_1348 rfl (next _ _ hR')
theorem lw_c26 (F : LF p s m meth c D ad cid b L xs) (hroom : nc ≤ 600000 ∧ ns ≤ 7302250) (hi : i + 9 ≤ L) (hR : Rel σC σM) (next : ∀ σC' σM' : Mem, Rel σC' σM' → LJ p l e s m below meth c D ad cid b nc ns (lsL ad b i) 2197 [] σC' σM') : LJ p l e s m below meth c D ad cid b nc ns (lsL ad b i) 1353 [] σC σM := by
  obtain ⟨r, σC', σM', hC, hM, hR'⟩ := st_bestBeat hR (xs (i + 1)) (xs (i + 2)) (xs (i + 3)) (xs (i + 4)) (xs (i + 5))
  refine lw_aload 1 F dL_1353 rfl rfl ?_
  refine lw_argC (k := 1) F dL_1354 dL_1355 dL_1356 dL_1357 dL_1358 rfl (by omega) ?_
  refine lw_argC (k := 2) F dL_1359 dL_1360 dL_1361 dL_1362 dL_1363 rfl (by omega) ?_
  refine lw_argC (k := 3) F dL_1364 dL_1365 dL_1366 dL_1367 dL_1368 rfl (by omega) ?_
  refine lw_argC (k := 4) F dL_1369 dL_1370 dL_1371 dL_1372 dL_1373 rfl (by omega) ?_
  refine lw_argC (k := 5) F dL_1374 dL_1375 dL_1376 dL_1377 dL_1378 rfl (by omega) ?_
  refine lw_callC (As := [.int (xs (i + 1)), .int (xs (i + 2)), .int (xs (i + 3)), .int (xs (i + 4)), .int (xs (i + 5))]) (σC' := σC') F (c11_bestBeat σC (xs (i + 1)) (xs (i + 2)) (xs (i + 3)) (xs (i + 4)) (xs (i + 5)) r σC' hC) rfl (by decide) mk_11_bestBeat w_1235 w_1236 w_1234 rfl rfl (Nat.le_of_ble_eq_true rfl) dL_1379 ?_ hroom
  refine lw_aload 2 F dL_1382 rfl rfl ?_
  refine lw_argC (k := 1) F dL_1383 dL_1384 dL_1385 dL_1386 dL_1387 rfl (by omega) ?_
  refine lw_argC (k := 2) F dL_1388 dL_1389 dL_1390 dL_1391 dL_1392 rfl (by omega) ?_
  refine lw_argC (k := 3) F dL_1393 dL_1394 dL_1395 dL_1396 dL_1397 rfl (by omega) ?_
  refine lw_argC (k := 4) F dL_1398 dL_1399 dL_1400 dL_1401 dL_1402 rfl (by omega) ?_
  refine lw_argC (k := 5) F dL_1403 dL_1404 dL_1405 dL_1406 dL_1407 rfl (by omega) ?_
  refine lw_callM (As := [.int (xs (i + 1)), .int (xs (i + 2)), .int (xs (i + 3)), .int (xs (i + 4)), .int (xs (i + 5))]) (σM' := σM') F (c12_bestBeat σM (xs (i + 1)) (xs (i + 2)) (xs (i + 3)) (xs (i + 4)) (xs (i + 5)) r σM' hM) rfl (by decide) mk_12_bestBeat w_2076 w_2077 w_2075 rfl rfl (Nat.le_of_ble_eq_true rfl) dL_1408 ?_ hroom
  exact lw_eqI F dL_1411 rfl (next _ _ hR')
theorem lw_c27 (F : LF p s m meth c D ad cid b L xs) (hroom : nc ≤ 600000 ∧ ns ≤ 7302250) (hi : i + 9 ≤ L) (hR : Rel σC σM) (next : ∀ σC' σM' : Mem, Rel σC' σM' → LJ p l e s m below meth c D ad cid b nc ns (lsL ad b i) 2197 [] σC' σM') : LJ p l e s m below meth c D ad cid b nc ns (lsL ad b i) 1416 [] σC σM := by
  obtain ⟨r, σC', σM', hC, hM, hR'⟩ := st_longest hR (xs (i + 1)) (xs (i + 2)) (xs (i + 3)) (xs (i + 4)) (xs (i + 5)) (xs (i + 6))
  refine lw_aload 1 F dL_1416 rfl rfl ?_
  refine lw_argC (k := 1) F dL_1417 dL_1418 dL_1419 dL_1420 dL_1421 rfl (by omega) ?_
  refine lw_argC (k := 2) F dL_1422 dL_1423 dL_1424 dL_1425 dL_1426 rfl (by omega) ?_
  refine lw_argC (k := 3) F dL_1427 dL_1428 dL_1429 dL_1430 dL_1431 rfl (by omega) ?_
  refine lw_argC (k := 4) F dL_1432 dL_1433 dL_1434 dL_1435 dL_1436 rfl (by omega) ?_
  refine lw_argC (k := 5) F dL_1437 dL_1438 dL_1439 dL_1440 dL_1441 rfl (by omega) ?_
  refine lw_argB (k := 6) F dL_1442 dL_1443 dL_1444 dL_1446 dL_1447 rfl (by omega) ?_
  refine lw_callC (As := [.int (xs (i + 1)), .int (xs (i + 2)), .int (xs (i + 3)), .int (xs (i + 4)), .int (xs (i + 5)), .int (xs (i + 6))]) (σC' := σC') F (c11_longest σC (xs (i + 1)) (xs (i + 2)) (xs (i + 3)) (xs (i + 4)) (xs (i + 5)) (xs (i + 6)) r σC' hC) rfl (by decide) mk_11_longest w_1239 w_1240 w_1238 rfl rfl (Nat.le_of_ble_eq_true rfl) dL_1448 ?_ hroom
  refine lw_aload 2 F dL_1451 rfl rfl ?_
  refine lw_argC (k := 1) F dL_1452 dL_1453 dL_1454 dL_1455 dL_1456 rfl (by omega) ?_
  refine lw_argC (k := 2) F dL_1457 dL_1458 dL_1459 dL_1460 dL_1461 rfl (by omega) ?_
  refine lw_argC (k := 3) F dL_1462 dL_1463 dL_1464 dL_1465 dL_1466 rfl (by omega) ?_
  refine lw_argC (k := 4) F dL_1467 dL_1468 dL_1469 dL_1470 dL_1471 rfl (by omega) ?_
  refine lw_argC (k := 5) F dL_1472 dL_1473 dL_1474 dL_1475 dL_1476 rfl (by omega) ?_
  refine lw_argB (k := 6) F dL_1477 dL_1478 dL_1479 dL_1481 dL_1482 rfl (by omega) ?_
  refine lw_callM (As := [.int (xs (i + 1)), .int (xs (i + 2)), .int (xs (i + 3)), .int (xs (i + 4)), .int (xs (i + 5)), .int (xs (i + 6))]) (σM' := σM') F (c12_longest σM (xs (i + 1)) (xs (i + 2)) (xs (i + 3)) (xs (i + 4)) (xs (i + 5)) (xs (i + 6)) r σM' hM) rfl (by decide) mk_12_longest w_2080 w_2081 w_2079 rfl rfl (Nat.le_of_ble_eq_true rfl) dL_1483 ?_ hroom
  exact lw_eqI F dL_1486 rfl (next _ _ hR')
theorem lw_c28 (F : LF p s m meth c D ad cid b L xs) (hroom : nc ≤ 600000 ∧ ns ≤ 7302250) (hi : i + 9 ≤ L) (hR : Rel σC σM) (next : ∀ σC' σM' : Mem, Rel σC' σM' → LJ p l e s m below meth c D ad cid b nc ns (lsL ad b i) 2197 [] σC' σM') : LJ p l e s m below meth c D ad cid b nc ns (lsL ad b i) 1491 [] σC σM := by
  obtain ⟨r, σC', σM', hC, hM, hR'⟩ := st_bestPea hR (xs (i + 1)) (xs (i + 2)) (xs (i + 3))
  refine lw_aload 1 F dL_1491 rfl rfl ?_
  refine lw_argC (k := 1) F dL_1492 dL_1493 dL_1494 dL_1495 dL_1496 rfl (by omega) ?_
  refine lw_argC (k := 2) F dL_1497 dL_1498 dL_1499 dL_1500 dL_1501 rfl (by omega) ?_
  refine lw_argC (k := 3) F dL_1502 dL_1503 dL_1504 dL_1505 dL_1506 rfl (by omega) ?_
  refine lw_callC (As := [.int (xs (i + 1)), .int (xs (i + 2)), .int (xs (i + 3))]) (σC' := σC') F (c11_bestPea σC (xs (i + 1)) (xs (i + 2)) (xs (i + 3)) r σC' hC) rfl (by decide) mk_11_bestPea w_1243 w_1244 w_1242 rfl rfl (Nat.le_of_ble_eq_true rfl) dL_1507 ?_ hroom
  refine lw_aload 2 F dL_1510 rfl rfl ?_
  refine lw_argC (k := 1) F dL_1511 dL_1512 dL_1513 dL_1514 dL_1515 rfl (by omega) ?_
  refine lw_argC (k := 2) F dL_1516 dL_1517 dL_1518 dL_1519 dL_1520 rfl (by omega) ?_
  refine lw_argC (k := 3) F dL_1521 dL_1522 dL_1523 dL_1524 dL_1525 rfl (by omega) ?_
  refine lw_callM (As := [.int (xs (i + 1)), .int (xs (i + 2)), .int (xs (i + 3))]) (σM' := σM') F (c12_bestPea σM (xs (i + 1)) (xs (i + 2)) (xs (i + 3)) r σM' hM) rfl (by decide) mk_12_bestPea w_2084 w_2085 w_2083 rfl rfl (Nat.le_of_ble_eq_true rfl) dL_1526 ?_ hroom
  exact lw_eqI F dL_1529 rfl (next _ _ hR')
theorem lw_c29 (F : LF p s m meth c D ad cid b L xs) (hroom : nc ≤ 600000 ∧ ns ≤ 7302250) (hi : i + 9 ≤ L) (hR : Rel σC σM) (next : ∀ σC' σM' : Mem, Rel σC' σM' → LJ p l e s m below meth c D ad cid b nc ns (lsL ad b i) 2197 [] σC' σM') : LJ p l e s m below meth c D ad cid b nc ns (lsL ad b i) 1534 [] σC σM := by
  obtain ⟨r, σC', σM', hC, hM, hR'⟩ := st_series hR (xs (i + 1)) (xs (i + 2)) (xs (i + 3)) (xs (i + 4)) (xs (i + 5)) (xs (i + 6)) (xs (i + 7))
  refine lw_aload 1 F dL_1534 rfl rfl ?_
  refine lw_argC (k := 1) F dL_1535 dL_1536 dL_1537 dL_1538 dL_1539 rfl (by omega) ?_
  refine lw_argC (k := 2) F dL_1540 dL_1541 dL_1542 dL_1543 dL_1544 rfl (by omega) ?_
  refine lw_argC (k := 3) F dL_1545 dL_1546 dL_1547 dL_1548 dL_1549 rfl (by omega) ?_
  refine lw_argC (k := 4) F dL_1550 dL_1551 dL_1552 dL_1553 dL_1554 rfl (by omega) ?_
  refine lw_argC (k := 5) F dL_1555 dL_1556 dL_1557 dL_1558 dL_1559 rfl (by omega) ?_
  refine lw_argB (k := 6) F dL_1560 dL_1561 dL_1562 dL_1564 dL_1565 rfl (by omega) ?_
  refine lw_argB (k := 7) F dL_1566 dL_1567 dL_1568 dL_1570 dL_1571 rfl (by omega) ?_
  refine lw_callC (As := [.int (xs (i + 1)), .int (xs (i + 2)), .int (xs (i + 3)), .int (xs (i + 4)), .int (xs (i + 5)), .int (xs (i + 6)), .int (xs (i + 7))]) (σC' := σC') F (c11_series σC (xs (i + 1)) (xs (i + 2)) (xs (i + 3)) (xs (i + 4)) (xs (i + 5)) (xs (i + 6)) (xs (i + 7)) r σC' hC) rfl (by decide) mk_11_series w_1247 w_1248 w_1246 rfl rfl (Nat.le_of_ble_eq_true rfl) dL_1572 ?_ hroom
  refine lw_aload 2 F dL_1575 rfl rfl ?_
  refine lw_argC (k := 1) F dL_1576 dL_1577 dL_1578 dL_1579 dL_1580 rfl (by omega) ?_
  refine lw_argC (k := 2) F dL_1581 dL_1582 dL_1583 dL_1584 dL_1585 rfl (by omega) ?_
  refine lw_argC (k := 3) F dL_1586 dL_1587 dL_1588 dL_1589 dL_1590 rfl (by omega) ?_
  refine lw_argC (k := 4) F dL_1591 dL_1592 dL_1593 dL_1594 dL_1595 rfl (by omega) ?_
  refine lw_argC (k := 5) F dL_1596 dL_1597 dL_1598 dL_1599 dL_1600 rfl (by omega) ?_
  refine lw_argB (k := 6) F dL_1601 dL_1602 dL_1603 dL_1605 dL_1606 rfl (by omega) ?_
  refine lw_argB (k := 7) F dL_1607 dL_1608 dL_1609 dL_1611 dL_1612 rfl (by omega) ?_
  refine lw_callM (As := [.int (xs (i + 1)), .int (xs (i + 2)), .int (xs (i + 3)), .int (xs (i + 4)), .int (xs (i + 5)), .int (xs (i + 6)), .int (xs (i + 7))]) (σM' := σM') F (c12_series σM (xs (i + 1)) (xs (i + 2)) (xs (i + 3)) (xs (i + 4)) (xs (i + 5)) (xs (i + 6)) (xs (i + 7)) r σM' hM) rfl (by decide) mk_12_series w_2088 w_2089 w_2087 rfl rfl (Nat.le_of_ble_eq_true rfl) dL_1613 ?_ hroom
  exact lw_eqI F dL_1616 rfl (next _ _ hR')
theorem lw_c30 (F : LF p s m meth c D ad cid b L xs) (hroom : nc ≤ 600000 ∧ ns ≤ 7302250) (hi : i + 9 ≤ L) (hR : Rel σC σM) (next : ∀ σC' σM' : Mem, Rel σC' σM' → LJ p l e s m below meth c D ad cid b nc ns (lsL ad b i) 2197 [] σC' σM') : LJ p l e s m below meth c D ad cid b nc ns (lsL ad b i) 1621 [] σC σM := by
  obtain ⟨r, σC', σM', hC, hM, hR'⟩ := st_wipeEvery hR (xs (i + 1)) (xs (i + 2)) (xs (i + 3)) (xs (i + 4)) (xs (i + 5))
  refine lw_aload 1 F dL_1621 rfl rfl ?_
  refine lw_argC (k := 1) F dL_1622 dL_1623 dL_1624 dL_1625 dL_1626 rfl (by omega) ?_
  refine lw_argC (k := 2) F dL_1627 dL_1628 dL_1629 dL_1630 dL_1631 rfl (by omega) ?_
  refine lw_argC (k := 3) F dL_1632 dL_1633 dL_1634 dL_1635 dL_1636 rfl (by omega) ?_
  refine lw_argC (k := 4) F dL_1637 dL_1638 dL_1639 dL_1640 dL_1641 rfl (by omega) ?_
  refine lw_argC (k := 5) F dL_1642 dL_1643 dL_1644 dL_1645 dL_1646 rfl (by omega) ?_
  refine lw_callC (As := [.int (xs (i + 1)), .int (xs (i + 2)), .int (xs (i + 3)), .int (xs (i + 4)), .int (xs (i + 5))]) (σC' := σC') F (c11_wipeEvery σC (xs (i + 1)) (xs (i + 2)) (xs (i + 3)) (xs (i + 4)) (xs (i + 5)) r σC' hC) rfl (by decide) mk_11_wipeEvery w_1255 w_1256 w_1254 rfl rfl (Nat.le_of_ble_eq_true rfl) dL_1647 ?_ hroom
  refine lw_aload 2 F dL_1650 rfl rfl ?_
  refine lw_argC (k := 1) F dL_1651 dL_1652 dL_1653 dL_1654 dL_1655 rfl (by omega) ?_
  refine lw_argC (k := 2) F dL_1656 dL_1657 dL_1658 dL_1659 dL_1660 rfl (by omega) ?_
  refine lw_argC (k := 3) F dL_1661 dL_1662 dL_1663 dL_1664 dL_1665 rfl (by omega) ?_
  refine lw_argC (k := 4) F dL_1666 dL_1667 dL_1668 dL_1669 dL_1670 rfl (by omega) ?_
  refine lw_argC (k := 5) F dL_1671 dL_1672 dL_1673 dL_1674 dL_1675 rfl (by omega) ?_
  refine lw_callM (As := [.int (xs (i + 1)), .int (xs (i + 2)), .int (xs (i + 3)), .int (xs (i + 4)), .int (xs (i + 5))]) (σM' := σM') F (c12_wipeEvery σM (xs (i + 1)) (xs (i + 2)) (xs (i + 3)) (xs (i + 4)) (xs (i + 5)) r σM' hM) rfl (by decide) mk_12_wipeEvery w_2097 w_2098 w_2096 rfl rfl (Nat.le_of_ble_eq_true rfl) dL_1676 ?_ hroom
  exact lw_eqI F dL_1679 rfl (next _ _ hR')
theorem lw_c31 (F : LF p s m meth c D ad cid b L xs) (hroom : nc ≤ 600000 ∧ ns ≤ 7302250) (hi : i + 9 ≤ L) (hR : Rel σC σM) (next : ∀ σC' σM' : Mem, Rel σC' σM' → LJ p l e s m below meth c D ad cid b nc ns (lsL ad b i) 2197 [] σC' σM') : LJ p l e s m below meth c D ad cid b nc ns (lsL ad b i) 1684 [] σC σM := by
  obtain ⟨r, σC', σM', hC, hM, hR'⟩ := st_turns hR (xs (i + 1)) (xs (i + 2)) (xs (i + 3)) (xs (i + 4)) (xs (i + 5)) (xs (i + 6))
  refine lw_aload 1 F dL_1684 rfl rfl ?_
  refine lw_argC (k := 1) F dL_1685 dL_1686 dL_1687 dL_1688 dL_1689 rfl (by omega) ?_
  refine lw_argC (k := 2) F dL_1690 dL_1691 dL_1692 dL_1693 dL_1694 rfl (by omega) ?_
  refine lw_argC (k := 3) F dL_1695 dL_1696 dL_1697 dL_1698 dL_1699 rfl (by omega) ?_
  refine lw_argC (k := 4) F dL_1700 dL_1701 dL_1702 dL_1703 dL_1704 rfl (by omega) ?_
  refine lw_argC (k := 5) F dL_1705 dL_1706 dL_1707 dL_1708 dL_1709 rfl (by omega) ?_
  refine lw_argB (k := 6) F dL_1710 dL_1711 dL_1712 dL_1714 dL_1715 rfl (by omega) ?_
  refine lw_callC (As := [.int (xs (i + 1)), .int (xs (i + 2)), .int (xs (i + 3)), .int (xs (i + 4)), .int (xs (i + 5)), .int (xs (i + 6))]) (σC' := σC') F (c11_turns σC (xs (i + 1)) (xs (i + 2)) (xs (i + 3)) (xs (i + 4)) (xs (i + 5)) (xs (i + 6)) r σC' hC) rfl (by decide) mk_11_turns w_1260 w_1261 w_1259 rfl rfl (Nat.le_of_ble_eq_true rfl) dL_1716 ?_ hroom
  refine lw_aload 2 F dL_1719 rfl rfl ?_
  refine lw_argC (k := 1) F dL_1720 dL_1721 dL_1722 dL_1723 dL_1724 rfl (by omega) ?_
  refine lw_argC (k := 2) F dL_1725 dL_1726 dL_1727 dL_1728 dL_1729 rfl (by omega) ?_
  refine lw_argC (k := 3) F dL_1730 dL_1731 dL_1732 dL_1733 dL_1734 rfl (by omega) ?_
  refine lw_argC (k := 4) F dL_1735 dL_1736 dL_1737 dL_1738 dL_1739 rfl (by omega) ?_
  refine lw_argC (k := 5) F dL_1740 dL_1741 dL_1742 dL_1743 dL_1744 rfl (by omega) ?_
  refine lw_argB (k := 6) F dL_1745 dL_1746 dL_1747 dL_1749 dL_1750 rfl (by omega) ?_
  refine lw_callM (As := [.int (xs (i + 1)), .int (xs (i + 2)), .int (xs (i + 3)), .int (xs (i + 4)), .int (xs (i + 5)), .int (xs (i + 6))]) (σM' := σM') F (c12_turns σM (xs (i + 1)) (xs (i + 2)) (xs (i + 3)) (xs (i + 4)) (xs (i + 5)) (xs (i + 6)) r σM' hM) rfl (by decide) mk_12_turns w_2103 w_2104 w_2102 rfl rfl (Nat.le_of_ble_eq_true rfl) dL_1751 ?_ hroom
  exact lw_eqI F dL_1754 rfl (next _ _ hR')
theorem lw_c32 (F : LF p s m meth c D ad cid b L xs) (hroom : nc ≤ 600000 ∧ ns ≤ 7302250) (hi : i + 9 ≤ L) (hR : Rel σC σM) (next : ∀ σC' σM' : Mem, Rel σC' σM' → LJ p l e s m below meth c D ad cid b nc ns (lsL ad b i) 2197 [] σC' σM') : LJ p l e s m below meth c D ad cid b nc ns (lsL ad b i) 1759 [] σC σM := by
  obtain ⟨r, σC', σM', hC, hM, hR'⟩ := st_knock hR (xs (i + 1)) (xs (i + 2)) (xs (i + 3))
  refine lw_aload 1 F dL_1759 rfl rfl ?_
  refine lw_argC (k := 1) F dL_1760 dL_1761 dL_1762 dL_1763 dL_1764 rfl (by omega) ?_
  refine lw_argC (k := 2) F dL_1765 dL_1766 dL_1767 dL_1768 dL_1769 rfl (by omega) ?_
  refine lw_argC (k := 3) F dL_1770 dL_1771 dL_1772 dL_1773 dL_1774 rfl (by omega) ?_
  refine lw_callC (As := [.int (xs (i + 1)), .int (xs (i + 2)), .int (xs (i + 3))]) (σC' := σC') F (c11_knock σC (xs (i + 1)) (xs (i + 2)) (xs (i + 3)) r σC' hC) rfl (by decide) mk_11_knock w_1285 w_1286 w_1284 rfl rfl (Nat.le_of_ble_eq_true rfl) dL_1775 ?_ hroom
  refine lw_aload 2 F dL_1778 rfl rfl ?_
  refine lw_argC (k := 1) F dL_1779 dL_1780 dL_1781 dL_1782 dL_1783 rfl (by omega) ?_
  refine lw_argC (k := 2) F dL_1784 dL_1785 dL_1786 dL_1787 dL_1788 rfl (by omega) ?_
  refine lw_argC (k := 3) F dL_1789 dL_1790 dL_1791 dL_1792 dL_1793 rfl (by omega) ?_
  refine lw_callM (As := [.int (xs (i + 1)), .int (xs (i + 2)), .int (xs (i + 3))]) (σM' := σM') F (c12_knock σM (xs (i + 1)) (xs (i + 2)) (xs (i + 3)) r σM' hM) rfl (by decide) mk_12_knock w_2117 w_2118 w_2116 rfl rfl (Nat.le_of_ble_eq_true rfl) dL_1794 ?_ hroom
  exact lw_eqI F dL_1797 rfl (next _ _ hR')
theorem lw_c33 (F : LF p s m meth c D ad cid b L xs) (hroom : nc ≤ 600000 ∧ ns ≤ 7302250) (hi : i + 9 ≤ L) (hR : Rel σC σM) (next : ∀ σC' σM' : Mem, Rel σC' σM' → LJ p l e s m below meth c D ad cid b nc ns (lsL ad b i) 2197 [] σC' σM') : LJ p l e s m below meth c D ad cid b nc ns (lsL ad b i) 1802 [] σC σM := by
  obtain ⟨r, σC', σM', hC, hM, hR'⟩ := st_hole hR (xs (i + 1)) (xs (i + 2))
  refine lw_aload 1 F dL_1802 rfl rfl ?_
  refine lw_argC (k := 1) F dL_1803 dL_1804 dL_1805 dL_1806 dL_1807 rfl (by omega) ?_
  refine lw_argC (k := 2) F dL_1808 dL_1809 dL_1810 dL_1811 dL_1812 rfl (by omega) ?_
  refine lw_callC (As := [.int (xs (i + 1)), .int (xs (i + 2))]) (σC' := σC') F (c11_hole σC (xs (i + 1)) (xs (i + 2)) r σC' hC) rfl (by decide) mk_11_hole w_1301 w_1302 w_1300 rfl rfl (Nat.le_of_ble_eq_true rfl) dL_1813 ?_ hroom
  refine lw_aload 2 F dL_1816 rfl rfl ?_
  refine lw_argC (k := 1) F dL_1817 dL_1818 dL_1819 dL_1820 dL_1821 rfl (by omega) ?_
  refine lw_argC (k := 2) F dL_1822 dL_1823 dL_1824 dL_1825 dL_1826 rfl (by omega) ?_
  refine lw_callM (As := [.int (xs (i + 1)), .int (xs (i + 2))]) (σM' := σM') F (c12_hole σM (xs (i + 1)) (xs (i + 2)) r σM' hM) rfl (by decide) mk_12_hole w_2137 w_2138 w_2136 rfl rfl (Nat.le_of_ble_eq_true rfl) dL_1827 ?_ hroom
  exact lw_eqI F dL_1830 rfl (next _ _ hR')
theorem lw_c34 (F : LF p s m meth c D ad cid b L xs) (hroom : nc ≤ 600000 ∧ ns ≤ 7302250) (hi : i + 9 ≤ L) (hR : Rel σC σM) (next : ∀ σC' σM' : Mem, Rel σC' σM' → LJ p l e s m below meth c D ad cid b nc ns (lsL ad b i) 2197 [] σC' σM') : LJ p l e s m below meth c D ad cid b nc ns (lsL ad b i) 1835 [] σC σM := by
  obtain ⟨r, σC', σM', hC, hM, hR'⟩ := st_lean hR (xs (i + 1)) (xs (i + 2)) (xs (i + 3))
  refine lw_aload 1 F dL_1835 rfl rfl ?_
  refine lw_argC (k := 1) F dL_1836 dL_1837 dL_1838 dL_1839 dL_1840 rfl (by omega) ?_
  refine lw_argC (k := 2) F dL_1841 dL_1842 dL_1843 dL_1844 dL_1845 rfl (by omega) ?_
  refine lw_argC (k := 3) F dL_1846 dL_1847 dL_1848 dL_1849 dL_1850 rfl (by omega) ?_
  refine lw_callC (As := [.int (xs (i + 1)), .int (xs (i + 2)), .int (xs (i + 3))]) (σC' := σC') F (c11_lean σC (xs (i + 1)) (xs (i + 2)) (xs (i + 3)) r σC' hC) rfl (by decide) mk_11_lean w_1305 w_1306 w_1304 rfl rfl (Nat.le_of_ble_eq_true rfl) dL_1851 ?_ hroom
  refine lw_aload 2 F dL_1854 rfl rfl ?_
  refine lw_argC (k := 1) F dL_1855 dL_1856 dL_1857 dL_1858 dL_1859 rfl (by omega) ?_
  refine lw_argC (k := 2) F dL_1860 dL_1861 dL_1862 dL_1863 dL_1864 rfl (by omega) ?_
  refine lw_argC (k := 3) F dL_1865 dL_1866 dL_1867 dL_1868 dL_1869 rfl (by omega) ?_
  refine lw_callM (As := [.int (xs (i + 1)), .int (xs (i + 2)), .int (xs (i + 3))]) (σM' := σM') F (c12_lean σM (xs (i + 1)) (xs (i + 2)) (xs (i + 3)) r σM' hM) rfl (by decide) mk_12_lean w_2141 w_2142 w_2140 rfl rfl (Nat.le_of_ble_eq_true rfl) dL_1870 ?_ hroom
  exact lw_eqI F dL_1873 rfl (next _ _ hR')
theorem lw_c35 (F : LF p s m meth c D ad cid b L xs) (hroom : nc ≤ 600000 ∧ ns ≤ 7302250) (hi : i + 9 ≤ L) (hR : Rel σC σM) (next : ∀ σC' σM' : Mem, Rel σC' σM' → LJ p l e s m below meth c D ad cid b nc ns (lsL ad b i) 2197 [] σC' σM') : LJ p l e s m below meth c D ad cid b nc ns (lsL ad b i) 1878 [] σC σM := by
  obtain ⟨r, σC', σM', hC, hM, hR'⟩ := st_whose hR (xs (i + 1)) (xs (i + 2))
  refine lw_aload 1 F dL_1878 rfl rfl ?_
  refine lw_argC (k := 1) F dL_1879 dL_1880 dL_1881 dL_1882 dL_1883 rfl (by omega) ?_
  refine lw_argC (k := 2) F dL_1884 dL_1885 dL_1886 dL_1887 dL_1888 rfl (by omega) ?_
  refine lw_callC (As := [.int (xs (i + 1)), .int (xs (i + 2))]) (σC' := σC') F (c11_whose σC (xs (i + 1)) (xs (i + 2)) r σC' hC) rfl (by decide) mk_11_whose w_1317 w_1318 w_1316 rfl rfl (Nat.le_of_ble_eq_true rfl) dL_1889 ?_ hroom
  refine lw_aload 2 F dL_1892 rfl rfl ?_
  refine lw_argC (k := 1) F dL_1893 dL_1894 dL_1895 dL_1896 dL_1897 rfl (by omega) ?_
  refine lw_argC (k := 2) F dL_1898 dL_1899 dL_1900 dL_1901 dL_1902 rfl (by omega) ?_
  refine lw_callM (As := [.int (xs (i + 1)), .int (xs (i + 2))]) (σM' := σM') F (c12_whose σM (xs (i + 1)) (xs (i + 2)) r σM' hM) rfl (by decide) mk_12_whose w_2153 w_2154 w_2152 rfl rfl (Nat.le_of_ble_eq_true rfl) dL_1903 ?_ hroom
  exact lw_eqI F dL_1906 rfl (next _ _ hR')
theorem lw_c36 (F : LF p s m meth c D ad cid b L xs) (hroom : nc ≤ 600000 ∧ ns ≤ 7302250) (hi : i + 9 ≤ L) (hR : Rel σC σM) (next : ∀ σC' σM' : Mem, Rel σC' σM' → LJ p l e s m below meth c D ad cid b nc ns (lsL ad b i) 2197 [] σC' σM') : LJ p l e s m below meth c D ad cid b nc ns (lsL ad b i) 1911 [] σC σM := by
  obtain ⟨r, σC', σM', hC, hM, hR'⟩ := st_worst hR (xs (i + 1))
  refine lw_aload 1 F dL_1911 rfl rfl ?_
  refine lw_argC (k := 1) F dL_1912 dL_1913 dL_1914 dL_1915 dL_1916 rfl (by omega) ?_
  refine lw_callC (As := [.int (xs (i + 1))]) (σC' := σC') F (c11_worst σC (xs (i + 1)) r σC' hC) rfl (by decide) mk_11_worst w_1325 w_1326 w_1324 rfl rfl (Nat.le_of_ble_eq_true rfl) dL_1917 ?_ hroom
  refine lw_aload 2 F dL_1920 rfl rfl ?_
  refine lw_argC (k := 1) F dL_1921 dL_1922 dL_1923 dL_1924 dL_1925 rfl (by omega) ?_
  refine lw_callM (As := [.int (xs (i + 1))]) (σM' := σM') F (c12_worst σM (xs (i + 1)) r σM' hM) rfl (by decide) mk_12_worst w_2158 w_2159 w_2157 rfl rfl (Nat.le_of_ble_eq_true rfl) dL_1926 ?_ hroom
  exact lw_eqI F dL_1929 rfl (next _ _ hR')
theorem lw_c37 (F : LF p s m meth c D ad cid b L xs) (hroom : nc ≤ 600000 ∧ ns ≤ 7302250) (hi : i + 9 ≤ L) (hR : Rel σC σM) (next : ∀ σC' σM' : Mem, Rel σC' σM' → LJ p l e s m below meth c D ad cid b nc ns (lsL ad b i) 2197 [] σC' σM') : LJ p l e s m below meth c D ad cid b nc ns (lsL ad b i) 1934 [] σC σM := by
  obtain ⟨r, σC', σM', hC, hM, hR'⟩ := st_sieve hR (xs (i + 1))
  refine lw_aload 1 F dL_1934 rfl rfl ?_
  refine lw_argC (k := 1) F dL_1935 dL_1936 dL_1937 dL_1938 dL_1939 rfl (by omega) ?_
  refine lw_callC (As := [.int (xs (i + 1))]) (σC' := σC') F (c11_sieve σC (xs (i + 1)) r σC' hC) rfl (by decide) mk_11_sieve w_1329 w_1330 w_1328 rfl rfl (Nat.le_of_ble_eq_true rfl) dL_1940 ?_ hroom
  refine lw_aload 2 F dL_1943 rfl rfl ?_
  refine lw_argC (k := 1) F dL_1944 dL_1945 dL_1946 dL_1947 dL_1948 rfl (by omega) ?_
  refine lw_callM (As := [.int (xs (i + 1))]) (σM' := σM') F (c12_sieve σM (xs (i + 1)) r σM' hM) rfl (by decide) mk_12_sieve w_2162 w_2163 w_2161 rfl rfl (Nat.le_of_ble_eq_true rfl) dL_1949 ?_ hroom
  exact lw_eqI F dL_1952 rfl (next _ _ hR')
theorem lw_c38 (F : LF p s m meth c D ad cid b L xs) (hroom : nc ≤ 600000 ∧ ns ≤ 7302250) (hi : i + 9 ≤ L) (hR : Rel σC σM) (next : ∀ σC' σM' : Mem, Rel σC' σM' → LJ p l e s m below meth c D ad cid b nc ns (lsL ad b i) 2197 [] σC' σM') : LJ p l e s m below meth c D ad cid b nc ns (lsL ad b i) 1957 [] σC σM := by
  obtain ⟨r, σC', σM', hC, hM, hR'⟩ := st_same hR 
  refine lw_aload 1 F dL_1957 rfl rfl ?_
  refine lw_callC (As := []) (σC' := σC') F (c11_same σC  r σC' hC) rfl (by decide) mk_11_same w_1333 w_1334 w_1332 rfl rfl (Nat.le_of_ble_eq_true rfl) dL_1958 ?_ hroom
  refine lw_aload 2 F dL_1961 rfl rfl ?_
  refine lw_callM (As := []) (σM' := σM') F (c12_same σM  r σM' hM) rfl (by decide) mk_12_same w_2167 w_2168 w_2166 rfl rfl (Nat.le_of_ble_eq_true rfl) dL_1962 ?_ hroom
  exact lw_eqI F dL_1965 rfl (next _ _ hR')
theorem lw_c39 (F : LF p s m meth c D ad cid b L xs) (hroom : nc ≤ 600000 ∧ ns ≤ 7302250) (hi : i + 9 ≤ L) (hR : Rel σC σM) (next : ∀ σC' σM' : Mem, Rel σC' σM' → LJ p l e s m below meth c D ad cid b nc ns (lsL ad b i) 2197 [] σC' σM') : LJ p l e s m below meth c D ad cid b nc ns (lsL ad b i) 1970 [] σC σM := by
  obtain ⟨r, σC', σM', hC, hM, hR'⟩ := st_shoot hR (xs (i + 1)) (xs (i + 2)) (xs (i + 3)) (xs (i + 4)) (xs (i + 5)) (xs (i + 6)) (xs (i + 7)) (xs (i + 8))
  refine lw_aload 1 F dL_1970 rfl rfl ?_
  refine lw_argC (k := 1) F dL_1971 dL_1972 dL_1973 dL_1974 dL_1975 rfl (by omega) ?_
  refine lw_argC (k := 2) F dL_1976 dL_1977 dL_1978 dL_1979 dL_1980 rfl (by omega) ?_
  refine lw_argC (k := 3) F dL_1981 dL_1982 dL_1983 dL_1984 dL_1985 rfl (by omega) ?_
  refine lw_argC (k := 4) F dL_1986 dL_1987 dL_1988 dL_1989 dL_1990 rfl (by omega) ?_
  refine lw_argC (k := 5) F dL_1991 dL_1992 dL_1993 dL_1994 dL_1995 rfl (by omega) ?_
  refine lw_argB (k := 6) F dL_1996 dL_1997 dL_1998 dL_2000 dL_2001 rfl (by omega) ?_
  refine lw_argB (k := 7) F dL_2002 dL_2003 dL_2004 dL_2006 dL_2007 rfl (by omega) ?_
  refine lw_argB (k := 8) F dL_2008 dL_2009 dL_2010 dL_2012 dL_2013 rfl (by omega) ?_
  refine lw_callC (As := [.int (xs (i + 1)), .int (xs (i + 2)), .int (xs (i + 3)), .int (xs (i + 4)), .int (xs (i + 5)), .int (xs (i + 6)), .int (xs (i + 7)), .int (xs (i + 8))]) (σC' := σC') F (c11_shoot σC (xs (i + 1)) (xs (i + 2)) (xs (i + 3)) (xs (i + 4)) (xs (i + 5)) (xs (i + 6)) (xs (i + 7)) (xs (i + 8)) r σC' hC) rfl (by decide) mk_11_shoot w_1341 w_1342 w_1340 rfl rfl (Nat.le_of_ble_eq_true rfl) dL_2014 ?_ hroom
  refine lw_aload 2 F dL_2017 rfl rfl ?_
  refine lw_argC (k := 1) F dL_2018 dL_2019 dL_2020 dL_2021 dL_2022 rfl (by omega) ?_
  refine lw_argC (k := 2) F dL_2023 dL_2024 dL_2025 dL_2026 dL_2027 rfl (by omega) ?_
  refine lw_argC (k := 3) F dL_2028 dL_2029 dL_2030 dL_2031 dL_2032 rfl (by omega) ?_
  refine lw_argC (k := 4) F dL_2033 dL_2034 dL_2035 dL_2036 dL_2037 rfl (by omega) ?_
  refine lw_argC (k := 5) F dL_2038 dL_2039 dL_2040 dL_2041 dL_2042 rfl (by omega) ?_
  refine lw_argB (k := 6) F dL_2043 dL_2044 dL_2045 dL_2047 dL_2048 rfl (by omega) ?_
  refine lw_argB (k := 7) F dL_2049 dL_2050 dL_2051 dL_2053 dL_2054 rfl (by omega) ?_
  refine lw_argB (k := 8) F dL_2055 dL_2056 dL_2057 dL_2059 dL_2060 rfl (by omega) ?_
  refine lw_callM (As := [.int (xs (i + 1)), .int (xs (i + 2)), .int (xs (i + 3)), .int (xs (i + 4)), .int (xs (i + 5)), .int (xs (i + 6)), .int (xs (i + 7)), .int (xs (i + 8))]) (σM' := σM') F (c12_shoot σM (xs (i + 1)) (xs (i + 2)) (xs (i + 3)) (xs (i + 4)) (xs (i + 5)) (xs (i + 6)) (xs (i + 7)) (xs (i + 8)) r σM' hM) rfl (by decide) mk_12_shoot w_2171 w_2172 w_2170 rfl rfl (Nat.le_of_ble_eq_true rfl) dL_2061 ?_ hroom
  exact lw_eqI F dL_2064 rfl (next _ _ hR')
theorem lw_c40 (F : LF p s m meth c D ad cid b L xs) (hroom : nc ≤ 600000 ∧ ns ≤ 7302250) (hi : i + 9 ≤ L) (hR : Rel σC σM) (next : ∀ σC' σM' : Mem, Rel σC' σM' → LJ p l e s m below meth c D ad cid b nc ns (lsL ad b i) 2197 [] σC' σM') : LJ p l e s m below meth c D ad cid b nc ns (lsL ad b i) 2069 [] σC σM := by
  obtain ⟨r, σC', σM', hC, hM, hR'⟩ := st_wipe hR 
  refine lw_aload 1 F dL_2069 rfl rfl ?_
  refine lw_callC (As := []) (σC' := σC') F (c11_wipe σC  r σC' hC) rfl (by decide) mk_11_wipe w_1352 w_1353 w_1351 rfl rfl (Nat.le_of_ble_eq_true rfl) dL_2070 ?_ hroom
  refine lw_aload 2 F dL_2073 rfl rfl ?_
  refine lw_callM (As := []) (σM' := σM') F (c12_wipe σM  r σM' hM) rfl (by decide) mk_12_wipe w_2181 w_2182 w_2180 rfl rfl (Nat.le_of_ble_eq_true rfl) dL_2074 ?_ hroom
  exact lw_eqI F dL_2077 rfl (next _ _ hR')
theorem lw_c41 (F : LF p s m meth c D ad cid b L xs) (hroom : nc ≤ 600000 ∧ ns ≤ 7302250) (hi : i + 9 ≤ L) (hR : Rel σC σM) (next : ∀ σC' σM' : Mem, Rel σC' σM' → LJ p l e s m below meth c D ad cid b nc ns (lsL ad b i) 2197 [] σC' σM') : LJ p l e s m below meth c D ad cid b nc ns (lsL ad b i) 2082 [] σC σM := by
  obtain ⟨r, σC', σM', hC, hM, hR'⟩ := st_play hR (xs (i + 1))
  refine lw_aload 1 F dL_2082 rfl rfl ?_
  refine lw_argC (k := 1) F dL_2083 dL_2084 dL_2085 dL_2086 dL_2087 rfl (by omega) ?_
  refine lw_callC (As := [.int (xs (i + 1))]) (σC' := σC') F (c11_play σC (xs (i + 1)) r σC' hC) rfl (by decide) mk_11_play w_1356 w_1357 w_1355 rfl rfl (Nat.le_of_ble_eq_true rfl) dL_2088 ?_ hroom
  refine lw_aload 2 F dL_2091 rfl rfl ?_
  refine lw_argC (k := 1) F dL_2092 dL_2093 dL_2094 dL_2095 dL_2096 rfl (by omega) ?_
  refine lw_callM (As := [.int (xs (i + 1))]) (σM' := σM') F (c12_play σM (xs (i + 1)) r σM' hM) rfl (by decide) mk_12_play w_2185 w_2186 w_2184 rfl rfl (Nat.le_of_ble_eq_true rfl) dL_2097 ?_ hroom
  exact lw_eqI F dL_2100 rfl (next _ _ hR')
theorem lw_c42 (F : LF p s m meth c D ad cid b L xs) (hroom : nc ≤ 600000 ∧ ns ≤ 7302250) (hi : i + 9 ≤ L) (hR : Rel σC σM) (next : ∀ σC' σM' : Mem, Rel σC' σM' → LJ p l e s m below meth c D ad cid b nc ns (lsL ad b i) 2197 [] σC' σM') : LJ p l e s m below meth c D ad cid b nc ns (lsL ad b i) 2105 [] σC σM := by
  obtain ⟨r, σC', σM', hC, hM, hR'⟩ := st_played hR (xs (i + 1))
  refine lw_aload 1 F dL_2105 rfl rfl ?_
  refine lw_argC (k := 1) F dL_2106 dL_2107 dL_2108 dL_2109 dL_2110 rfl (by omega) ?_
  refine lw_callC (As := [.int (xs (i + 1))]) (σC' := σC') F (c11_played σC (xs (i + 1)) r σC' hC) rfl (by decide) mk_11_played w_1405 w_1406 w_1404 rfl rfl (Nat.le_of_ble_eq_true rfl) dL_2111 ?_ hroom
  refine lw_aload 2 F dL_2114 rfl rfl ?_
  refine lw_argC (k := 1) F dL_2115 dL_2116 dL_2117 dL_2118 dL_2119 rfl (by omega) ?_
  refine lw_callM (As := [.int (xs (i + 1))]) (σM' := σM') F (c12_played σM (xs (i + 1)) r σM' hM) rfl (by decide) mk_12_played w_2223 w_2224 w_2222 rfl rfl (Nat.le_of_ble_eq_true rfl) dL_2120 ?_ hroom
  exact lw_eqI F dL_2123 rfl (next _ _ hR')
theorem lw_c43 (F : LF p s m meth c D ad cid b L xs) (hroom : nc ≤ 600000 ∧ ns ≤ 7302250) (hi : i + 9 ≤ L) (hR : Rel σC σM) (next : ∀ σC' σM' : Mem, Rel σC' σM' → LJ p l e s m below meth c D ad cid b nc ns (lsL ad b i) 2197 [] σC' σM') : LJ p l e s m below meth c D ad cid b nc ns (lsL ad b i) 2128 [] σC σM := by
  obtain ⟨r, σC', σM', hC, hM, hR'⟩ := st_wins hR (xs (i + 1)) (xs (i + 2)) (xs (i + 3))
  refine lw_aload 1 F dL_2128 rfl rfl ?_
  refine lw_argC (k := 1) F dL_2129 dL_2130 dL_2131 dL_2132 dL_2133 rfl (by omega) ?_
  refine lw_argC (k := 2) F dL_2134 dL_2135 dL_2136 dL_2137 dL_2138 rfl (by omega) ?_
  refine lw_argC (k := 3) F dL_2139 dL_2140 dL_2141 dL_2142 dL_2143 rfl (by omega) ?_
  refine lw_callC (As := [.int (xs (i + 1)), .int (xs (i + 2)), .int (xs (i + 3))]) (σC' := σC') F (c11_wins σC (xs (i + 1)) (xs (i + 2)) (xs (i + 3)) r σC' hC) rfl (by decide) mk_11_wins w_1409 w_1410 w_1408 rfl rfl (Nat.le_of_ble_eq_true rfl) dL_2144 ?_ hroom
  refine lw_aload 2 F dL_2147 rfl rfl ?_
  refine lw_argC (k := 1) F dL_2148 dL_2149 dL_2150 dL_2151 dL_2152 rfl (by omega) ?_
  refine lw_argC (k := 2) F dL_2153 dL_2154 dL_2155 dL_2156 dL_2157 rfl (by omega) ?_
  refine lw_argC (k := 3) F dL_2158 dL_2159 dL_2160 dL_2161 dL_2162 rfl (by omega) ?_
  refine lw_callM (As := [.int (xs (i + 1)), .int (xs (i + 2)), .int (xs (i + 3))]) (σM' := σM') F (c12_wins σM (xs (i + 1)) (xs (i + 2)) (xs (i + 3)) r σM' hM) rfl (by decide) mk_12_wins w_2227 w_2228 w_2226 rfl rfl (Nat.le_of_ble_eq_true rfl) dL_2163 ?_ hroom
  exact lw_eqI F dL_2166 rfl (next _ _ hR')
theorem lw_c44 (F : LF p s m meth c D ad cid b L xs) (hroom : nc ≤ 600000 ∧ ns ≤ 7302250) (hi : i + 9 ≤ L) (hR : Rel σC σM) (next : ∀ σC' σM' : Mem, Rel σC' σM' → LJ p l e s m below meth c D ad cid b nc ns (lsL ad b i) 2197 [] σC' σM') : LJ p l e s m below meth c D ad cid b nc ns (lsL ad b i) 2171 [] σC σM := by
  obtain ⟨r, σC', σM', hC, hM, hR'⟩ := st_mark hR 
  refine lw_aload 1 F dL_2171 rfl rfl ?_
  refine lw_callC (As := []) (σC' := σC') F (c11_mark σC  r σC' hC) rfl (by decide) mk_11_mark w_1422 w_1423 w_1421 rfl rfl (Nat.le_of_ble_eq_true rfl) dL_2172 ?_ hroom
  refine lw_aload 2 F dL_2175 rfl rfl ?_
  refine lw_callM (As := []) (σM' := σM') F (c12_mark σM  r σM' hM) rfl (by decide) mk_12_mark w_2235 w_2236 w_2234 rfl rfl (Nat.le_of_ble_eq_true rfl) dL_2176 ?_ hroom
  exact lw_eqI F dL_2179 rfl (next _ _ hR')
theorem lw_c45 (F : LF p s m meth c D ad cid b L xs) (hroom : nc ≤ 600000 ∧ ns ≤ 7302250) (hi : i + 9 ≤ L) (hR : Rel σC σM) (next : ∀ σC' σM' : Mem, Rel σC' σM' → LJ p l e s m below meth c D ad cid b nc ns (lsL ad b i) 2197 [] σC' σM') : LJ p l e s m below meth c D ad cid b nc ns (lsL ad b i) 2184 [] σC σM := by
  obtain ⟨r, σC', σM', hC, hM, hR'⟩ := st_back hR 
  refine lw_aload 1 F dL_2184 rfl rfl ?_
  refine lw_callC (As := []) (σC' := σC') F (c11_back σC  r σC' hC) rfl (by decide) mk_11_back w_1441 w_1442 w_1440 rfl rfl (Nat.le_of_ble_eq_true rfl) dL_2185 ?_ hroom
  refine lw_aload 2 F dL_2188 rfl rfl ?_
  refine lw_callM (As := []) (σM' := σM') F (c12_back σM  r σM' hM) rfl (by decide) mk_12_back w_2239 w_2240 w_2238 rfl rfl (Nat.le_of_ble_eq_true rfl) dL_2189 ?_ hroom
  exact lw_eqI F dL_2192 rfl (next _ _ hR')
end LWY
