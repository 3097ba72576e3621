theorem d_L_law_1194 : decode code 1194 = .ok (.iaload, 1) := by decide +kernel
theorem d_L_law_1195 : decode code 1195 = .ok (.invokevirtual 142, 3) := by decide +kernel
theorem d_L_law_1198 : decode code 1198 = .ok (.aload_n 2, 1) := by decide +kernel
theorem d_L_law_1199 : decode code 1199 = .ok (.aload_n 0, 1) := by decide +kernel
theorem d_L_law_1200 : decode code 1200 = .ok (.iload_n 3, 1) := by decide +kernel
theorem d_L_law_1201 : decode code 1201 = .ok (.iconst 1, 1) := by decide +kernel
theorem d_L_law_1202 : decode code 1202 = .ok (.iadd, 1) := by decide +kernel
theorem d_L_law_1203 : decode code 1203 = .ok (.iaload, 1) := by decide +kernel
theorem d_L_law_1204 : decode code 1204 = .ok (.aload_n 0, 1) := by decide +kernel
theorem d_L_law_1205 : decode code 1205 = .ok (.iload_n 3, 1) := by decide +kernel
theorem d_L_law_1206 : decode code 1206 = .ok (.iconst 2, 1) := by decide +kernel
theorem d_L_law_1207 : decode code 1207 = .ok (.iadd, 1) := by decide +kernel
theorem d_L_law_1208 : decode code 1208 = .ok (.iaload, 1) := by decide +kernel
theorem d_L_law_1209 : decode code 1209 = .ok (.invokevirtual 145, 3) := by decide +kernel
theorem d_L_law_1212 : decode code 1212 = .ok (.if_icmp .eq 318, 3) := by decide +kernel
theorem d_L_law_1215 : decode code 1215 = .ok (.iconst 0, 1) := by decide +kernel
theorem d_L_law_1217 : decode code 1217 = .ok (.aload_n 1, 1) := by decide +kernel
theorem d_L_law_1218 : decode code 1218 = .ok (.aload_n 0, 1) := by decide +kernel
theorem d_L_law_1219 : decode code 1219 = .ok (.iload_n 3, 1) := by decide +kernel
theorem d_L_law_1220 : decode code 1220 = .ok (.iconst 1, 1) := by decide +kernel
theorem d_L_law_1221 : decode code 1221 = .ok (.iadd, 1) := by decide +kernel
theorem d_L_law_1222 : decode code 1222 = .ok (.iaload, 1) := by decide +kernel
theorem d_L_law_1223 : decode code 1223 = .ok (.aload_n 0, 1) := by decide +kernel
theorem d_L_law_1224 : decode code 1224 = .ok (.iload_n 3, 1) := by decide +kernel
theorem d_L_law_1225 : decode code 1225 = .ok (.iconst 2, 1) := by decide +kernel
theorem d_L_law_1226 : decode code 1226 = .ok (.iadd, 1) := by decide +kernel
theorem d_L_law_1227 : decode code 1227 = .ok (.iaload, 1) := by decide +kernel
theorem d_L_law_1228 : decode code 1228 = .ok (.invokevirtual 146, 3) := by decide +kernel
theorem d_L_law_1231 : decode code 1231 = .ok (.aload_n 2, 1) := by decide +kernel
theorem d_L_law_1232 : decode code 1232 = .ok (.aload_n 0, 1) := by decide +kernel
theorem d_L_law_1233 : decode code 1233 = .ok (.iload_n 3, 1) := by decide +kernel
theorem d_L_law_1234 : decode code 1234 = .ok (.iconst 1, 1) := by decide +kernel
theorem d_L_law_1235 : decode code 1235 = .ok (.iadd, 1) := by decide +kernel
theorem d_L_law_1236 : decode code 1236 = .ok (.iaload, 1) := by decide +kernel
theorem d_L_law_1237 : decode code 1237 = .ok (.aload_n 0, 1) := by decide +kernel
theorem d_L_law_1238 : decode code 1238 = .ok (.iload_n 3, 1) := by decide +kernel
theorem d_L_law_1239 : decode code 1239 = .ok (.iconst 2, 1) := by decide +kernel
theorem d_L_law_1240 : decode code 1240 = .ok (.iadd, 1) := by decide +kernel
theorem d_L_law_1241 : decode code 1241 = .ok (.iaload, 1) := by decide +kernel
theorem d_L_law_1242 : decode code 1242 = .ok (.invokevirtual 149, 3) := by decide +kernel
theorem d_L_law_1245 : decode code 1245 = .ok (.if_icmp .eq 285, 3) := by decide +kernel
theorem d_L_law_1248 : decode code 1248 = .ok (.iconst 0, 1) := by decide +kernel
theorem d_L_law_1250 : decode code 1250 = .ok (.aload_n 1, 1) := by decide +kernel
theorem d_L_law_1251 : decode code 1251 = .ok (.aload_n 0, 1) := by decide +kernel
theorem d_L_law_1252 : decode code 1252 = .ok (.iload_n 3, 1) := by decide +kernel
theorem d_L_law_1253 : decode code 1253 = .ok (.iconst 1, 1) := by decide +kernel
theorem d_L_law_1254 : decode code 1254 = .ok (.iadd, 1) := by decide +kernel
theorem d_L_law_1255 : decode code 1255 = .ok (.iaload, 1) := by decide +kernel
theorem d_L_law_1256 : decode code 1256 = .ok (.aload_n 0, 1) := by decide +kernel
theorem d_L_law_1257 : decode code 1257 = .ok (.iload_n 3, 1) := by decide +kernel
theorem d_L_law_1258 : decode code 1258 = .ok (.iconst 2, 1) := by decide +kernel
theorem d_L_law_1259 : decode code 1259 = .ok (.iadd, 1) := by decide +kernel
theorem d_L_law_1260 : decode code 1260 = .ok (.iaload, 1) := by decide +kernel
theorem d_L_law_1261 : decode code 1261 = .ok (.aload_n 0, 1) := by decide +kernel
theorem d_L_law_1262 : decode code 1262 = .ok (.iload_n 3, 1) := by decide +kernel
theorem d_L_law_1263 : decode code 1263 = .ok (.iconst 3, 1) := by decide +kernel
theorem d_L_law_1264 : decode code 1264 = .ok (.iadd, 1) := by decide +kernel
theorem d_L_law_1265 : decode code 1265 = .ok (.iaload, 1) := by decide +kernel
theorem d_L_law_1266 : decode code 1266 = .ok (.invokevirtual 150, 3) := by decide +kernel
theorem d_L_law_1269 : decode code 1269 = .ok (.aload_n 2, 1) := by decide +kernel
theorem d_L_law_1270 : decode code 1270 = .ok (.aload_n 0, 1) := by decide +kernel
theorem d_L_law_1271 : decode code 1271 = .ok (.iload_n 3, 1) := by decide +kernel
theorem d_L_law_1272 : decode code 1272 = .ok (.iconst 1, 1) := by decide +kernel
theorem d_L_law_1273 : decode code 1273 = .ok (.iadd, 1) := by decide +kernel
theorem d_L_law_1274 : decode code 1274 = .ok (.iaload, 1) := by decide +kernel
theorem d_L_law_1275 : decode code 1275 = .ok (.aload_n 0, 1) := by decide +kernel
theorem d_L_law_1276 : decode code 1276 = .ok (.iload_n 3, 1) := by decide +kernel
theorem d_L_law_1277 : decode code 1277 = .ok (.iconst 2, 1) := by decide +kernel
theorem d_L_law_1278 : decode code 1278 = .ok (.iadd, 1) := by decide +kernel
theorem d_L_law_1279 : decode code 1279 = .ok (.iaload, 1) := by decide +kernel
theorem d_L_law_1280 : decode code 1280 = .ok (.aload_n 0, 1) := by decide +kernel
theorem d_L_law_1281 : decode code 1281 = .ok (.iload_n 3, 1) := by decide +kernel
theorem d_L_law_1282 : decode code 1282 = .ok (.iconst 3, 1) := by decide +kernel
theorem d_L_law_1283 : decode code 1283 = .ok (.iadd, 1) := by decide +kernel
theorem d_L_law_1284 : decode code 1284 = .ok (.iaload, 1) := by decide +kernel
theorem d_L_law_1285 : decode code 1285 = .ok (.invokevirtual 153, 3) := by decide +kernel
theorem d_L_law_1288 : decode code 1288 = .ok (.if_icmp .eq 242, 3) := by decide +kernel
theorem d_L_law_1291 : decode code 1291 = .ok (.iconst 0, 1) := by decide +kernel
theorem d_L_law_1293 : decode code 1293 = .ok (.aload_n 1, 1) := by decide +kernel
theorem d_L_law_1294 : decode code 1294 = .ok (.aload_n 0, 1) := by decide +kernel
theorem d_L_law_1295 : decode code 1295 = .ok (.iload_n 3, 1) := by decide +kernel
theorem d_L_law_1296 : decode code 1296 = .ok (.iconst 1, 1) := by decide +kernel
theorem d_L_law_1297 : decode code 1297 = .ok (.iadd, 1) := by decide +kernel
theorem d_L_law_1298 : decode code 1298 = .ok (.iaload, 1) := by decide +kernel
theorem d_L_law_1299 : decode code 1299 = .ok (.aload_n 0, 1) := by decide +kernel
theorem d_L_law_1300 : decode code 1300 = .ok (.iload_n 3, 1) := by decide +kernel
theorem d_L_law_1301 : decode code 1301 = .ok (.iconst 2, 1) := by decide +kernel
theorem d_L_law_1302 : decode code 1302 = .ok (.iadd, 1) := by decide +kernel
theorem d_L_law_1303 : decode code 1303 = .ok (.iaload, 1) := by decide +kernel
theorem d_L_law_1304 : decode code 1304 = .ok (.aload_n 0, 1) := by decide +kernel
theorem d_L_law_1305 : decode code 1305 = .ok (.iload_n 3, 1) := by decide +kernel
theorem d_L_law_1306 : decode code 1306 = .ok (.iconst 3, 1) := by decide +kernel
theorem d_L_law_1307 : decode code 1307 = .ok (.iadd, 1) := by decide +kernel
theorem d_L_law_1308 : decode code 1308 = .ok (.iaload, 1) := by decide +kernel
theorem d_L_law_1309 : decode code 1309 = .ok (.invokevirtual 154, 3) := by decide +kernel
theorem d_L_law_1312 : decode code 1312 = .ok (.aload_n 2, 1) := by decide +kernel
theorem d_L_law_1313 : decode code 1313 = .ok (.aload_n 0, 1) := by decide +kernel
theorem d_L_law_1314 : decode code 1314 = .ok (.iload_n 3, 1) := by decide +kernel
theorem d_L_law_1315 : decode code 1315 = .ok (.iconst 1, 1) := by decide +kernel
theorem d_L_law_1316 : decode code 1316 = .ok (.iadd, 1) := by decide +kernel
theorem d_L_law_1317 : decode code 1317 = .ok (.iaload, 1) := by decide +kernel
theorem d_L_law_1318 : decode code 1318 = .ok (.aload_n 0, 1) := by decide +kernel
theorem d_L_law_1319 : decode code 1319 = .ok (.iload_n 3, 1) := by decide +kernel
theorem d_L_law_1320 : decode code 1320 = .ok (.iconst 2, 1) := by decide +kernel
theorem d_L_law_1321 : decode code 1321 = .ok (.iadd, 1) := by decide +kernel
theorem d_L_law_1322 : decode code 1322 = .ok (.iaload, 1) := by decide +kernel
theorem d_L_law_1323 : decode code 1323 = .ok (.aload_n 0, 1) := by decide +kernel
theorem d_L_law_1324 : decode code 1324 = .ok (.iload_n 3, 1) := by decide +kernel
theorem d_L_law_1325 : decode code 1325 = .ok (.iconst 3, 1) := by decide +kernel
theorem d_L_law_1326 : decode code 1326 = .ok (.iadd, 1) := by decide +kernel
theorem d_L_law_1327 : decode code 1327 = .ok (.iaload, 1) := by decide +kernel
theorem d_L_law_1328 : decode code 1328 = .ok (.invokevirtual 157, 3) := by decide +kernel
theorem d_L_law_1331 : decode code 1331 = .ok (.if_icmp .eq 199, 3) := by decide +kernel
theorem d_L_law_1334 : decode code 1334 = .ok (.iconst 0, 1) := by decide +kernel
theorem d_L_law_1336 : decode code 1336 = .ok (.aload_n 1, 1) := by decide +kernel
theorem d_L_law_1337 : decode code 1337 = .ok (.aload_n 0, 1) := by decide +kernel
theorem d_L_law_1338 : decode code 1338 = .ok (.iload_n 3, 1) := by decide +kernel
theorem d_L_law_1339 : decode code 1339 = .ok (.iconst 1, 1) := by decide +kernel
theorem d_L_law_1340 : decode code 1340 = .ok (.iadd, 1) := by decide +kernel
theorem d_L_law_1341 : decode code 1341 = .ok (.iaload, 1) := by decide +kernel
theorem d_L_law_1342 : decode code 1342 = .ok (.aload_n 0, 1) := by decide +kernel
theorem d_L_law_1343 : decode code 1343 = .ok (.iload_n 3, 1) := by decide +kernel
theorem d_L_law_1344 : decode code 1344 = .ok (.iconst 2, 1) := by decide +kernel
theorem d_L_law_1345 : decode code 1345 = .ok (.iadd, 1) := by decide +kernel
theorem d_L_law_1346 : decode code 1346 = .ok (.iaload, 1) := by decide +kernel
theorem d_L_law_1347 : decode code 1347 = .ok (.aload_n 0, 1) := by decide +kernel
theorem d_L_law_1348 : decode code 1348 = .ok (.iload_n 3, 1) := by decide +kernel
theorem d_L_law_1349 : decode code 1349 = .ok (.iconst 3, 1) := by decide +kernel
theorem d_L_law_1350 : decode code 1350 = .ok (.iadd, 1) := by decide +kernel
theorem d_L_law_1351 : decode code 1351 = .ok (.iaload, 1) := by decide +kernel
theorem d_L_law_1352 : decode code 1352 = .ok (.aload_n 0, 1) := by decide +kernel
theorem d_L_law_1353 : decode code 1353 = .ok (.iload_n 3, 1) := by decide +kernel
theorem d_L_law_1354 : decode code 1354 = .ok (.iconst 4, 1) := by decide +kernel
theorem d_L_law_1355 : decode code 1355 = .ok (.iadd, 1) := by decide +kernel
theorem d_L_law_1356 : decode code 1356 = .ok (.iaload, 1) := by decide +kernel
theorem d_L_law_1357 : decode code 1357 = .ok (.aload_n 0, 1) := by decide +kernel
theorem d_L_law_1358 : decode code 1358 = .ok (.iload_n 3, 1) := by decide +kernel
theorem d_L_law_1359 : decode code 1359 = .ok (.iconst 5, 1) := by decide +kernel
theorem d_L_law_1360 : decode code 1360 = .ok (.iadd, 1) := by decide +kernel
theorem d_L_law_1361 : decode code 1361 = .ok (.iaload, 1) := by decide +kernel
theorem d_L_law_1362 : decode code 1362 = .ok (.invokevirtual 158, 3) := by decide +kernel
theorem d_L_law_1365 : decode code 1365 = .ok (.aload_n 2, 1) := by decide +kernel
theorem d_L_law_1366 : decode code 1366 = .ok (.aload_n 0, 1) := by decide +kernel
theorem d_L_law_1367 : decode code 1367 = .ok (.iload_n 3, 1) := by decide +kernel
theorem d_L_law_1368 : decode code 1368 = .ok (.iconst 1, 1) := by decide +kernel
theorem d_L_law_1369 : decode code 1369 = .ok (.iadd, 1) := by decide +kernel
theorem d_L_law_1370 : decode code 1370 = .ok (.iaload, 1) := by decide +kernel
theorem d_L_law_1371 : decode code 1371 = .ok (.aload_n 0, 1) := by decide +kernel
theorem d_L_law_1372 : decode code 1372 = .ok (.iload_n 3, 1) := by decide +kernel
theorem d_L_law_1373 : decode code 1373 = .ok (.iconst 2, 1) := by decide +kernel
theorem d_L_law_1374 : decode code 1374 = .ok (.iadd, 1) := by decide +kernel
theorem d_L_law_1375 : decode code 1375 = .ok (.iaload, 1) := by decide +kernel
theorem d_L_law_1376 : decode code 1376 = .ok (.aload_n 0, 1) := by decide +kernel
theorem d_L_law_1377 : decode code 1377 = .ok (.iload_n 3, 1) := by decide +kernel
theorem d_L_law_1378 : decode code 1378 = .ok (.iconst 3, 1) := by decide +kernel
theorem d_L_law_1379 : decode code 1379 = .ok (.iadd, 1) := by decide +kernel
theorem d_L_law_1380 : decode code 1380 = .ok (.iaload, 1) := by decide +kernel
theorem d_L_law_1381 : decode code 1381 = .ok (.aload_n 0, 1) := by decide +kernel
theorem d_L_law_1382 : decode code 1382 = .ok (.iload_n 3, 1) := by decide +kernel
theorem d_L_law_1383 : decode code 1383 = .ok (.iconst 4, 1) := by decide +kernel
theorem d_L_law_1384 : decode code 1384 = .ok (.iadd, 1) := by decide +kernel
theorem d_L_law_1385 : decode code 1385 = .ok (.iaload, 1) := by decide +kernel
theorem d_L_law_1386 : decode code 1386 = .ok (.aload_n 0, 1) := by decide +kernel
theorem d_L_law_1387 : decode code 1387 = .ok (.iload_n 3, 1) := by decide +kernel
theorem d_L_law_1388 : decode code 1388 = .ok (.iconst 5, 1) := by decide +kernel
theorem d_L_law_1389 : decode code 1389 = .ok (.iadd, 1) := by decide +kernel
theorem d_L_law_1390 : decode code 1390 = .ok (.iaload, 1) := by decide +kernel
theorem d_L_law_1391 : decode code 1391 = .ok (.invokevirtual 162, 3) := by decide +kernel
theorem d_L_law_1394 : decode code 1394 = .ok (.if_icmp .eq 136, 3) := by decide +kernel
theorem d_L_law_1397 : decode code 1397 = .ok (.iconst 0, 1) := by decide +kernel
theorem d_L_law_1399 : decode code 1399 = .ok (.aload_n 1, 1) := by decide +kernel
theorem d_L_law_1400 : decode code 1400 = .ok (.aload_n 0, 1) := by decide +kernel
theorem d_L_law_1401 : decode code 1401 = .ok (.iload_n 3, 1) := by decide +kernel
theorem d_L_law_1402 : decode code 1402 = .ok (.iconst 1, 1) := by decide +kernel
theorem d_L_law_1403 : decode code 1403 = .ok (.iadd, 1) := by decide +kernel
theorem d_L_law_1404 : decode code 1404 = .ok (.iaload, 1) := by decide +kernel
theorem d_L_law_1405 : decode code 1405 = .ok (.invokevirtual 163, 3) := by decide +kernel
theorem d_L_law_1408 : decode code 1408 = .ok (.aload_n 2, 1) := by decide +kernel
theorem d_L_law_1409 : decode code 1409 = .ok (.aload_n 0, 1) := by decide +kernel
theorem d_L_law_1410 : decode code 1410 = .ok (.iload_n 3, 1) := by decide +kernel
theorem d_L_law_1411 : decode code 1411 = .ok (.iconst 1, 1) := by decide +kernel
theorem d_L_law_1412 : decode code 1412 = .ok (.iadd, 1) := by decide +kernel
theorem d_L_law_1413 : decode code 1413 = .ok (.iaload, 1) := by decide +kernel
theorem d_L_law_1414 : decode code 1414 = .ok (.invokevirtual 166, 3) := by decide +kernel
theorem d_L_law_1417 : decode code 1417 = .ok (.if_icmp .eq 113, 3) := by decide +kernel
theorem d_L_law_1420 : decode code 1420 = .ok (.iconst 0, 1) := by decide +kernel
theorem d_L_law_1422 : decode code 1422 = .ok (.aload_n 1, 1) := by decide +kernel
theorem d_L_law_1423 : decode code 1423 = .ok (.aload_n 0, 1) := by decide +kernel
theorem d_L_law_1424 : decode code 1424 = .ok (.iload_n 3, 1) := by decide +kernel
theorem d_L_law_1425 : decode code 1425 = .ok (.iconst 1, 1) := by decide +kernel
theorem d_L_law_1426 : decode code 1426 = .ok (.iadd, 1) := by decide +kernel
theorem d_L_law_1427 : decode code 1427 = .ok (.iaload, 1) := by decide +kernel
theorem d_L_law_1428 : decode code 1428 = .ok (.invokevirtual 167, 3) := by decide +kernel
theorem d_L_law_1431 : decode code 1431 = .ok (.aload_n 2, 1) := by decide +kernel
theorem d_L_law_1432 : decode code 1432 = .ok (.aload_n 0, 1) := by decide +kernel
theorem d_L_law_1433 : decode code 1433 = .ok (.iload_n 3, 1) := by decide +kernel
theorem d_L_law_1434 : decode code 1434 = .ok (.iconst 1, 1) := by decide +kernel
theorem d_L_law_1435 : decode code 1435 = .ok (.iadd, 1) := by decide +kernel
theorem d_L_law_1436 : decode code 1436 = .ok (.iaload, 1) := by decide +kernel
theorem d_L_law_1437 : decode code 1437 = .ok (.invokevirtual 170, 3) := by decide +kernel
theorem d_L_law_1440 : decode code 1440 = .ok (.if_icmp .eq 90, 3) := by decide +kernel
theorem d_L_law_1443 : decode code 1443 = .ok (.iconst 0, 1) := by decide +kernel
theorem d_L_law_1445 : decode code 1445 = .ok (.aload_n 1, 1) := by decide +kernel
theorem d_L_law_1446 : decode code 1446 = .ok (.invokevirtual 171, 3) := by decide +kernel
theorem d_L_law_1449 : decode code 1449 = .ok (.aload_n 2, 1) := by decide +kernel
theorem d_L_law_1450 : decode code 1450 = .ok (.invokevirtual 174, 3) := by decide +kernel
theorem d_L_law_1453 : decode code 1453 = .ok (.if_icmp .eq 77, 3) := by decide +kernel
theorem d_L_law_1456 : decode code 1456 = .ok (.iconst 0, 1) := by decide +kernel
theorem d_L_law_1458 : decode code 1458 = .ok (.aload_n 1, 1) := by decide +kernel
theorem d_L_law_1459 : decode code 1459 = .ok (.invokevirtual 175, 3) := by decide +kernel
theorem d_L_law_1462 : decode code 1462 = .ok (.aload_n 2, 1) := by decide +kernel
theorem d_L_law_1463 : decode code 1463 = .ok (.invokevirtual 178, 3) := by decide +kernel
theorem d_L_law_1466 : decode code 1466 = .ok (.if_icmp .eq 64, 3) := by decide +kernel
theorem d_L_law_1469 : decode code 1469 = .ok (.iconst 0, 1) := by decide +kernel
theorem d_L_law_1471 : decode code 1471 = .ok (.aload_n 1, 1) := by decide +kernel
theorem d_L_law_1472 : decode code 1472 = .ok (.invokevirtual 179, 3) := by decide +kernel
theorem d_L_law_1475 : decode code 1475 = .ok (.aload_n 2, 1) := by decide +kernel
theorem d_L_law_1476 : decode code 1476 = .ok (.invokevirtual 182, 3) := by decide +kernel
theorem d_L_law_1479 : decode code 1479 = .ok (.if_icmp .eq 51, 3) := by decide +kernel
theorem d_L_law_1482 : decode code 1482 = .ok (.iconst 0, 1) := by decide +kernel
theorem d_L_law_1484 : decode code 1484 = .ok (.aload_n 1, 1) := by decide +kernel
theorem d_L_law_1485 : decode code 1485 = .ok (.aload_n 0, 1) := by decide +kernel
theorem d_L_law_1486 : decode code 1486 = .ok (.iload_n 3, 1) := by decide +kernel
theorem d_L_law_1487 : decode code 1487 = .ok (.iconst 1, 1) := by decide +kernel
theorem d_L_law_1488 : decode code 1488 = .ok (.iadd, 1) := by decide +kernel
theorem d_L_law_1489 : decode code 1489 = .ok (.iaload, 1) := by decide +kernel
theorem d_L_law_1490 : decode code 1490 = .ok (.invokevirtual 183, 3) := by decide +kernel
theorem d_L_law_1493 : decode code 1493 = .ok (.aload_n 2, 1) := by decide +kernel
theorem d_L_law_1494 : decode code 1494 = .ok (.aload_n 0, 1) := by decide +kernel
theorem d_L_law_1495 : decode code 1495 = .ok (.iload_n 3, 1) := by decide +kernel
theorem d_L_law_1496 : decode code 1496 = .ok (.iconst 1, 1) := by decide +kernel
theorem d_L_law_1497 : decode code 1497 = .ok (.iadd, 1) := by decide +kernel
theorem d_L_law_1498 : decode code 1498 = .ok (.iaload, 1) := by decide +kernel
theorem d_L_law_1499 : decode code 1499 = .ok (.invokevirtual 186, 3) := by decide +kernel
theorem d_L_law_1502 : decode code 1502 = .ok (.if_icmp .eq 28, 3) := by decide +kernel
theorem d_L_law_1505 : decode code 1505 = .ok (.iconst 0, 1) := by decide +kernel
theorem d_L_law_1507 : decode code 1507 = .ok (.aload_n 1, 1) := by decide +kernel
theorem d_L_law_1508 : decode code 1508 = .ok (.aload_n 0, 1) := by decide +kernel
theorem d_L_law_1509 : decode code 1509 = .ok (.iload_n 3, 1) := by decide +kernel
theorem d_L_law_1510 : decode code 1510 = .ok (.iconst 1, 1) := by decide +kernel
theorem d_L_law_1511 : decode code 1511 = .ok (.iadd, 1) := by decide +kernel
theorem d_L_law_1512 : decode code 1512 = .ok (.iaload, 1) := by decide +kernel
theorem d_L_law_1513 : decode code 1513 = .ok (.invokevirtual 187, 3) := by decide +kernel
theorem d_L_law_1516 : decode code 1516 = .ok (.aload_n 2, 1) := by decide +kernel
theorem d_L_law_1517 : decode code 1517 = .ok (.aload_n 0, 1) := by decide +kernel
theorem d_L_law_1518 : decode code 1518 = .ok (.iload_n 3, 1) := by decide +kernel
theorem d_L_law_1519 : decode code 1519 = .ok (.iconst 1, 1) := by decide +kernel
theorem d_L_law_1520 : decode code 1520 = .ok (.iadd, 1) := by decide +kernel
theorem d_L_law_1521 : decode code 1521 = .ok (.iaload, 1) := by decide +kernel
theorem d_L_law_1522 : decode code 1522 = .ok (.invokevirtual 190, 3) := by decide +kernel
theorem d_L_law_1525 : decode code 1525 = .ok (.if_icmp .eq 5, 3) := by decide +kernel
theorem d_L_law_1528 : decode code 1528 = .ok (.iconst 0, 1) := by decide +kernel
theorem d_L_law_1530 : decode code 1530 = .ok (.iinc 3 6, 3) := by decide +kernel
theorem d_L_law_1533 : decode code 1533 = .ok (.goto (-1515), 3) := by decide +kernel
theorem d_L_law_1536 : decode code 1536 = .ok (.iconst 1, 1) := by decide +kernel
theorem d_L_law_1537 : decode code 1537 = .ok (.ireturn, 1) := by decide +kernel
