/-! the law, decoded, piece 5 -/
theorem d_law_1200 : decode code 1200 = .ok (.ireturn, 1) := by decide +kernel
theorem d_law_1201 : decode code 1201 = .ok (.aload_n 1, 1) := by decide +kernel
theorem d_law_1202 : decode code 1202 = .ok (.aload_n 0, 1) := by decide +kernel
theorem d_law_1203 : decode code 1203 = .ok (.iload_n 3, 1) := by decide +kernel
theorem d_law_1204 : decode code 1204 = .ok (.iconst 1, 1) := by decide +kernel
theorem d_law_1205 : decode code 1205 = .ok (.iadd, 1) := by decide +kernel
theorem d_law_1206 : decode code 1206 = .ok (.iaload, 1) := by decide +kernel
theorem d_law_1207 : decode code 1207 = .ok (.aload_n 0, 1) := by decide +kernel
theorem d_law_1208 : decode code 1208 = .ok (.iload_n 3, 1) := by decide +kernel
theorem d_law_1209 : decode code 1209 = .ok (.iconst 2, 1) := by decide +kernel
theorem d_law_1210 : decode code 1210 = .ok (.iadd, 1) := by decide +kernel
theorem d_law_1211 : decode code 1211 = .ok (.iaload, 1) := by decide +kernel
theorem d_law_1212 : decode code 1212 = .ok (.aload_n 0, 1) := by decide +kernel
theorem d_law_1213 : decode code 1213 = .ok (.iload_n 3, 1) := by decide +kernel
theorem d_law_1214 : decode code 1214 = .ok (.iconst 3, 1) := by decide +kernel
theorem d_law_1215 : decode code 1215 = .ok (.iadd, 1) := by decide +kernel
theorem d_law_1216 : decode code 1216 = .ok (.iaload, 1) := by decide +kernel
theorem d_law_1217 : decode code 1217 = .ok (.invokevirtual 139, 3) := by decide +kernel
theorem d_law_1220 : decode code 1220 = .ok (.aload_n 2, 1) := by decide +kernel
theorem d_law_1221 : decode code 1221 = .ok (.aload_n 0, 1) := by decide +kernel
theorem d_law_1222 : decode code 1222 = .ok (.iload_n 3, 1) := by decide +kernel
theorem d_law_1223 : decode code 1223 = .ok (.iconst 1, 1) := by decide +kernel
theorem d_law_1224 : decode code 1224 = .ok (.iadd, 1) := by decide +kernel
theorem d_law_1225 : decode code 1225 = .ok (.iaload, 1) := by decide +kernel
theorem d_law_1226 : decode code 1226 = .ok (.aload_n 0, 1) := by decide +kernel
theorem d_law_1227 : decode code 1227 = .ok (.iload_n 3, 1) := by decide +kernel
theorem d_law_1228 : decode code 1228 = .ok (.iconst 2, 1) := by decide +kernel
theorem d_law_1229 : decode code 1229 = .ok (.iadd, 1) := by decide +kernel
theorem d_law_1230 : decode code 1230 = .ok (.iaload, 1) := by decide +kernel
theorem d_law_1231 : decode code 1231 = .ok (.aload_n 0, 1) := by decide +kernel
theorem d_law_1232 : decode code 1232 = .ok (.iload_n 3, 1) := by decide +kernel
theorem d_law_1233 : decode code 1233 = .ok (.iconst 3, 1) := by decide +kernel
theorem d_law_1234 : decode code 1234 = .ok (.iadd, 1) := by decide +kernel
theorem d_law_1235 : decode code 1235 = .ok (.iaload, 1) := by decide +kernel
theorem d_law_1236 : decode code 1236 = .ok (.invokevirtual 142, 3) := by decide +kernel
theorem d_law_1239 : decode code 1239 = .ok (.if_icmp .eq 197, 3) := by decide +kernel
theorem d_law_1242 : decode code 1242 = .ok (.iconst 0, 1) := by decide +kernel
theorem d_law_1243 : decode code 1243 = .ok (.ireturn, 1) := by decide +kernel
theorem d_law_1244 : decode code 1244 = .ok (.aload_n 1, 1) := by decide +kernel
theorem d_law_1245 : decode code 1245 = .ok (.aload_n 0, 1) := by decide +kernel
theorem d_law_1246 : decode code 1246 = .ok (.iload_n 3, 1) := by decide +kernel
theorem d_law_1247 : decode code 1247 = .ok (.iconst 1, 1) := by decide +kernel
theorem d_law_1248 : decode code 1248 = .ok (.iadd, 1) := by decide +kernel
theorem d_law_1249 : decode code 1249 = .ok (.iaload, 1) := by decide +kernel
theorem d_law_1250 : decode code 1250 = .ok (.aload_n 0, 1) := by decide +kernel
theorem d_law_1251 : decode code 1251 = .ok (.iload_n 3, 1) := by decide +kernel
theorem d_law_1252 : decode code 1252 = .ok (.iconst 2, 1) := by decide +kernel
theorem d_law_1253 : decode code 1253 = .ok (.iadd, 1) := by decide +kernel
theorem d_law_1254 : decode code 1254 = .ok (.iaload, 1) := by decide +kernel
theorem d_law_1255 : decode code 1255 = .ok (.aload_n 0, 1) := by decide +kernel
theorem d_law_1256 : decode code 1256 = .ok (.iload_n 3, 1) := by decide +kernel
theorem d_law_1257 : decode code 1257 = .ok (.iconst 3, 1) := by decide +kernel
theorem d_law_1258 : decode code 1258 = .ok (.iadd, 1) := by decide +kernel
theorem d_law_1259 : decode code 1259 = .ok (.iaload, 1) := by decide +kernel
theorem d_law_1260 : decode code 1260 = .ok (.invokevirtual 143, 3) := by decide +kernel
theorem d_law_1263 : decode code 1263 = .ok (.aload_n 2, 1) := by decide +kernel
theorem d_law_1264 : decode code 1264 = .ok (.aload_n 0, 1) := by decide +kernel
theorem d_law_1265 : decode code 1265 = .ok (.iload_n 3, 1) := by decide +kernel
theorem d_law_1266 : decode code 1266 = .ok (.iconst 1, 1) := by decide +kernel
theorem d_law_1267 : decode code 1267 = .ok (.iadd, 1) := by decide +kernel
theorem d_law_1268 : decode code 1268 = .ok (.iaload, 1) := by decide +kernel
theorem d_law_1269 : decode code 1269 = .ok (.aload_n 0, 1) := by decide +kernel
theorem d_law_1270 : decode code 1270 = .ok (.iload_n 3, 1) := by decide +kernel
theorem d_law_1271 : decode code 1271 = .ok (.iconst 2, 1) := by decide +kernel
theorem d_law_1272 : decode code 1272 = .ok (.iadd, 1) := by decide +kernel
theorem d_law_1273 : decode code 1273 = .ok (.iaload, 1) := by decide +kernel
theorem d_law_1274 : decode code 1274 = .ok (.aload_n 0, 1) := by decide +kernel
theorem d_law_1275 : decode code 1275 = .ok (.iload_n 3, 1) := by decide +kernel
theorem d_law_1276 : decode code 1276 = .ok (.iconst 3, 1) := by decide +kernel
theorem d_law_1277 : decode code 1277 = .ok (.iadd, 1) := by decide +kernel
theorem d_law_1278 : decode code 1278 = .ok (.iaload, 1) := by decide +kernel
theorem d_law_1279 : decode code 1279 = .ok (.invokevirtual 146, 3) := by decide +kernel
theorem d_law_1282 : decode code 1282 = .ok (.if_icmp .eq 154, 3) := by decide +kernel
theorem d_law_1285 : decode code 1285 = .ok (.iconst 0, 1) := by decide +kernel
theorem d_law_1286 : decode code 1286 = .ok (.ireturn, 1) := by decide +kernel
theorem d_law_1287 : decode code 1287 = .ok (.aload_n 1, 1) := by decide +kernel
theorem d_law_1288 : decode code 1288 = .ok (.aload_n 0, 1) := by decide +kernel
theorem d_law_1289 : decode code 1289 = .ok (.iload_n 3, 1) := by decide +kernel
theorem d_law_1290 : decode code 1290 = .ok (.iconst 1, 1) := by decide +kernel
theorem d_law_1291 : decode code 1291 = .ok (.iadd, 1) := by decide +kernel
theorem d_law_1292 : decode code 1292 = .ok (.iaload, 1) := by decide +kernel
theorem d_law_1293 : decode code 1293 = .ok (.aload_n 0, 1) := by decide +kernel
theorem d_law_1294 : decode code 1294 = .ok (.iload_n 3, 1) := by decide +kernel
theorem d_law_1295 : decode code 1295 = .ok (.iconst 2, 1) := by decide +kernel
theorem d_law_1296 : decode code 1296 = .ok (.iadd, 1) := by decide +kernel
theorem d_law_1297 : decode code 1297 = .ok (.iaload, 1) := by decide +kernel
theorem d_law_1298 : decode code 1298 = .ok (.aload_n 0, 1) := by decide +kernel
theorem d_law_1299 : decode code 1299 = .ok (.iload_n 3, 1) := by decide +kernel
theorem d_law_1300 : decode code 1300 = .ok (.iconst 3, 1) := by decide +kernel
theorem d_law_1301 : decode code 1301 = .ok (.iadd, 1) := by decide +kernel
theorem d_law_1302 : decode code 1302 = .ok (.iaload, 1) := by decide +kernel
theorem d_law_1303 : decode code 1303 = .ok (.aload_n 0, 1) := by decide +kernel
theorem d_law_1304 : decode code 1304 = .ok (.iload_n 3, 1) := by decide +kernel
theorem d_law_1305 : decode code 1305 = .ok (.iconst 4, 1) := by decide +kernel
theorem d_law_1306 : decode code 1306 = .ok (.iadd, 1) := by decide +kernel
theorem d_law_1307 : decode code 1307 = .ok (.iaload, 1) := by decide +kernel
theorem d_law_1308 : decode code 1308 = .ok (.aload_n 0, 1) := by decide +kernel
theorem d_law_1309 : decode code 1309 = .ok (.iload_n 3, 1) := by decide +kernel
theorem d_law_1310 : decode code 1310 = .ok (.iconst 5, 1) := by decide +kernel
theorem d_law_1311 : decode code 1311 = .ok (.iadd, 1) := by decide +kernel
theorem d_law_1312 : decode code 1312 = .ok (.iaload, 1) := by decide +kernel
theorem d_law_1313 : decode code 1313 = .ok (.invokevirtual 147, 3) := by decide +kernel
theorem d_law_1316 : decode code 1316 = .ok (.aload_n 2, 1) := by decide +kernel
theorem d_law_1317 : decode code 1317 = .ok (.aload_n 0, 1) := by decide +kernel
theorem d_law_1318 : decode code 1318 = .ok (.iload_n 3, 1) := by decide +kernel
theorem d_law_1319 : decode code 1319 = .ok (.iconst 1, 1) := by decide +kernel
theorem d_law_1320 : decode code 1320 = .ok (.iadd, 1) := by decide +kernel
theorem d_law_1321 : decode code 1321 = .ok (.iaload, 1) := by decide +kernel
theorem d_law_1322 : decode code 1322 = .ok (.aload_n 0, 1) := by decide +kernel
theorem d_law_1323 : decode code 1323 = .ok (.iload_n 3, 1) := by decide +kernel
theorem d_law_1324 : decode code 1324 = .ok (.iconst 2, 1) := by decide +kernel
theorem d_law_1325 : decode code 1325 = .ok (.iadd, 1) := by decide +kernel
theorem d_law_1326 : decode code 1326 = .ok (.iaload, 1) := by decide +kernel
theorem d_law_1327 : decode code 1327 = .ok (.aload_n 0, 1) := by decide +kernel
theorem d_law_1328 : decode code 1328 = .ok (.iload_n 3, 1) := by decide +kernel
theorem d_law_1329 : decode code 1329 = .ok (.iconst 3, 1) := by decide +kernel
theorem d_law_1330 : decode code 1330 = .ok (.iadd, 1) := by decide +kernel
theorem d_law_1331 : decode code 1331 = .ok (.iaload, 1) := by decide +kernel
theorem d_law_1332 : decode code 1332 = .ok (.aload_n 0, 1) := by decide +kernel
theorem d_law_1333 : decode code 1333 = .ok (.iload_n 3, 1) := by decide +kernel
theorem d_law_1334 : decode code 1334 = .ok (.iconst 4, 1) := by decide +kernel
theorem d_law_1335 : decode code 1335 = .ok (.iadd, 1) := by decide +kernel
theorem d_law_1336 : decode code 1336 = .ok (.iaload, 1) := by decide +kernel
theorem d_law_1337 : decode code 1337 = .ok (.aload_n 0, 1) := by decide +kernel
theorem d_law_1338 : decode code 1338 = .ok (.iload_n 3, 1) := by decide +kernel
theorem d_law_1339 : decode code 1339 = .ok (.iconst 5, 1) := by decide +kernel
theorem d_law_1340 : decode code 1340 = .ok (.iadd, 1) := by decide +kernel
theorem d_law_1341 : decode code 1341 = .ok (.iaload, 1) := by decide +kernel
theorem d_law_1342 : decode code 1342 = .ok (.invokevirtual 151, 3) := by decide +kernel
theorem d_law_1345 : decode code 1345 = .ok (.if_icmp .eq 91, 3) := by decide +kernel
theorem d_law_1348 : decode code 1348 = .ok (.iconst 0, 1) := by decide +kernel
theorem d_law_1349 : decode code 1349 = .ok (.ireturn, 1) := by decide +kernel
theorem d_law_1350 : decode code 1350 = .ok (.aload_n 1, 1) := by decide +kernel
theorem d_law_1351 : decode code 1351 = .ok (.aload_n 0, 1) := by decide +kernel
theorem d_law_1352 : decode code 1352 = .ok (.iload_n 3, 1) := by decide +kernel
theorem d_law_1353 : decode code 1353 = .ok (.iconst 1, 1) := by decide +kernel
theorem d_law_1354 : decode code 1354 = .ok (.iadd, 1) := by decide +kernel
theorem d_law_1355 : decode code 1355 = .ok (.iaload, 1) := by decide +kernel
theorem d_law_1356 : decode code 1356 = .ok (.aload_n 0, 1) := by decide +kernel
theorem d_law_1357 : decode code 1357 = .ok (.iload_n 3, 1) := by decide +kernel
theorem d_law_1358 : decode code 1358 = .ok (.iconst 2, 1) := by decide +kernel
theorem d_law_1359 : decode code 1359 = .ok (.iadd, 1) := by decide +kernel
theorem d_law_1360 : decode code 1360 = .ok (.iaload, 1) := by decide +kernel
theorem d_law_1361 : decode code 1361 = .ok (.aload_n 0, 1) := by decide +kernel
theorem d_law_1362 : decode code 1362 = .ok (.iload_n 3, 1) := by decide +kernel
theorem d_law_1363 : decode code 1363 = .ok (.iconst 3, 1) := by decide +kernel
theorem d_law_1364 : decode code 1364 = .ok (.iadd, 1) := by decide +kernel
theorem d_law_1365 : decode code 1365 = .ok (.iaload, 1) := by decide +kernel
theorem d_law_1366 : decode code 1366 = .ok (.aload_n 0, 1) := by decide +kernel
theorem d_law_1367 : decode code 1367 = .ok (.iload_n 3, 1) := by decide +kernel
theorem d_law_1368 : decode code 1368 = .ok (.iconst 4, 1) := by decide +kernel
theorem d_law_1369 : decode code 1369 = .ok (.iadd, 1) := by decide +kernel
theorem d_law_1370 : decode code 1370 = .ok (.iaload, 1) := by decide +kernel
theorem d_law_1371 : decode code 1371 = .ok (.invokevirtual 152, 3) := by decide +kernel
theorem d_law_1374 : decode code 1374 = .ok (.aload_n 2, 1) := by decide +kernel
theorem d_law_1375 : decode code 1375 = .ok (.aload_n 0, 1) := by decide +kernel
theorem d_law_1376 : decode code 1376 = .ok (.iload_n 3, 1) := by decide +kernel
theorem d_law_1377 : decode code 1377 = .ok (.iconst 1, 1) := by decide +kernel
theorem d_law_1378 : decode code 1378 = .ok (.iadd, 1) := by decide +kernel
theorem d_law_1379 : decode code 1379 = .ok (.iaload, 1) := by decide +kernel
theorem d_law_1380 : decode code 1380 = .ok (.aload_n 0, 1) := by decide +kernel
theorem d_law_1381 : decode code 1381 = .ok (.iload_n 3, 1) := by decide +kernel
theorem d_law_1382 : decode code 1382 = .ok (.iconst 2, 1) := by decide +kernel
theorem d_law_1383 : decode code 1383 = .ok (.iadd, 1) := by decide +kernel
theorem d_law_1384 : decode code 1384 = .ok (.iaload, 1) := by decide +kernel
theorem d_law_1385 : decode code 1385 = .ok (.aload_n 0, 1) := by decide +kernel
theorem d_law_1386 : decode code 1386 = .ok (.iload_n 3, 1) := by decide +kernel
theorem d_law_1387 : decode code 1387 = .ok (.iconst 3, 1) := by decide +kernel
theorem d_law_1388 : decode code 1388 = .ok (.iadd, 1) := by decide +kernel
theorem d_law_1389 : decode code 1389 = .ok (.iaload, 1) := by decide +kernel
theorem d_law_1390 : decode code 1390 = .ok (.aload_n 0, 1) := by decide +kernel
theorem d_law_1391 : decode code 1391 = .ok (.iload_n 3, 1) := by decide +kernel
theorem d_law_1392 : decode code 1392 = .ok (.iconst 4, 1) := by decide +kernel
theorem d_law_1393 : decode code 1393 = .ok (.iadd, 1) := by decide +kernel
theorem d_law_1394 : decode code 1394 = .ok (.iaload, 1) := by decide +kernel
theorem d_law_1395 : decode code 1395 = .ok (.invokevirtual 156, 3) := by decide +kernel
theorem d_law_1398 : decode code 1398 = .ok (.if_icmp .eq 38, 3) := by decide +kernel
theorem d_law_1401 : decode code 1401 = .ok (.iconst 0, 1) := by decide +kernel
theorem d_law_1402 : decode code 1402 = .ok (.ireturn, 1) := by decide +kernel
theorem d_law_1403 : decode code 1403 = .ok (.aload_n 1, 1) := by decide +kernel
theorem d_law_1404 : decode code 1404 = .ok (.aload_n 0, 1) := by decide +kernel
theorem d_law_1405 : decode code 1405 = .ok (.iload_n 3, 1) := by decide +kernel
theorem d_law_1406 : decode code 1406 = .ok (.iconst 1, 1) := by decide +kernel
theorem d_law_1407 : decode code 1407 = .ok (.iadd, 1) := by decide +kernel
theorem d_law_1408 : decode code 1408 = .ok (.iaload, 1) := by decide +kernel
theorem d_law_1409 : decode code 1409 = .ok (.aload_n 0, 1) := by decide +kernel
theorem d_law_1410 : decode code 1410 = .ok (.iload_n 3, 1) := by decide +kernel
theorem d_law_1411 : decode code 1411 = .ok (.iconst 2, 1) := by decide +kernel
theorem d_law_1412 : decode code 1412 = .ok (.iadd, 1) := by decide +kernel
theorem d_law_1413 : decode code 1413 = .ok (.iaload, 1) := by decide +kernel
theorem d_law_1414 : decode code 1414 = .ok (.invokevirtual 157, 3) := by decide +kernel
theorem d_law_1417 : decode code 1417 = .ok (.aload_n 2, 1) := by decide +kernel
theorem d_law_1418 : decode code 1418 = .ok (.aload_n 0, 1) := by decide +kernel
theorem d_law_1419 : decode code 1419 = .ok (.iload_n 3, 1) := by decide +kernel
theorem d_law_1420 : decode code 1420 = .ok (.iconst 1, 1) := by decide +kernel
theorem d_law_1421 : decode code 1421 = .ok (.iadd, 1) := by decide +kernel
theorem d_law_1422 : decode code 1422 = .ok (.iaload, 1) := by decide +kernel
theorem d_law_1423 : decode code 1423 = .ok (.aload_n 0, 1) := by decide +kernel
theorem d_law_1424 : decode code 1424 = .ok (.iload_n 3, 1) := by decide +kernel
theorem d_law_1425 : decode code 1425 = .ok (.iconst 2, 1) := by decide +kernel
theorem d_law_1426 : decode code 1426 = .ok (.iadd, 1) := by decide +kernel
theorem d_law_1427 : decode code 1427 = .ok (.iaload, 1) := by decide +kernel
theorem d_law_1428 : decode code 1428 = .ok (.invokevirtual 160, 3) := by decide +kernel
theorem d_law_1431 : decode code 1431 = .ok (.if_icmp .eq 5, 3) := by decide +kernel
theorem d_law_1434 : decode code 1434 = .ok (.iconst 0, 1) := by decide +kernel
theorem d_law_1435 : decode code 1435 = .ok (.ireturn, 1) := by decide +kernel
theorem d_law_1436 : decode code 1436 = .ok (.iinc 3 7, 3) := by decide +kernel
theorem d_law_1439 : decode code 1439 = .ok (.goto (-1421), 3) := by decide +kernel
theorem d_law_1442 : decode code 1442 = .ok (.iconst 1, 1) := by decide +kernel
theorem d_law_1443 : decode code 1443 = .ok (.ireturn, 1) := by decide +kernel
