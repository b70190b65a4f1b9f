theorem d_L_law_1140 : decode cL_law 1140 = .ok (.invokestatic 141, 3) := by decide +kernel
theorem d_L_law_1143 : decode cL_law 1143 = .ok (.istore 5, 2) := by decide +kernel
theorem d_L_law_1145 : decode cL_law 1145 = .ok (.aload_n 2, 1) := by decide +kernel
theorem d_L_law_1146 : decode cL_law 1146 = .ok (.aload_n 0, 1) := by decide +kernel
theorem d_L_law_1147 : decode cL_law 1147 = .ok (.iload 4, 2) := by decide +kernel
theorem d_L_law_1149 : decode cL_law 1149 = .ok (.iconst 1, 1) := by decide +kernel
theorem d_L_law_1150 : decode cL_law 1150 = .ok (.iadd, 1) := by decide +kernel
theorem d_L_law_1151 : decode cL_law 1151 = .ok (.iaload, 1) := by decide +kernel
theorem d_L_law_1152 : decode cL_law 1152 = .ok (.aload_n 0, 1) := by decide +kernel
theorem d_L_law_1153 : decode cL_law 1153 = .ok (.iload 4, 2) := by decide +kernel
theorem d_L_law_1155 : decode cL_law 1155 = .ok (.iconst 2, 1) := by decide +kernel
theorem d_L_law_1156 : decode cL_law 1156 = .ok (.iadd, 1) := by decide +kernel
theorem d_L_law_1157 : decode cL_law 1157 = .ok (.iaload, 1) := by decide +kernel
theorem d_L_law_1158 : decode cL_law 1158 = .ok (.invokevirtual 143, 3) := by decide +kernel
theorem d_L_law_1161 : decode cL_law 1161 = .ok (.istore 6, 2) := by decide +kernel
theorem d_L_law_1163 : decode cL_law 1163 = .ok (.aload_n 2, 1) := by decide +kernel
theorem d_L_law_1164 : decode cL_law 1164 = .ok (.invokevirtual 91, 3) := by decide +kernel
theorem d_L_law_1167 : decode cL_law 1167 = .ok (.iload 5, 2) := by decide +kernel
theorem d_L_law_1169 : decode cL_law 1169 = .ok (.if_icmp .eq 5, 3) := by decide +kernel
theorem d_L_law_1172 : decode cL_law 1172 = .ok (.iconst 0, 1) := by decide +kernel
theorem d_L_law_1173 : decode cL_law 1173 = .ok (.ireturn, 1) := by decide +kernel
theorem d_L_law_1174 : decode cL_law 1174 = .ok (.iload 5, 2) := by decide +kernel
theorem d_L_law_1176 : decode cL_law 1176 = .ok (.ifCond .ne 15, 3) := by decide +kernel
theorem d_L_law_1179 : decode cL_law 1179 = .ok (.aload_n 3, 1) := by decide +kernel
theorem d_L_law_1180 : decode cL_law 1180 = .ok (.iconst 0, 1) := by decide +kernel
theorem d_L_law_1181 : decode cL_law 1181 = .ok (.laload, 1) := by decide +kernel
theorem d_L_law_1182 : decode cL_law 1182 = .ok (.iload 6, 2) := by decide +kernel
theorem d_L_law_1184 : decode cL_law 1184 = .ok (.i2l, 1) := by decide +kernel
theorem d_L_law_1185 : decode cL_law 1185 = .ok (.lcmp, 1) := by decide +kernel
theorem d_L_law_1186 : decode cL_law 1186 = .ok (.ifCond .eq 5, 3) := by decide +kernel
theorem d_L_law_1189 : decode cL_law 1189 = .ok (.iconst 0, 1) := by decide +kernel
theorem d_L_law_1190 : decode cL_law 1190 = .ok (.ireturn, 1) := by decide +kernel
theorem d_L_law_1191 : decode cL_law 1191 = .ok (.goto 465, 3) := by decide +kernel
theorem d_L_law_1194 : decode cL_law 1194 = .ok (.aload_n 1, 1) := by decide +kernel
theorem d_L_law_1195 : decode cL_law 1195 = .ok (.aload_n 0, 1) := by decide +kernel
theorem d_L_law_1196 : decode cL_law 1196 = .ok (.iload 4, 2) := by decide +kernel
theorem d_L_law_1198 : decode cL_law 1198 = .ok (.iconst 1, 1) := by decide +kernel
theorem d_L_law_1199 : decode cL_law 1199 = .ok (.iadd, 1) := by decide +kernel
theorem d_L_law_1200 : decode cL_law 1200 = .ok (.iaload, 1) := by decide +kernel
theorem d_L_law_1201 : decode cL_law 1201 = .ok (.aload_n 0, 1) := by decide +kernel
theorem d_L_law_1202 : decode cL_law 1202 = .ok (.iload 4, 2) := by decide +kernel
theorem d_L_law_1204 : decode cL_law 1204 = .ok (.iconst 2, 1) := by decide +kernel
theorem d_L_law_1205 : decode cL_law 1205 = .ok (.iadd, 1) := by decide +kernel
theorem d_L_law_1206 : decode cL_law 1206 = .ok (.iaload, 1) := by decide +kernel
theorem d_L_law_1207 : decode cL_law 1207 = .ok (.aload_n 0, 1) := by decide +kernel
theorem d_L_law_1208 : decode cL_law 1208 = .ok (.iload 4, 2) := by decide +kernel
theorem d_L_law_1210 : decode cL_law 1210 = .ok (.iconst 3, 1) := by decide +kernel
theorem d_L_law_1211 : decode cL_law 1211 = .ok (.iadd, 1) := by decide +kernel
theorem d_L_law_1212 : decode cL_law 1212 = .ok (.iaload, 1) := by decide +kernel
theorem d_L_law_1213 : decode cL_law 1213 = .ok (.aload_n 0, 1) := by decide +kernel
theorem d_L_law_1214 : decode cL_law 1214 = .ok (.iload 4, 2) := by decide +kernel
theorem d_L_law_1216 : decode cL_law 1216 = .ok (.iconst 4, 1) := by decide +kernel
theorem d_L_law_1217 : decode cL_law 1217 = .ok (.iadd, 1) := by decide +kernel
theorem d_L_law_1218 : decode cL_law 1218 = .ok (.iaload, 1) := by decide +kernel
theorem d_L_law_1219 : decode cL_law 1219 = .ok (.aload_n 3, 1) := by decide +kernel
theorem d_L_law_1220 : decode cL_law 1220 = .ok (.invokestatic 144, 3) := by decide +kernel
theorem d_L_law_1223 : decode cL_law 1223 = .ok (.istore 5, 2) := by decide +kernel
theorem d_L_law_1225 : decode cL_law 1225 = .ok (.aload_n 2, 1) := by decide +kernel
theorem d_L_law_1226 : decode cL_law 1226 = .ok (.aload_n 0, 1) := by decide +kernel
theorem d_L_law_1227 : decode cL_law 1227 = .ok (.iload 4, 2) := by decide +kernel
theorem d_L_law_1229 : decode cL_law 1229 = .ok (.iconst 1, 1) := by decide +kernel
theorem d_L_law_1230 : decode cL_law 1230 = .ok (.iadd, 1) := by decide +kernel
theorem d_L_law_1231 : decode cL_law 1231 = .ok (.iaload, 1) := by decide +kernel
theorem d_L_law_1232 : decode cL_law 1232 = .ok (.aload_n 0, 1) := by decide +kernel
theorem d_L_law_1233 : decode cL_law 1233 = .ok (.iload 4, 2) := by decide +kernel
theorem d_L_law_1235 : decode cL_law 1235 = .ok (.iconst 2, 1) := by decide +kernel
theorem d_L_law_1236 : decode cL_law 1236 = .ok (.iadd, 1) := by decide +kernel
theorem d_L_law_1237 : decode cL_law 1237 = .ok (.iaload, 1) := by decide +kernel
theorem d_L_law_1238 : decode cL_law 1238 = .ok (.aload_n 0, 1) := by decide +kernel
theorem d_L_law_1239 : decode cL_law 1239 = .ok (.iload 4, 2) := by decide +kernel
theorem d_L_law_1241 : decode cL_law 1241 = .ok (.iconst 3, 1) := by decide +kernel
theorem d_L_law_1242 : decode cL_law 1242 = .ok (.iadd, 1) := by decide +kernel
theorem d_L_law_1243 : decode cL_law 1243 = .ok (.iaload, 1) := by decide +kernel
theorem d_L_law_1244 : decode cL_law 1244 = .ok (.aload_n 0, 1) := by decide +kernel
theorem d_L_law_1245 : decode cL_law 1245 = .ok (.iload 4, 2) := by decide +kernel
theorem d_L_law_1247 : decode cL_law 1247 = .ok (.iconst 4, 1) := by decide +kernel
theorem d_L_law_1248 : decode cL_law 1248 = .ok (.iadd, 1) := by decide +kernel
theorem d_L_law_1249 : decode cL_law 1249 = .ok (.iaload, 1) := by decide +kernel
theorem d_L_law_1250 : decode cL_law 1250 = .ok (.invokevirtual 147, 3) := by decide +kernel
theorem d_L_law_1253 : decode cL_law 1253 = .ok (.istore 6, 2) := by decide +kernel
theorem d_L_law_1255 : decode cL_law 1255 = .ok (.aload_n 2, 1) := by decide +kernel
theorem d_L_law_1256 : decode cL_law 1256 = .ok (.invokevirtual 91, 3) := by decide +kernel
theorem d_L_law_1259 : decode cL_law 1259 = .ok (.iload 5, 2) := by decide +kernel
theorem d_L_law_1261 : decode cL_law 1261 = .ok (.if_icmp .eq 5, 3) := by decide +kernel
theorem d_L_law_1264 : decode cL_law 1264 = .ok (.iconst 0, 1) := by decide +kernel
theorem d_L_law_1265 : decode cL_law 1265 = .ok (.ireturn, 1) := by decide +kernel
theorem d_L_law_1266 : decode cL_law 1266 = .ok (.iload 5, 2) := by decide +kernel
theorem d_L_law_1268 : decode cL_law 1268 = .ok (.ifCond .ne 15, 3) := by decide +kernel
theorem d_L_law_1271 : decode cL_law 1271 = .ok (.aload_n 3, 1) := by decide +kernel
theorem d_L_law_1272 : decode cL_law 1272 = .ok (.iconst 0, 1) := by decide +kernel
theorem d_L_law_1273 : decode cL_law 1273 = .ok (.laload, 1) := by decide +kernel
theorem d_L_law_1274 : decode cL_law 1274 = .ok (.iload 6, 2) := by decide +kernel
theorem d_L_law_1276 : decode cL_law 1276 = .ok (.i2l, 1) := by decide +kernel
theorem d_L_law_1277 : decode cL_law 1277 = .ok (.lcmp, 1) := by decide +kernel
theorem d_L_law_1278 : decode cL_law 1278 = .ok (.ifCond .eq 5, 3) := by decide +kernel
theorem d_L_law_1281 : decode cL_law 1281 = .ok (.iconst 0, 1) := by decide +kernel
theorem d_L_law_1282 : decode cL_law 1282 = .ok (.ireturn, 1) := by decide +kernel
theorem d_L_law_1283 : decode cL_law 1283 = .ok (.goto 373, 3) := by decide +kernel
theorem d_L_law_1286 : decode cL_law 1286 = .ok (.aload_n 1, 1) := by decide +kernel
theorem d_L_law_1287 : decode cL_law 1287 = .ok (.aload_n 0, 1) := by decide +kernel
theorem d_L_law_1288 : decode cL_law 1288 = .ok (.iload 4, 2) := by decide +kernel
theorem d_L_law_1290 : decode cL_law 1290 = .ok (.iconst 1, 1) := by decide +kernel
theorem d_L_law_1291 : decode cL_law 1291 = .ok (.iadd, 1) := by decide +kernel
theorem d_L_law_1292 : decode cL_law 1292 = .ok (.iaload, 1) := by decide +kernel
theorem d_L_law_1293 : decode cL_law 1293 = .ok (.aload_n 0, 1) := by decide +kernel
theorem d_L_law_1294 : decode cL_law 1294 = .ok (.iload 4, 2) := by decide +kernel
theorem d_L_law_1296 : decode cL_law 1296 = .ok (.iconst 2, 1) := by decide +kernel
theorem d_L_law_1297 : decode cL_law 1297 = .ok (.iadd, 1) := by decide +kernel
theorem d_L_law_1298 : decode cL_law 1298 = .ok (.iaload, 1) := by decide +kernel
theorem d_L_law_1299 : decode cL_law 1299 = .ok (.aload_n 3, 1) := by decide +kernel
theorem d_L_law_1300 : decode cL_law 1300 = .ok (.invokestatic 148, 3) := by decide +kernel
theorem d_L_law_1303 : decode cL_law 1303 = .ok (.istore 5, 2) := by decide +kernel
theorem d_L_law_1305 : decode cL_law 1305 = .ok (.aload_n 2, 1) := by decide +kernel
theorem d_L_law_1306 : decode cL_law 1306 = .ok (.aload_n 0, 1) := by decide +kernel
theorem d_L_law_1307 : decode cL_law 1307 = .ok (.iload 4, 2) := by decide +kernel
theorem d_L_law_1309 : decode cL_law 1309 = .ok (.iconst 1, 1) := by decide +kernel
theorem d_L_law_1310 : decode cL_law 1310 = .ok (.iadd, 1) := by decide +kernel
theorem d_L_law_1311 : decode cL_law 1311 = .ok (.iaload, 1) := by decide +kernel
theorem d_L_law_1312 : decode cL_law 1312 = .ok (.aload_n 0, 1) := by decide +kernel
theorem d_L_law_1313 : decode cL_law 1313 = .ok (.iload 4, 2) := by decide +kernel
theorem d_L_law_1315 : decode cL_law 1315 = .ok (.iconst 2, 1) := by decide +kernel
theorem d_L_law_1316 : decode cL_law 1316 = .ok (.iadd, 1) := by decide +kernel
theorem d_L_law_1317 : decode cL_law 1317 = .ok (.iaload, 1) := by decide +kernel
theorem d_L_law_1318 : decode cL_law 1318 = .ok (.invokevirtual 150, 3) := by decide +kernel
theorem d_L_law_1321 : decode cL_law 1321 = .ok (.istore 6, 2) := by decide +kernel
theorem d_L_law_1323 : decode cL_law 1323 = .ok (.aload_n 2, 1) := by decide +kernel
theorem d_L_law_1324 : decode cL_law 1324 = .ok (.invokevirtual 91, 3) := by decide +kernel
theorem d_L_law_1327 : decode cL_law 1327 = .ok (.iload 5, 2) := by decide +kernel
theorem d_L_law_1329 : decode cL_law 1329 = .ok (.if_icmp .eq 5, 3) := by decide +kernel
theorem d_L_law_1332 : decode cL_law 1332 = .ok (.iconst 0, 1) := by decide +kernel
theorem d_L_law_1333 : decode cL_law 1333 = .ok (.ireturn, 1) := by decide +kernel
theorem d_L_law_1334 : decode cL_law 1334 = .ok (.iload 5, 2) := by decide +kernel
theorem d_L_law_1336 : decode cL_law 1336 = .ok (.ifCond .ne 15, 3) := by decide +kernel
theorem d_L_law_1339 : decode cL_law 1339 = .ok (.aload_n 3, 1) := by decide +kernel
theorem d_L_law_1340 : decode cL_law 1340 = .ok (.iconst 0, 1) := by decide +kernel
theorem d_L_law_1341 : decode cL_law 1341 = .ok (.laload, 1) := by decide +kernel
theorem d_L_law_1342 : decode cL_law 1342 = .ok (.iload 6, 2) := by decide +kernel
theorem d_L_law_1344 : decode cL_law 1344 = .ok (.i2l, 1) := by decide +kernel
theorem d_L_law_1345 : decode cL_law 1345 = .ok (.lcmp, 1) := by decide +kernel
theorem d_L_law_1346 : decode cL_law 1346 = .ok (.ifCond .eq 5, 3) := by decide +kernel
theorem d_L_law_1349 : decode cL_law 1349 = .ok (.iconst 0, 1) := by decide +kernel
theorem d_L_law_1350 : decode cL_law 1350 = .ok (.ireturn, 1) := by decide +kernel
theorem d_L_law_1351 : decode cL_law 1351 = .ok (.goto 305, 3) := by decide +kernel
theorem d_L_law_1354 : decode cL_law 1354 = .ok (.aload_n 1, 1) := by decide +kernel
theorem d_L_law_1355 : decode cL_law 1355 = .ok (.aload_n 0, 1) := by decide +kernel
theorem d_L_law_1356 : decode cL_law 1356 = .ok (.iload 4, 2) := by decide +kernel
theorem d_L_law_1358 : decode cL_law 1358 = .ok (.iconst 1, 1) := by decide +kernel
theorem d_L_law_1359 : decode cL_law 1359 = .ok (.iadd, 1) := by decide +kernel
theorem d_L_law_1360 : decode cL_law 1360 = .ok (.iaload, 1) := by decide +kernel
theorem d_L_law_1361 : decode cL_law 1361 = .ok (.aload_n 0, 1) := by decide +kernel
theorem d_L_law_1362 : decode cL_law 1362 = .ok (.iload 4, 2) := by decide +kernel
theorem d_L_law_1364 : decode cL_law 1364 = .ok (.iconst 2, 1) := by decide +kernel
theorem d_L_law_1365 : decode cL_law 1365 = .ok (.iadd, 1) := by decide +kernel
theorem d_L_law_1366 : decode cL_law 1366 = .ok (.iaload, 1) := by decide +kernel
theorem d_L_law_1367 : decode cL_law 1367 = .ok (.aload_n 0, 1) := by decide +kernel
theorem d_L_law_1368 : decode cL_law 1368 = .ok (.iload 4, 2) := by decide +kernel
theorem d_L_law_1370 : decode cL_law 1370 = .ok (.iconst 3, 1) := by decide +kernel
theorem d_L_law_1371 : decode cL_law 1371 = .ok (.iadd, 1) := by decide +kernel
theorem d_L_law_1372 : decode cL_law 1372 = .ok (.iaload, 1) := by decide +kernel
theorem d_L_law_1373 : decode cL_law 1373 = .ok (.ifCond .eq 7, 3) := by decide +kernel
theorem d_L_law_1376 : decode cL_law 1376 = .ok (.iconst 1, 1) := by decide +kernel
theorem d_L_law_1377 : decode cL_law 1377 = .ok (.goto 4, 3) := by decide +kernel
theorem d_L_law_1380 : decode cL_law 1380 = .ok (.iconst 0, 1) := by decide +kernel
theorem d_L_law_1381 : decode cL_law 1381 = .ok (.aload_n 3, 1) := by decide +kernel
theorem d_L_law_1382 : decode cL_law 1382 = .ok (.invokestatic 151, 3) := by decide +kernel
theorem d_L_law_1385 : decode cL_law 1385 = .ok (.istore 5, 2) := by decide +kernel
theorem d_L_law_1387 : decode cL_law 1387 = .ok (.aload_n 2, 1) := by decide +kernel
theorem d_L_law_1388 : decode cL_law 1388 = .ok (.aload_n 0, 1) := by decide +kernel
theorem d_L_law_1389 : decode cL_law 1389 = .ok (.iload 4, 2) := by decide +kernel
theorem d_L_law_1391 : decode cL_law 1391 = .ok (.iconst 1, 1) := by decide +kernel
theorem d_L_law_1392 : decode cL_law 1392 = .ok (.iadd, 1) := by decide +kernel
theorem d_L_law_1393 : decode cL_law 1393 = .ok (.iaload, 1) := by decide +kernel
theorem d_L_law_1394 : decode cL_law 1394 = .ok (.aload_n 0, 1) := by decide +kernel
theorem d_L_law_1395 : decode cL_law 1395 = .ok (.iload 4, 2) := by decide +kernel
theorem d_L_law_1397 : decode cL_law 1397 = .ok (.iconst 2, 1) := by decide +kernel
theorem d_L_law_1398 : decode cL_law 1398 = .ok (.iadd, 1) := by decide +kernel
theorem d_L_law_1399 : decode cL_law 1399 = .ok (.iaload, 1) := by decide +kernel
theorem d_L_law_1400 : decode cL_law 1400 = .ok (.aload_n 0, 1) := by decide +kernel
theorem d_L_law_1401 : decode cL_law 1401 = .ok (.iload 4, 2) := by decide +kernel
theorem d_L_law_1403 : decode cL_law 1403 = .ok (.iconst 3, 1) := by decide +kernel
theorem d_L_law_1404 : decode cL_law 1404 = .ok (.iadd, 1) := by decide +kernel
theorem d_L_law_1405 : decode cL_law 1405 = .ok (.iaload, 1) := by decide +kernel
theorem d_L_law_1406 : decode cL_law 1406 = .ok (.ifCond .eq 7, 3) := by decide +kernel
theorem d_L_law_1409 : decode cL_law 1409 = .ok (.iconst 1, 1) := by decide +kernel
theorem d_L_law_1410 : decode cL_law 1410 = .ok (.goto 4, 3) := by decide +kernel
theorem d_L_law_1413 : decode cL_law 1413 = .ok (.iconst 0, 1) := by decide +kernel
theorem d_L_law_1414 : decode cL_law 1414 = .ok (.invokevirtual 153, 3) := by decide +kernel
theorem d_L_law_1417 : decode cL_law 1417 = .ok (.istore 6, 2) := by decide +kernel
theorem d_L_law_1419 : decode cL_law 1419 = .ok (.aload_n 2, 1) := by decide +kernel
theorem d_L_law_1420 : decode cL_law 1420 = .ok (.invokevirtual 91, 3) := by decide +kernel
theorem d_L_law_1423 : decode cL_law 1423 = .ok (.iload 5, 2) := by decide +kernel
theorem d_L_law_1425 : decode cL_law 1425 = .ok (.if_icmp .eq 5, 3) := by decide +kernel
theorem d_L_law_1428 : decode cL_law 1428 = .ok (.iconst 0, 1) := by decide +kernel
theorem d_L_law_1429 : decode cL_law 1429 = .ok (.ireturn, 1) := by decide +kernel
theorem d_L_law_1430 : decode cL_law 1430 = .ok (.iload 5, 2) := by decide +kernel
theorem d_L_law_1432 : decode cL_law 1432 = .ok (.ifCond .ne 22, 3) := by decide +kernel
theorem d_L_law_1435 : decode cL_law 1435 = .ok (.aload_n 3, 1) := by decide +kernel
theorem d_L_law_1436 : decode cL_law 1436 = .ok (.iconst 0, 1) := by decide +kernel
theorem d_L_law_1437 : decode cL_law 1437 = .ok (.laload, 1) := by decide +kernel
theorem d_L_law_1438 : decode cL_law 1438 = .ok (.iload 6, 2) := by decide +kernel
theorem d_L_law_1440 : decode cL_law 1440 = .ok (.ifCond .eq 7, 3) := by decide +kernel
theorem d_L_law_1443 : decode cL_law 1443 = .ok (.lconst 1, 1) := by decide +kernel
theorem d_L_law_1444 : decode cL_law 1444 = .ok (.goto 4, 3) := by decide +kernel
theorem d_L_law_1447 : decode cL_law 1447 = .ok (.lconst 0, 1) := by decide +kernel
theorem d_L_law_1448 : decode cL_law 1448 = .ok (.lcmp, 1) := by decide +kernel
theorem d_L_law_1449 : decode cL_law 1449 = .ok (.ifCond .eq 5, 3) := by decide +kernel
theorem d_L_law_1452 : decode cL_law 1452 = .ok (.iconst 0, 1) := by decide +kernel
theorem d_L_law_1453 : decode cL_law 1453 = .ok (.ireturn, 1) := by decide +kernel
theorem d_L_law_1454 : decode cL_law 1454 = .ok (.goto 202, 3) := by decide +kernel
theorem d_L_law_1457 : decode cL_law 1457 = .ok (.aload_n 1, 1) := by decide +kernel
theorem d_L_law_1458 : decode cL_law 1458 = .ok (.aload_n 0, 1) := by decide +kernel
theorem d_L_law_1459 : decode cL_law 1459 = .ok (.iload 4, 2) := by decide +kernel
theorem d_L_law_1461 : decode cL_law 1461 = .ok (.iconst 1, 1) := by decide +kernel
theorem d_L_law_1462 : decode cL_law 1462 = .ok (.iadd, 1) := by decide +kernel
theorem d_L_law_1463 : decode cL_law 1463 = .ok (.iaload, 1) := by decide +kernel
theorem d_L_law_1464 : decode cL_law 1464 = .ok (.aload_n 3, 1) := by decide +kernel
theorem d_L_law_1465 : decode cL_law 1465 = .ok (.invokestatic 154, 3) := by decide +kernel
theorem d_L_law_1468 : decode cL_law 1468 = .ok (.istore 5, 2) := by decide +kernel
theorem d_L_law_1470 : decode cL_law 1470 = .ok (.aload_n 2, 1) := by decide +kernel
theorem d_L_law_1471 : decode cL_law 1471 = .ok (.aload_n 0, 1) := by decide +kernel
theorem d_L_law_1472 : decode cL_law 1472 = .ok (.iload 4, 2) := by decide +kernel
theorem d_L_law_1474 : decode cL_law 1474 = .ok (.iconst 1, 1) := by decide +kernel
theorem d_L_law_1475 : decode cL_law 1475 = .ok (.iadd, 1) := by decide +kernel
theorem d_L_law_1476 : decode cL_law 1476 = .ok (.iaload, 1) := by decide +kernel
theorem d_L_law_1477 : decode cL_law 1477 = .ok (.invokevirtual 156, 3) := by decide +kernel
theorem d_L_law_1480 : decode cL_law 1480 = .ok (.istore 6, 2) := by decide +kernel
theorem d_L_law_1482 : decode cL_law 1482 = .ok (.aload_n 2, 1) := by decide +kernel
theorem d_L_law_1483 : decode cL_law 1483 = .ok (.invokevirtual 91, 3) := by decide +kernel
theorem d_L_law_1486 : decode cL_law 1486 = .ok (.iload 5, 2) := by decide +kernel
theorem d_L_law_1488 : decode cL_law 1488 = .ok (.if_icmp .eq 5, 3) := by decide +kernel
theorem d_L_law_1491 : decode cL_law 1491 = .ok (.iconst 0, 1) := by decide +kernel
theorem d_L_law_1492 : decode cL_law 1492 = .ok (.ireturn, 1) := by decide +kernel
theorem d_L_law_1493 : decode cL_law 1493 = .ok (.iload 5, 2) := by decide +kernel
theorem d_L_law_1495 : decode cL_law 1495 = .ok (.ifCond .ne 22, 3) := by decide +kernel
theorem d_L_law_1498 : decode cL_law 1498 = .ok (.aload_n 3, 1) := by decide +kernel
theorem d_L_law_1499 : decode cL_law 1499 = .ok (.iconst 0, 1) := by decide +kernel
theorem d_L_law_1500 : decode cL_law 1500 = .ok (.laload, 1) := by decide +kernel
theorem d_L_law_1501 : decode cL_law 1501 = .ok (.iload 6, 2) := by decide +kernel
theorem d_L_law_1503 : decode cL_law 1503 = .ok (.ifCond .eq 7, 3) := by decide +kernel
theorem d_L_law_1506 : decode cL_law 1506 = .ok (.lconst 1, 1) := by decide +kernel
theorem d_L_law_1507 : decode cL_law 1507 = .ok (.goto 4, 3) := by decide +kernel
theorem d_L_law_1510 : decode cL_law 1510 = .ok (.lconst 0, 1) := by decide +kernel
theorem d_L_law_1511 : decode cL_law 1511 = .ok (.lcmp, 1) := by decide +kernel
theorem d_L_law_1512 : decode cL_law 1512 = .ok (.ifCond .eq 5, 3) := by decide +kernel
theorem d_L_law_1515 : decode cL_law 1515 = .ok (.iconst 0, 1) := by decide +kernel
theorem d_L_law_1516 : decode cL_law 1516 = .ok (.ireturn, 1) := by decide +kernel
theorem d_L_law_1517 : decode cL_law 1517 = .ok (.goto 139, 3) := by decide +kernel
theorem d_L_law_1520 : decode cL_law 1520 = .ok (.aload_n 1, 1) := by decide +kernel
theorem d_L_law_1521 : decode cL_law 1521 = .ok (.aload_n 0, 1) := by decide +kernel
theorem d_L_law_1522 : decode cL_law 1522 = .ok (.iload 4, 2) := by decide +kernel
theorem d_L_law_1524 : decode cL_law 1524 = .ok (.iconst 1, 1) := by decide +kernel
theorem d_L_law_1525 : decode cL_law 1525 = .ok (.iadd, 1) := by decide +kernel
theorem d_L_law_1526 : decode cL_law 1526 = .ok (.iaload, 1) := by decide +kernel
theorem d_L_law_1527 : decode cL_law 1527 = .ok (.aload_n 0, 1) := by decide +kernel
theorem d_L_law_1528 : decode cL_law 1528 = .ok (.iload 4, 2) := by decide +kernel
theorem d_L_law_1530 : decode cL_law 1530 = .ok (.iconst 2, 1) := by decide +kernel
theorem d_L_law_1531 : decode cL_law 1531 = .ok (.iadd, 1) := by decide +kernel
theorem d_L_law_1532 : decode cL_law 1532 = .ok (.iaload, 1) := by decide +kernel
theorem d_L_law_1533 : decode cL_law 1533 = .ok (.aload_n 0, 1) := by decide +kernel
theorem d_L_law_1534 : decode cL_law 1534 = .ok (.iload 4, 2) := by decide +kernel
theorem d_L_law_1536 : decode cL_law 1536 = .ok (.iconst 3, 1) := by decide +kernel
theorem d_L_law_1537 : decode cL_law 1537 = .ok (.iadd, 1) := by decide +kernel
theorem d_L_law_1538 : decode cL_law 1538 = .ok (.iaload, 1) := by decide +kernel
theorem d_L_law_1539 : decode cL_law 1539 = .ok (.aload_n 3, 1) := by decide +kernel
theorem d_L_law_1540 : decode cL_law 1540 = .ok (.invokestatic 157, 3) := by decide +kernel
theorem d_L_law_1543 : decode cL_law 1543 = .ok (.istore 5, 2) := by decide +kernel
theorem d_L_law_1545 : decode cL_law 1545 = .ok (.aload_n 2, 1) := by decide +kernel
theorem d_L_law_1546 : decode cL_law 1546 = .ok (.aload_n 0, 1) := by decide +kernel
theorem d_L_law_1547 : decode cL_law 1547 = .ok (.iload 4, 2) := by decide +kernel
theorem d_L_law_1549 : decode cL_law 1549 = .ok (.iconst 1, 1) := by decide +kernel
theorem d_L_law_1550 : decode cL_law 1550 = .ok (.iadd, 1) := by decide +kernel
theorem d_L_law_1551 : decode cL_law 1551 = .ok (.iaload, 1) := by decide +kernel
theorem d_L_law_1552 : decode cL_law 1552 = .ok (.aload_n 0, 1) := by decide +kernel
theorem d_L_law_1553 : decode cL_law 1553 = .ok (.iload 4, 2) := by decide +kernel
theorem d_L_law_1555 : decode cL_law 1555 = .ok (.iconst 2, 1) := by decide +kernel
theorem d_L_law_1556 : decode cL_law 1556 = .ok (.iadd, 1) := by decide +kernel
theorem d_L_law_1557 : decode cL_law 1557 = .ok (.iaload, 1) := by decide +kernel
theorem d_L_law_1558 : decode cL_law 1558 = .ok (.aload_n 0, 1) := by decide +kernel
theorem d_L_law_1559 : decode cL_law 1559 = .ok (.iload 4, 2) := by decide +kernel
theorem d_L_law_1561 : decode cL_law 1561 = .ok (.iconst 3, 1) := by decide +kernel
theorem d_L_law_1562 : decode cL_law 1562 = .ok (.iadd, 1) := by decide +kernel
theorem d_L_law_1563 : decode cL_law 1563 = .ok (.iaload, 1) := by decide +kernel
theorem d_L_law_1564 : decode cL_law 1564 = .ok (.invokevirtual 160, 3) := by decide +kernel
theorem d_L_law_1567 : decode cL_law 1567 = .ok (.istore 6, 2) := by decide +kernel
theorem d_L_law_1569 : decode cL_law 1569 = .ok (.aload_n 2, 1) := by decide +kernel
theorem d_L_law_1570 : decode cL_law 1570 = .ok (.invokevirtual 91, 3) := by decide +kernel
theorem d_L_law_1573 : decode cL_law 1573 = .ok (.iload 5, 2) := by decide +kernel
theorem d_L_law_1575 : decode cL_law 1575 = .ok (.if_icmp .eq 5, 3) := by decide +kernel
theorem d_L_law_1578 : decode cL_law 1578 = .ok (.iconst 0, 1) := by decide +kernel
theorem d_L_law_1579 : decode cL_law 1579 = .ok (.ireturn, 1) := by decide +kernel
theorem d_L_law_1580 : decode cL_law 1580 = .ok (.iload 5, 2) := by decide +kernel
theorem d_L_law_1582 : decode cL_law 1582 = .ok (.ifCond .ne 15, 3) := by decide +kernel
theorem d_L_law_1585 : decode cL_law 1585 = .ok (.aload_n 3, 1) := by decide +kernel
theorem d_L_law_1586 : decode cL_law 1586 = .ok (.iconst 0, 1) := by decide +kernel
theorem d_L_law_1587 : decode cL_law 1587 = .ok (.laload, 1) := by decide +kernel
theorem d_L_law_1588 : decode cL_law 1588 = .ok (.iload 6, 2) := by decide +kernel
theorem d_L_law_1590 : decode cL_law 1590 = .ok (.i2l, 1) := by decide +kernel
theorem d_L_law_1591 : decode cL_law 1591 = .ok (.lcmp, 1) := by decide +kernel
theorem d_L_law_1592 : decode cL_law 1592 = .ok (.ifCond .eq 5, 3) := by decide +kernel
theorem d_L_law_1595 : decode cL_law 1595 = .ok (.iconst 0, 1) := by decide +kernel
theorem d_L_law_1596 : decode cL_law 1596 = .ok (.ireturn, 1) := by decide +kernel
theorem d_L_law_1597 : decode cL_law 1597 = .ok (.goto 59, 3) := by decide +kernel
theorem d_L_law_1600 : decode cL_law 1600 = .ok (.aload_n 1, 1) := by decide +kernel
theorem d_L_law_1601 : decode cL_law 1601 = .ok (.aload_n 0, 1) := by decide +kernel
theorem d_L_law_1602 : decode cL_law 1602 = .ok (.iload 4, 2) := by decide +kernel
theorem d_L_law_1604 : decode cL_law 1604 = .ok (.iconst 1, 1) := by decide +kernel
theorem d_L_law_1605 : decode cL_law 1605 = .ok (.iadd, 1) := by decide +kernel
theorem d_L_law_1606 : decode cL_law 1606 = .ok (.iaload, 1) := by decide +kernel
theorem d_L_law_1607 : decode cL_law 1607 = .ok (.aload_n 3, 1) := by decide +kernel
theorem d_L_law_1608 : decode cL_law 1608 = .ok (.invokestatic 161, 3) := by decide +kernel
theorem d_L_law_1611 : decode cL_law 1611 = .ok (.istore 5, 2) := by decide +kernel
theorem d_L_law_1613 : decode cL_law 1613 = .ok (.aload_n 2, 1) := by decide +kernel
theorem d_L_law_1614 : decode cL_law 1614 = .ok (.aload_n 0, 1) := by decide +kernel
theorem d_L_law_1615 : decode cL_law 1615 = .ok (.iload 4, 2) := by decide +kernel
theorem d_L_law_1617 : decode cL_law 1617 = .ok (.iconst 1, 1) := by decide +kernel
theorem d_L_law_1618 : decode cL_law 1618 = .ok (.iadd, 1) := by decide +kernel
theorem d_L_law_1619 : decode cL_law 1619 = .ok (.iaload, 1) := by decide +kernel
theorem d_L_law_1620 : decode cL_law 1620 = .ok (.invokevirtual 163, 3) := by decide +kernel
theorem d_L_law_1623 : decode cL_law 1623 = .ok (.istore 6, 2) := by decide +kernel
theorem d_L_law_1625 : decode cL_law 1625 = .ok (.aload_n 2, 1) := by decide +kernel
theorem d_L_law_1626 : decode cL_law 1626 = .ok (.invokevirtual 91, 3) := by decide +kernel
theorem d_L_law_1629 : decode cL_law 1629 = .ok (.iload 5, 2) := by decide +kernel
theorem d_L_law_1631 : decode cL_law 1631 = .ok (.if_icmp .eq 5, 3) := by decide +kernel
theorem d_L_law_1634 : decode cL_law 1634 = .ok (.iconst 0, 1) := by decide +kernel
theorem d_L_law_1635 : decode cL_law 1635 = .ok (.ireturn, 1) := by decide +kernel
theorem d_L_law_1636 : decode cL_law 1636 = .ok (.iload 5, 2) := by decide +kernel
theorem d_L_law_1638 : decode cL_law 1638 = .ok (.ifCond .ne 15, 3) := by decide +kernel
theorem d_L_law_1641 : decode cL_law 1641 = .ok (.aload_n 3, 1) := by decide +kernel
theorem d_L_law_1642 : decode cL_law 1642 = .ok (.iconst 0, 1) := by decide +kernel
theorem d_L_law_1643 : decode cL_law 1643 = .ok (.laload, 1) := by decide +kernel
theorem d_L_law_1644 : decode cL_law 1644 = .ok (.iload 6, 2) := by decide +kernel
theorem d_L_law_1646 : decode cL_law 1646 = .ok (.i2l, 1) := by decide +kernel
theorem d_L_law_1647 : decode cL_law 1647 = .ok (.lcmp, 1) := by decide +kernel
theorem d_L_law_1648 : decode cL_law 1648 = .ok (.ifCond .eq 5, 3) := by decide +kernel
theorem d_L_law_1651 : decode cL_law 1651 = .ok (.iconst 0, 1) := by decide +kernel
theorem d_L_law_1652 : decode cL_law 1652 = .ok (.ireturn, 1) := by decide +kernel
theorem d_L_law_1653 : decode cL_law 1653 = .ok (.goto 3, 3) := by decide +kernel
theorem d_L_law_1656 : decode cL_law 1656 = .ok (.iinc 4 5, 3) := by decide +kernel
theorem d_L_law_1659 : decode cL_law 1659 = .ok (.goto (-1636), 3) := by decide +kernel
theorem d_L_law_1662 : decode cL_law 1662 = .ok (.iconst 1, 1) := by decide +kernel
theorem d_L_law_1663 : decode cL_law 1663 = .ok (.ireturn, 1) := by decide +kernel
