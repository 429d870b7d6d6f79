theorem d_Law_law_1272 : decode b_Law_law 1272 = .ok (.aload_n 1, 1) := by decide +kernel
theorem d_Law_law_1273 : decode b_Law_law 1273 = .ok (.aload_n 0, 1) := by decide +kernel
theorem d_Law_law_1274 : decode b_Law_law 1274 = .ok (.iload 4, 2) := by decide +kernel
theorem d_Law_law_1276 : decode b_Law_law 1276 = .ok (.iconst 1, 1) := by decide +kernel
theorem d_Law_law_1277 : decode b_Law_law 1277 = .ok (.iadd, 1) := by decide +kernel
theorem d_Law_law_1278 : decode b_Law_law 1278 = .ok (.iaload, 1) := by decide +kernel
theorem d_Law_law_1279 : decode b_Law_law 1279 = .ok (.aload_n 0, 1) := by decide +kernel
theorem d_Law_law_1280 : decode b_Law_law 1280 = .ok (.iload 4, 2) := by decide +kernel
theorem d_Law_law_1282 : decode b_Law_law 1282 = .ok (.iconst 2, 1) := by decide +kernel
theorem d_Law_law_1283 : decode b_Law_law 1283 = .ok (.iadd, 1) := by decide +kernel
theorem d_Law_law_1284 : decode b_Law_law 1284 = .ok (.iaload, 1) := by decide +kernel
theorem d_Law_law_1285 : decode b_Law_law 1285 = .ok (.aload_n 0, 1) := by decide +kernel
theorem d_Law_law_1286 : decode b_Law_law 1286 = .ok (.iload 4, 2) := by decide +kernel
theorem d_Law_law_1288 : decode b_Law_law 1288 = .ok (.iconst 3, 1) := by decide +kernel
theorem d_Law_law_1289 : decode b_Law_law 1289 = .ok (.iadd, 1) := by decide +kernel
theorem d_Law_law_1290 : decode b_Law_law 1290 = .ok (.iaload, 1) := by decide +kernel
theorem d_Law_law_1291 : decode b_Law_law 1291 = .ok (.aload_n 0, 1) := by decide +kernel
theorem d_Law_law_1292 : decode b_Law_law 1292 = .ok (.iload 4, 2) := by decide +kernel
theorem d_Law_law_1294 : decode b_Law_law 1294 = .ok (.iconst 4, 1) := by decide +kernel
theorem d_Law_law_1295 : decode b_Law_law 1295 = .ok (.iadd, 1) := by decide +kernel
theorem d_Law_law_1296 : decode b_Law_law 1296 = .ok (.iaload, 1) := by decide +kernel
theorem d_Law_law_1297 : decode b_Law_law 1297 = .ok (.i2l, 1) := by decide +kernel
theorem d_Law_law_1298 : decode b_Law_law 1298 = .ok (.bipush 32, 2) := by decide +kernel
theorem d_Law_law_1300 : decode b_Law_law 1300 = .ok (.lshl, 1) := by decide +kernel
theorem d_Law_law_1301 : decode b_Law_law 1301 = .ok (.aload_n 0, 1) := by decide +kernel
theorem d_Law_law_1302 : decode b_Law_law 1302 = .ok (.iload 4, 2) := by decide +kernel
theorem d_Law_law_1304 : decode b_Law_law 1304 = .ok (.iconst 5, 1) := by decide +kernel
theorem d_Law_law_1305 : decode b_Law_law 1305 = .ok (.iadd, 1) := by decide +kernel
theorem d_Law_law_1306 : decode b_Law_law 1306 = .ok (.iaload, 1) := by decide +kernel
theorem d_Law_law_1307 : decode b_Law_law 1307 = .ok (.i2l, 1) := by decide +kernel
theorem d_Law_law_1308 : decode b_Law_law 1308 = .ok (.ldc2_w 75, 3) := by decide +kernel
theorem d_Law_law_1311 : decode b_Law_law 1311 = .ok (.land, 1) := by decide +kernel
theorem d_Law_law_1312 : decode b_Law_law 1312 = .ok (.lor, 1) := by decide +kernel
theorem d_Law_law_1313 : decode b_Law_law 1313 = .ok (.aload_n 0, 1) := by decide +kernel
theorem d_Law_law_1314 : decode b_Law_law 1314 = .ok (.iload 4, 2) := by decide +kernel
theorem d_Law_law_1316 : decode b_Law_law 1316 = .ok (.bipush 6, 2) := by decide +kernel
theorem d_Law_law_1318 : decode b_Law_law 1318 = .ok (.iadd, 1) := by decide +kernel
theorem d_Law_law_1319 : decode b_Law_law 1319 = .ok (.iaload, 1) := by decide +kernel
theorem d_Law_law_1320 : decode b_Law_law 1320 = .ok (.i2l, 1) := by decide +kernel
theorem d_Law_law_1321 : decode b_Law_law 1321 = .ok (.bipush 32, 2) := by decide +kernel
theorem d_Law_law_1323 : decode b_Law_law 1323 = .ok (.lshl, 1) := by decide +kernel
theorem d_Law_law_1324 : decode b_Law_law 1324 = .ok (.aload_n 0, 1) := by decide +kernel
theorem d_Law_law_1325 : decode b_Law_law 1325 = .ok (.iload 4, 2) := by decide +kernel
theorem d_Law_law_1327 : decode b_Law_law 1327 = .ok (.bipush 7, 2) := by decide +kernel
theorem d_Law_law_1329 : decode b_Law_law 1329 = .ok (.iadd, 1) := by decide +kernel
theorem d_Law_law_1330 : decode b_Law_law 1330 = .ok (.iaload, 1) := by decide +kernel
theorem d_Law_law_1331 : decode b_Law_law 1331 = .ok (.i2l, 1) := by decide +kernel
theorem d_Law_law_1332 : decode b_Law_law 1332 = .ok (.ldc2_w 75, 3) := by decide +kernel
theorem d_Law_law_1335 : decode b_Law_law 1335 = .ok (.land, 1) := by decide +kernel
theorem d_Law_law_1336 : decode b_Law_law 1336 = .ok (.lor, 1) := by decide +kernel
theorem d_Law_law_1337 : decode b_Law_law 1337 = .ok (.aload_n 3, 1) := by decide +kernel
theorem d_Law_law_1338 : decode b_Law_law 1338 = .ok (.invokestatic 146, 3) := by decide +kernel
theorem d_Law_law_1341 : decode b_Law_law 1341 = .ok (.istore 5, 2) := by decide +kernel
theorem d_Law_law_1343 : decode b_Law_law 1343 = .ok (.aload_n 2, 1) := by decide +kernel
theorem d_Law_law_1344 : decode b_Law_law 1344 = .ok (.aload_n 0, 1) := by decide +kernel
theorem d_Law_law_1345 : decode b_Law_law 1345 = .ok (.iload 4, 2) := by decide +kernel
theorem d_Law_law_1347 : decode b_Law_law 1347 = .ok (.iconst 1, 1) := by decide +kernel
theorem d_Law_law_1348 : decode b_Law_law 1348 = .ok (.iadd, 1) := by decide +kernel
theorem d_Law_law_1349 : decode b_Law_law 1349 = .ok (.iaload, 1) := by decide +kernel
theorem d_Law_law_1350 : decode b_Law_law 1350 = .ok (.aload_n 0, 1) := by decide +kernel
theorem d_Law_law_1351 : decode b_Law_law 1351 = .ok (.iload 4, 2) := by decide +kernel
theorem d_Law_law_1353 : decode b_Law_law 1353 = .ok (.iconst 2, 1) := by decide +kernel
theorem d_Law_law_1354 : decode b_Law_law 1354 = .ok (.iadd, 1) := by decide +kernel
theorem d_Law_law_1355 : decode b_Law_law 1355 = .ok (.iaload, 1) := by decide +kernel
theorem d_Law_law_1356 : decode b_Law_law 1356 = .ok (.aload_n 0, 1) := by decide +kernel
theorem d_Law_law_1357 : decode b_Law_law 1357 = .ok (.iload 4, 2) := by decide +kernel
theorem d_Law_law_1359 : decode b_Law_law 1359 = .ok (.iconst 3, 1) := by decide +kernel
theorem d_Law_law_1360 : decode b_Law_law 1360 = .ok (.iadd, 1) := by decide +kernel
theorem d_Law_law_1361 : decode b_Law_law 1361 = .ok (.iaload, 1) := by decide +kernel
theorem d_Law_law_1362 : decode b_Law_law 1362 = .ok (.aload_n 0, 1) := by decide +kernel
theorem d_Law_law_1363 : decode b_Law_law 1363 = .ok (.iload 4, 2) := by decide +kernel
theorem d_Law_law_1365 : decode b_Law_law 1365 = .ok (.iconst 4, 1) := by decide +kernel
theorem d_Law_law_1366 : decode b_Law_law 1366 = .ok (.iadd, 1) := by decide +kernel
theorem d_Law_law_1367 : decode b_Law_law 1367 = .ok (.iaload, 1) := by decide +kernel
theorem d_Law_law_1368 : decode b_Law_law 1368 = .ok (.i2l, 1) := by decide +kernel
theorem d_Law_law_1369 : decode b_Law_law 1369 = .ok (.bipush 32, 2) := by decide +kernel
theorem d_Law_law_1371 : decode b_Law_law 1371 = .ok (.lshl, 1) := by decide +kernel
theorem d_Law_law_1372 : decode b_Law_law 1372 = .ok (.aload_n 0, 1) := by decide +kernel
theorem d_Law_law_1373 : decode b_Law_law 1373 = .ok (.iload 4, 2) := by decide +kernel
theorem d_Law_law_1375 : decode b_Law_law 1375 = .ok (.iconst 5, 1) := by decide +kernel
theorem d_Law_law_1376 : decode b_Law_law 1376 = .ok (.iadd, 1) := by decide +kernel
theorem d_Law_law_1377 : decode b_Law_law 1377 = .ok (.iaload, 1) := by decide +kernel
theorem d_Law_law_1378 : decode b_Law_law 1378 = .ok (.i2l, 1) := by decide +kernel
theorem d_Law_law_1379 : decode b_Law_law 1379 = .ok (.ldc2_w 75, 3) := by decide +kernel
theorem d_Law_law_1382 : decode b_Law_law 1382 = .ok (.land, 1) := by decide +kernel
theorem d_Law_law_1383 : decode b_Law_law 1383 = .ok (.lor, 1) := by decide +kernel
theorem d_Law_law_1384 : decode b_Law_law 1384 = .ok (.aload_n 0, 1) := by decide +kernel
theorem d_Law_law_1385 : decode b_Law_law 1385 = .ok (.iload 4, 2) := by decide +kernel
theorem d_Law_law_1387 : decode b_Law_law 1387 = .ok (.bipush 6, 2) := by decide +kernel
theorem d_Law_law_1389 : decode b_Law_law 1389 = .ok (.iadd, 1) := by decide +kernel
theorem d_Law_law_1390 : decode b_Law_law 1390 = .ok (.iaload, 1) := by decide +kernel
theorem d_Law_law_1391 : decode b_Law_law 1391 = .ok (.i2l, 1) := by decide +kernel
theorem d_Law_law_1392 : decode b_Law_law 1392 = .ok (.bipush 32, 2) := by decide +kernel
theorem d_Law_law_1394 : decode b_Law_law 1394 = .ok (.lshl, 1) := by decide +kernel
theorem d_Law_law_1395 : decode b_Law_law 1395 = .ok (.aload_n 0, 1) := by decide +kernel
theorem d_Law_law_1396 : decode b_Law_law 1396 = .ok (.iload 4, 2) := by decide +kernel
theorem d_Law_law_1398 : decode b_Law_law 1398 = .ok (.bipush 7, 2) := by decide +kernel
theorem d_Law_law_1400 : decode b_Law_law 1400 = .ok (.iadd, 1) := by decide +kernel
theorem d_Law_law_1401 : decode b_Law_law 1401 = .ok (.iaload, 1) := by decide +kernel
theorem d_Law_law_1402 : decode b_Law_law 1402 = .ok (.i2l, 1) := by decide +kernel
theorem d_Law_law_1403 : decode b_Law_law 1403 = .ok (.ldc2_w 75, 3) := by decide +kernel
theorem d_Law_law_1406 : decode b_Law_law 1406 = .ok (.land, 1) := by decide +kernel
theorem d_Law_law_1407 : decode b_Law_law 1407 = .ok (.lor, 1) := by decide +kernel
theorem d_Law_law_1408 : decode b_Law_law 1408 = .ok (.invokevirtual 149, 3) := by decide +kernel
theorem d_Law_law_1411 : decode b_Law_law 1411 = .ok (.istore 6, 2) := by decide +kernel
theorem d_Law_law_1413 : decode b_Law_law 1413 = .ok (.aload_n 2, 1) := by decide +kernel
theorem d_Law_law_1414 : decode b_Law_law 1414 = .ok (.invokevirtual 83, 3) := by decide +kernel
theorem d_Law_law_1417 : decode b_Law_law 1417 = .ok (.iload 5, 2) := by decide +kernel
theorem d_Law_law_1419 : decode b_Law_law 1419 = .ok (.if_icmp .eq 5, 3) := by decide +kernel
theorem d_Law_law_1424 : decode b_Law_law 1424 = .ok (.iload 5, 2) := by decide +kernel
theorem d_Law_law_1426 : decode b_Law_law 1426 = .ok (.ifCond .ne 15, 3) := by decide +kernel
theorem d_Law_law_1441 : decode b_Law_law 1441 = .ok (.goto 3, 3) := by decide +kernel
set_option maxHeartbeats 4000000 in
set_option maxRecDepth 100000 in
theorem lg_orderW_bad {p : Program} {e : Env} {s : State} {m : MethodId} {below : List Frame} {meth : Method} {cd : Code} (l : Launch) (hfl : l.stackTraces = false) {b L : Nat} {xs : Nat → Int32} (C9 : lw_At p s m meth cd b L xs) (i0 k9 : Nat) (hi : i0 + 8 ≤ L) (hL : L ≤ 4096) (hk9 : k9 ≤ 511) (A : Nat → Prop) (hA : ∀ q, s.heap.size ≤ q → A q) (hAO : ∀ q, A q → s.heap.size ≤ q) (D : va_G) (cB cI cJ cZ cN cQ cO : ClassId) (hK : va_K D classes [(cB, .byte), (cI, .int), (cJ, .long), (cZ, .boolean), (cN, .object "StreamSplitter$Lane"), (cQ, .object "StreamSplitter$Piece"), (cO, .object "java/lang/Object")] s) (e0 : Nat) (he0 : zE0 s e0) (x9 rv dr tp ln tb ca dp a hd m9 o9 : Nat) (r : Nat → Nat) (T : List Int32) (f : Nat → Int32) (cn : Nat → Int32) (hf : Nat → Option Nat) (dpf : Nat → Option Nat) (dn : Nat → Option PQ9) (Ls : List LZ) (lv : Int32) (pr : Nat) (pmo : Int32) (pst : Option (Nat × (Nat → Option Nat))) (P : List PR9) (mo : Int32) (dst : Option (Nat × (Nat → Option Nat))) (DL : List DR9) (X : va_W) (th : Int32) (rs : Int32) (tpR : Nat → Int32) (wrR : Nat → Int32) (roR : Nat → Int32) (pN : Nat → Int32) (pP : Nat → Int32) (pS : Nat → Int32) (pT : Nat → Int32) (pQ : Nat → Int32) (pkR : Nat → Int32) (ctR : Nat → Int32) (twR : Nat → Int32) (clR : Nat → Int64) (kdR : Nat → Int32) (waR : Nat → Int32) (suR : Nat → Int32) (tiR : Nat → Int64) (npR : Nat) (dnR : Nat → Int64) (sYR : Nat → Int32) (sZR : Nat → Int32) (sBR : Nat → Int32) (seR : Nat → Int32) (leR : Int32) (gR : PG) (oR : OG) (sPR : Nat → Int32) (g9 : Nat → Int64) (H : Heap) (locs : List Loc) (ls : Array Slot) (cells slots : Nat) (hl : lv_has ls 8 [(4, .int (nI i0)), (3, .ref o9), (2, .ref m9), (1, .ref x9), (0, .ref b)]) (hP : va_P D classes ([(x9, .inr (11, [.ref rv, .ref dr])), (rv, .inr (4, [.ref tp, .ref ln, .ref tb, .ref ca, .ref dp])), (ca, .inl (cI, 10, .inl cn)), (dp, .inl (cQ, 16, .inr (.inr (.inr (.inr dpf))))), (tp, .inr (0, [.ref a, .int (nI T.length)])), (a, .inl (cB, 9400, .inl f)), (ln, .inr (2, [.ref hd])), (hd, .inl (cN, 256, .inr (.inr (.inr (.inr hf))))), (m9, .inr (13, mO r th (nI T.length) leR lv (nI P.length) (nI npR) (nI DL.length) rs)), (r 1, .inl (cI, 9400, .inl tpR)), (r 3, .inl (cI, 10, .inl cn)), (r 4, .inl (cI, 8192, .inl ctR)), (r 5, .inl (cZ, 8192, .inl twR)), (r 6, .inl (cJ, 8192, .inr (.inl clR))), (r 7, .inl (cI, 24, .inl sPR)), (r 8, .inl (cZ, 24, .inl sBR)), (r 9, .inl (cI, 24576, .inl sYR)), (r 10, .inl (cI, 24, .inl sZR)), (r 11, .inl (cI, 24, .inl kdR)), (r 12, .inl (cI, 24, .inl waR)), (r 13, .inl (cI, 24, .inl suR)), (r 14, .inl (cJ, 24, .inr (.inl tiR))), (r 15, .inl (cI, 1024, .inl seR)), (r 17, .inl (cI, 188, .inl pkR)), (r 43, .inl (cJ, 80, .inr (.inl dnR))), (r 20, .inl (cI, 4, .inl gR.nu)), (r 21, .inl (cI, 4, .inl gR.pi)), (r 22, .inl (cI, 4, .inl gR.vs)), (r 23, .inl (cI, 4, .inl gR.cp)), (r 24, .inl (cI, 4, .inl gR.sc)), (r 25, .inl (cZ, 4, .inl gR.aw)), (r 26, .inl (cJ, 4, .inr (.inl gR.nw))), (r 27, .inl (cI, 4, .inl gR.wt)), (r 28, .inl (cI, 16, .inl gR.ty)), (r 29, .inl (cI, 16, .inl gR.sp)), (r 30, .inl (cJ, 24, .inr (.inl gR.z.1))), (r 31, .inl (cI, 24, .inl gR.z.2.1)), (r 32, .inl (cZ, 24, .inl gR.z.2.2.1)), (r 33, .inl (cJ, 24, .inr (.inl gR.z.2.2.2))), (r 34, .inl (cI, 24, .inl oR.oI)), (r 35, .inl (cZ, 4, .inl oR.oA)), (r 36, .inl (cJ, 4, .inr (.inl oR.oW))), (r 37, .inl (cI, 16, .inl oR.oT)), (r 38, .inl (cI, 16, .inl oR.oS)), (r 39, .inl (cJ, 24, .inr (.inl oR.z.1))), (r 40, .inl (cI, 24, .inl oR.z.2.1)), (r 41, .inl (cZ, 24, .inl oR.z.2.2.1)), (r 42, .inl (cJ, 24, .inr (.inl oR.z.2.2.2))), (r 46, .inl (cI, 4, .inl pN)), (r 47, .inl (cI, 4, .inl pP)), (r 48, .inl (cI, 4, .inl pS)), (r 49, .inl (cI, 16, .inl pT)), (r 50, .inl (cI, 16, .inl pQ)), (r 51, .inl (cI, 8192, .inl wrR)), (r 52, .inl (cI, 4200, .inl roR)), (o9, .inl (cJ, 1, .inr (.inl g9)))] ++ (lpl cB Ls ++ (dpl dn ++ (tplr cO e0 tb lv pr P.length pmo pst P ++ (dfl cO e0 dr DL.length mo dst DL ++ X))))) H) (hD : va_D A ([(x9, .inr (11, [.ref rv, .ref dr])), (rv, .inr (4, [.ref tp, .ref ln, .ref tb, .ref ca, .ref dp])), (ca, .inl (cI, 10, .inl cn)), (dp, .inl (cQ, 16, .inr (.inr (.inr (.inr dpf))))), (tp, .inr (0, [.ref a, .int (nI T.length)])), (a, .inl (cB, 9400, .inl f)), (ln, .inr (2, [.ref hd])), (hd, .inl (cN, 256, .inr (.inr (.inr (.inr hf))))), (m9, .inr (13, mO r th (nI T.length) leR lv (nI P.length) (nI npR) (nI DL.length) rs)), (r 1, .inl (cI, 9400, .inl tpR)), (r 3, .inl (cI, 10, .inl cn)), (r 4, .inl (cI, 8192, .inl ctR)), (r 5, .inl (cZ, 8192, .inl twR)), (r 6, .inl (cJ, 8192, .inr (.inl clR))), (r 7, .inl (cI, 24, .inl sPR)), (r 8, .inl (cZ, 24, .inl sBR)), (r 9, .inl (cI, 24576, .inl sYR)), (r 10, .inl (cI, 24, .inl sZR)), (r 11, .inl (cI, 24, .inl kdR)), (r 12, .inl (cI, 24, .inl waR)), (r 13, .inl (cI, 24, .inl suR)), (r 14, .inl (cJ, 24, .inr (.inl tiR))), (r 15, .inl (cI, 1024, .inl seR)), (r 17, .inl (cI, 188, .inl pkR)), (r 43, .inl (cJ, 80, .inr (.inl dnR))), (r 20, .inl (cI, 4, .inl gR.nu)), (r 21, .inl (cI, 4, .inl gR.pi)), (r 22, .inl (cI, 4, .inl gR.vs)), (r 23, .inl (cI, 4, .inl gR.cp)), (r 24, .inl (cI, 4, .inl gR.sc)), (r 25, .inl (cZ, 4, .inl gR.aw)), (r 26, .inl (cJ, 4, .inr (.inl gR.nw))), (r 27, .inl (cI, 4, .inl gR.wt)), (r 28, .inl (cI, 16, .inl gR.ty)), (r 29, .inl (cI, 16, .inl gR.sp)), (r 30, .inl (cJ, 24, .inr (.inl gR.z.1))), (r 31, .inl (cI, 24, .inl gR.z.2.1)), (r 32, .inl (cZ, 24, .inl gR.z.2.2.1)), (r 33, .inl (cJ, 24, .inr (.inl gR.z.2.2.2))), (r 34, .inl (cI, 24, .inl oR.oI)), (r 35, .inl (cZ, 4, .inl oR.oA)), (r 36, .inl (cJ, 4, .inr (.inl oR.oW))), (r 37, .inl (cI, 16, .inl oR.oT)), (r 38, .inl (cI, 16, .inl oR.oS)), (r 39, .inl (cJ, 24, .inr (.inl oR.z.1))), (r 40, .inl (cI, 24, .inl oR.z.2.1)), (r 41, .inl (cZ, 24, .inl oR.z.2.2.1)), (r 42, .inl (cJ, 24, .inr (.inl oR.z.2.2.2))), (r 46, .inl (cI, 4, .inl pN)), (r 47, .inl (cI, 4, .inl pP)), (r 48, .inl (cI, 4, .inl pS)), (r 49, .inl (cI, 16, .inl pT)), (r 50, .inl (cI, 16, .inl pQ)), (r 51, .inl (cI, 8192, .inl wrR)), (r 52, .inl (cI, 4200, .inl roR)), (o9, .inl (cJ, 1, .inr (.inl g9)))] ++ (lpl cB Ls ++ (dpl dn ++ (tplr cO e0 tb lv pr P.length pmo pst P ++ (dfl cO e0 dr DL.length mo dst DL ++ X)))))) (hS : va_S A s.heap H locs) (hRT : RT T f tpR) (hRH : RH k9 (cn, Ls, hf, dn, lv, pr, pmo, pst, P, []) (yT pkR ctR twR clR kdR waR suR tiR npR dnR sYR sZR sBR seR leR lv P.length gR oR sPR cn)) (hdp : dpok dpf dn) (htk : tok X cO pst P) (hdt : dtk X dst DL) (hRW : RW (32 * k9) Ls wrR) (hRD : RD DL pN pP pS pT pQ) (hRM : RM k9 T (huS (cn, Ls, hf, dn, lv, pr, pmo, pst, P, [])) cells slots) (ih : LG p l e s m below meth cd b A D cB cI cJ cZ cN cQ cO e0 x9 rv dr tp ln tb ca dp a hd m9 o9 r (i0 + 8) (k9 + 1))  (hbad : xs (i0 + 1) < 0 ∨ 8191 < xs (i0 + 1) ∨ xs (i0 + 3) < 0 ∨ 63 < xs (i0 + 3) ∨ lgv (xs (i0 + 4)) (xs (i0 + 5)) < 0 ∨ 8589934592 ≤ lgv (xs (i0 + 4)) (xs (i0 + 5)) ∨ lgv (xs (i0 + 6)) (xs (i0 + 7)) < 0) : W p l e room_1 s m #[Value.ref b] below meth cd H locs cells slots (lw_Z below #[Value.ref b] s) (F0 m 1272 ls []) := by
  obtain ⟨hx, hb, hr, hml, hown, htl, hX, hbl, hlocks, hgv⟩ := id C9
  have hG : zG s := ⟨b, htl, hgv⟩
  have hO : zO s s := ⟨State.WarmedH.refl s, Nat.le_refl _, fun _ _ => rfl⟩
  have hN := hO.zN hG
  have hts := hN.use (a := #[Value.ref b])
  have hbA : ¬ A b := fun z => absurd (hAO b z) (Nat.not_le.mpr hbl)
  have hrm := RM_le hRM (by omega)
  have hrc9 : cells + 1000 ≤ 515000 := (hrm.2.2 hk9).1
  have hrs9 : slots + 9400 ≤ 6180000 := (hrm.2.2 hk9).2
  have hT9 := hRT.2.2
  clear hrm
  obtain ⟨wf, hw1, hw2, hw3⟩ := id hRW
  have hlw := RW_lwr hRW hRH.1.2.1
  have hb9 : 32 * k9 ≤ 16352 := by omega
  have hP := hP.part (cx := [(x9, .inr (11, [.ref rv, .ref dr])), (m9, .inr (13, mO r th (nI T.length) leR lv (nI P.length) (nI npR) (nI DL.length) rs)), (r 1, .inl (cI, 9400, .inl tpR)), (r 51, .inl (cI, 8192, .inl wrR)), (r 52, .inl (cI, 4200, .inl roR)), (o9, .inl (cJ, 1, .inr (.inl g9))), (rv, .inr (4, [.ref tp, .ref ln, .ref tb, .ref ca, .ref dp])), (ca, .inl (cI, 10, .inl cn)), (dp, .inl (cQ, 16, .inr (.inr (.inr (.inr dpf))))), (tp, .inr (0, [.ref a, .int (nI T.length)])), (a, .inl (cB, 9400, .inl f)), (ln, .inr (2, [.ref hd])), (hd, .inl (cN, 256, .inr (.inr (.inr (.inr hf))))), (r 3, .inl (cI, 10, .inl cn)), (r 4, .inl (cI, 8192, .inl ctR)), (r 5, .inl (cZ, 8192, .inl twR)), (r 6, .inl (cJ, 8192, .inr (.inl clR))), (r 7, .inl (cI, 24, .inl sPR)), (r 8, .inl (cZ, 24, .inl sBR)), (r 9, .inl (cI, 24576, .inl sYR)), (r 10, .inl (cI, 24, .inl sZR)), (r 11, .inl (cI, 24, .inl kdR)), (r 12, .inl (cI, 24, .inl waR)), (r 13, .inl (cI, 24, .inl suR)), (r 14, .inl (cJ, 24, .inr (.inl tiR))), (r 15, .inl (cI, 1024, .inl seR)), (r 17, .inl (cI, 188, .inl pkR)), (r 43, .inl (cJ, 80, .inr (.inl dnR))), (r 20, .inl (cI, 4, .inl gR.nu)), (r 21, .inl (cI, 4, .inl gR.pi)), (r 22, .inl (cI, 4, .inl gR.vs)), (r 23, .inl (cI, 4, .inl gR.cp)), (r 24, .inl (cI, 4, .inl gR.sc)), (r 25, .inl (cZ, 4, .inl gR.aw)), (r 26, .inl (cJ, 4, .inr (.inl gR.nw))), (r 27, .inl (cI, 4, .inl gR.wt)), (r 28, .inl (cI, 16, .inl gR.ty)), (r 29, .inl (cI, 16, .inl gR.sp)), (r 30, .inl (cJ, 24, .inr (.inl gR.z.1))), (r 31, .inl (cI, 24, .inl gR.z.2.1)), (r 32, .inl (cZ, 24, .inl gR.z.2.2.1)), (r 33, .inl (cJ, 24, .inr (.inl gR.z.2.2.2))), (r 34, .inl (cI, 24, .inl oR.oI)), (r 35, .inl (cZ, 4, .inl oR.oA)), (r 36, .inl (cJ, 4, .inr (.inl oR.oW))), (r 37, .inl (cI, 16, .inl oR.oT)), (r 38, .inl (cI, 16, .inl oR.oS)), (r 39, .inl (cJ, 24, .inr (.inl oR.z.1))), (r 40, .inl (cI, 24, .inl oR.z.2.1)), (r 41, .inl (cZ, 24, .inl oR.z.2.2.1)), (r 42, .inl (cJ, 24, .inr (.inl oR.z.2.2.2))), (r 46, .inl (cI, 4, .inl pN)), (r 47, .inl (cI, 4, .inl pP)), (r 48, .inl (cI, 4, .inl pS)), (r 49, .inl (cI, 16, .inl pT)), (r 50, .inl (cI, 16, .inl pQ))]) [0, 8, 9, 53, 54, 55, 1, 2, 3, 4, 5, 6, 7, 10, 11, 12, 13, 14, 15, 16, 17, 18, 19, 20, 21, 22, 23, 24, 25, 26, 27, 28, 29, 30, 31, 32, 33, 34, 35, 36, 37, 38, 39, 40, 41, 42, 43, 44, 45, 46, 47, 48, 49, 50, 51, 52] rfl
  have hD := hD.part (cx := [(x9, .inr (11, [.ref rv, .ref dr])), (m9, .inr (13, mO r th (nI T.length) leR lv (nI P.length) (nI npR) (nI DL.length) rs)), (r 1, .inl (cI, 9400, .inl tpR)), (r 51, .inl (cI, 8192, .inl wrR)), (r 52, .inl (cI, 4200, .inl roR)), (o9, .inl (cJ, 1, .inr (.inl g9))), (rv, .inr (4, [.ref tp, .ref ln, .ref tb, .ref ca, .ref dp])), (ca, .inl (cI, 10, .inl cn)), (dp, .inl (cQ, 16, .inr (.inr (.inr (.inr dpf))))), (tp, .inr (0, [.ref a, .int (nI T.length)])), (a, .inl (cB, 9400, .inl f)), (ln, .inr (2, [.ref hd])), (hd, .inl (cN, 256, .inr (.inr (.inr (.inr hf))))), (r 3, .inl (cI, 10, .inl cn)), (r 4, .inl (cI, 8192, .inl ctR)), (r 5, .inl (cZ, 8192, .inl twR)), (r 6, .inl (cJ, 8192, .inr (.inl clR))), (r 7, .inl (cI, 24, .inl sPR)), (r 8, .inl (cZ, 24, .inl sBR)), (r 9, .inl (cI, 24576, .inl sYR)), (r 10, .inl (cI, 24, .inl sZR)), (r 11, .inl (cI, 24, .inl kdR)), (r 12, .inl (cI, 24, .inl waR)), (r 13, .inl (cI, 24, .inl suR)), (r 14, .inl (cJ, 24, .inr (.inl tiR))), (r 15, .inl (cI, 1024, .inl seR)), (r 17, .inl (cI, 188, .inl pkR)), (r 43, .inl (cJ, 80, .inr (.inl dnR))), (r 20, .inl (cI, 4, .inl gR.nu)), (r 21, .inl (cI, 4, .inl gR.pi)), (r 22, .inl (cI, 4, .inl gR.vs)), (r 23, .inl (cI, 4, .inl gR.cp)), (r 24, .inl (cI, 4, .inl gR.sc)), (r 25, .inl (cZ, 4, .inl gR.aw)), (r 26, .inl (cJ, 4, .inr (.inl gR.nw))), (r 27, .inl (cI, 4, .inl gR.wt)), (r 28, .inl (cI, 16, .inl gR.ty)), (r 29, .inl (cI, 16, .inl gR.sp)), (r 30, .inl (cJ, 24, .inr (.inl gR.z.1))), (r 31, .inl (cI, 24, .inl gR.z.2.1)), (r 32, .inl (cZ, 24, .inl gR.z.2.2.1)), (r 33, .inl (cJ, 24, .inr (.inl gR.z.2.2.2))), (r 34, .inl (cI, 24, .inl oR.oI)), (r 35, .inl (cZ, 4, .inl oR.oA)), (r 36, .inl (cJ, 4, .inr (.inl oR.oW))), (r 37, .inl (cI, 16, .inl oR.oT)), (r 38, .inl (cI, 16, .inl oR.oS)), (r 39, .inl (cJ, 24, .inr (.inl oR.z.1))), (r 40, .inl (cI, 24, .inl oR.z.2.1)), (r 41, .inl (cZ, 24, .inl oR.z.2.2.1)), (r 42, .inl (cJ, 24, .inr (.inl oR.z.2.2.2))), (r 46, .inl (cI, 4, .inl pN)), (r 47, .inl (cI, 4, .inl pP)), (r 48, .inl (cI, 4, .inl pS)), (r 49, .inl (cI, 16, .inl pT)), (r 50, .inl (cI, 16, .inl pQ))]) [0, 8, 9, 53, 54, 55, 1, 2, 3, 4, 5, 6, 7, 10, 11, 12, 13, 14, 15, 16, 17, 18, 19, 20, 21, 22, 23, 24, 25, 26, 27, 28, 29, 30, 31, 32, 33, 34, 35, 36, 37, 38, 39, 40, 41, 42, 43, 44, 45, 46, 47, 48, 49, 50, 51, 52] (by decide) rfl
  obtain ⟨RZ, hRZ⟩ : ∃ RZ : va_W, RZ = [(rv, .inr (4, [.ref tp, .ref ln, .ref tb, .ref ca, .ref dp])), (ca, .inl (cI, 10, .inl cn)), (dp, .inl (cQ, 16, .inr (.inr (.inr (.inr dpf))))), (tp, .inr (0, [.ref a, .int (nI T.length)])), (a, .inl (cB, 9400, .inl f)), (ln, .inr (2, [.ref hd])), (hd, .inl (cN, 256, .inr (.inr (.inr (.inr hf))))), (r 3, .inl (cI, 10, .inl cn)), (r 4, .inl (cI, 8192, .inl ctR)), (r 5, .inl (cZ, 8192, .inl twR)), (r 6, .inl (cJ, 8192, .inr (.inl clR))), (r 7, .inl (cI, 24, .inl sPR)), (r 8, .inl (cZ, 24, .inl sBR)), (r 9, .inl (cI, 24576, .inl sYR)), (r 10, .inl (cI, 24, .inl sZR)), (r 11, .inl (cI, 24, .inl kdR)), (r 12, .inl (cI, 24, .inl waR)), (r 13, .inl (cI, 24, .inl suR)), (r 14, .inl (cJ, 24, .inr (.inl tiR))), (r 15, .inl (cI, 1024, .inl seR)), (r 17, .inl (cI, 188, .inl pkR)), (r 43, .inl (cJ, 80, .inr (.inl dnR))), (r 20, .inl (cI, 4, .inl gR.nu)), (r 21, .inl (cI, 4, .inl gR.pi)), (r 22, .inl (cI, 4, .inl gR.vs)), (r 23, .inl (cI, 4, .inl gR.cp)), (r 24, .inl (cI, 4, .inl gR.sc)), (r 25, .inl (cZ, 4, .inl gR.aw)), (r 26, .inl (cJ, 4, .inr (.inl gR.nw))), (r 27, .inl (cI, 4, .inl gR.wt)), (r 28, .inl (cI, 16, .inl gR.ty)), (r 29, .inl (cI, 16, .inl gR.sp)), (r 30, .inl (cJ, 24, .inr (.inl gR.z.1))), (r 31, .inl (cI, 24, .inl gR.z.2.1)), (r 32, .inl (cZ, 24, .inl gR.z.2.2.1)), (r 33, .inl (cJ, 24, .inr (.inl gR.z.2.2.2))), (r 34, .inl (cI, 24, .inl oR.oI)), (r 35, .inl (cZ, 4, .inl oR.oA)), (r 36, .inl (cJ, 4, .inr (.inl oR.oW))), (r 37, .inl (cI, 16, .inl oR.oT)), (r 38, .inl (cI, 16, .inl oR.oS)), (r 39, .inl (cJ, 24, .inr (.inl oR.z.1))), (r 40, .inl (cI, 24, .inl oR.z.2.1)), (r 41, .inl (cZ, 24, .inl oR.z.2.2.1)), (r 42, .inl (cJ, 24, .inr (.inl oR.z.2.2.2))), (r 46, .inl (cI, 4, .inl pN)), (r 47, .inl (cI, 4, .inl pP)), (r 48, .inl (cI, 4, .inl pS)), (r 49, .inl (cI, 16, .inl pT)), (r 50, .inl (cI, 16, .inl pQ))] := ⟨_, rfl⟩
  have hP : va_P D classes ([(x9, .inr (11, [.ref rv, .ref dr])), (m9, .inr (13, mO r th (nI T.length) leR lv (nI P.length) (nI npR) (nI DL.length) rs)), (r 1, .inl (cI, 9400, .inl tpR)), (r 51, .inl (cI, 8192, .inl wrR)), (r 52, .inl (cI, 4200, .inl roR)), (o9, .inl (cJ, 1, .inr (.inl g9)))] ++ (RZ ++ (lpl cB Ls ++ (dpl dn ++ (tplr cO e0 tb lv pr P.length pmo pst P ++ (dfl cO e0 dr DL.length mo dst DL ++ X)))))) H := by rw [hRZ]; exact hP
  have hD : va_D A ([(x9, .inr (11, [.ref rv, .ref dr])), (m9, .inr (13, mO r th (nI T.length) leR lv (nI P.length) (nI npR) (nI DL.length) rs)), (r 1, .inl (cI, 9400, .inl tpR)), (r 51, .inl (cI, 8192, .inl wrR)), (r 52, .inl (cI, 4200, .inl roR)), (o9, .inl (cJ, 1, .inr (.inl g9)))] ++ (RZ ++ (lpl cB Ls ++ (dpl dn ++ (tplr cO e0 tb lv pr P.length pmo pst P ++ (dfl cO e0 dr DL.length mo dst DL ++ X)))))) := by rw [hRZ]; exact hD
  have hP := z_Pp (lg_in (X := [(x9, .inr (11, [.ref rv, .ref dr])), (m9, .inr (13, mO r th (nI T.length) leR lv (nI P.length) (nI npR) (nI DL.length) rs)), (r 1, .inl (cI, 9400, .inl tpR)), (r 51, .inl (cI, 8192, .inl wrR)), (r 52, .inl (cI, 4200, .inl roR)), (o9, .inl (cJ, 1, .inr (.inl g9)))]) (R := RZ) (A := lpl cB Ls) (B := dpl dn) (C := tplr cO e0 tb lv pr P.length pmo pst P) (E := dfl cO e0 dr DL.length mo dst DL) (Z := X)) hP
  have hD := z_Dp (lg_in (X := [(x9, .inr (11, [.ref rv, .ref dr])), (m9, .inr (13, mO r th (nI T.length) leR lv (nI P.length) (nI npR) (nI DL.length) rs)), (r 1, .inl (cI, 9400, .inl tpR)), (r 51, .inl (cI, 8192, .inl wrR)), (r 52, .inl (cI, 4200, .inl roR)), (o9, .inl (cJ, 1, .inr (.inl g9)))]) (R := RZ) (A := lpl cB Ls) (B := dpl dn) (C := tplr cO e0 tb lv pr P.length pmo pst P) (E := dfl cO e0 dr DL.length mo dst DL) (Z := X)) hD
  have hP : va_P D classes ([(x9, .inr (11, [.ref rv, .ref dr])), (m9, .inr (13, mO r th (nI T.length) leR lv (nI P.length) (nI npR) (nI DL.length) rs)), (r 1, .inl (cI, 9400, .inl tpR)), (r 51, .inl (cI, 8192, .inl wrR)), (r 52, .inl (cI, 4200, .inl roR)), (o9, .inl (cJ, 1, .inr (.inl g9)))] ++ (lpl cB Ls ++ (dpl dn ++ (tplr cO e0 tb lv pr P.length pmo pst P ++ (dfl cO e0 dr DL.length mo dst DL ++ (X ++ RZ)))))) H := hP
  have hD : va_D A ([(x9, .inr (11, [.ref rv, .ref dr])), (m9, .inr (13, mO r th (nI T.length) leR lv (nI P.length) (nI npR) (nI DL.length) rs)), (r 1, .inl (cI, 9400, .inl tpR)), (r 51, .inl (cI, 8192, .inl wrR)), (r 52, .inl (cI, 4200, .inl roR)), (o9, .inl (cJ, 1, .inr (.inl g9)))] ++ (lpl cB Ls ++ (dpl dn ++ (tplr cO e0 tb lv pr P.length pmo pst P ++ (dfl cO e0 dr DL.length mo dst DL ++ (X ++ RZ)))))) := hD
  refine lv_aload_n hx hb d_Law_law_1272 rfl (lv_at hl 3 rfl) ?_
  refine lv_aload_n hx hb d_Law_law_1273 rfl (lv_at hl 4 rfl) ?_
  refine lv_iload hx hb d_Law_law_1274 (lv_at hl 0 rfl) ?_
  refine lv_iconst (v := 1) hx hb d_Law_law_1276 (by decide) ?_
  refine lv_iadd hx hb d_Law_law_1277 ?_
  refine z_topi (w := nI (i0 + 1)) (nI_add _ 1) ?_
  refine va_sld hx hb hX hbl hbA hS (vp_in_nI (n := i0 + 1) (N := L) (by omega) (by omega)) d_Law_law_1278 ?_
  refine z_topi (w := xs (i0 + 1)) (by rw [nI_clamp (by omega)]) ?_
  refine lv_aload_n hx hb d_Law_law_1279 rfl (lv_at hl 4 rfl) ?_
  refine lv_iload hx hb d_Law_law_1280 (lv_at hl 0 rfl) ?_
  refine lv_iconst (v := 2) hx hb d_Law_law_1282 (by decide) ?_
  refine lv_iadd hx hb d_Law_law_1283 ?_
  refine z_topi (w := nI (i0 + 2)) (nI_add _ 2) ?_
  refine va_sld hx hb hX hbl hbA hS (vp_in_nI (n := i0 + 2) (N := L) (by omega) (by omega)) d_Law_law_1284 ?_
  refine z_topi (w := xs (i0 + 2)) (by rw [nI_clamp (by omega)]) ?_
  refine lv_aload_n hx hb d_Law_law_1285 rfl (lv_at hl 4 rfl) ?_
  refine lv_iload hx hb d_Law_law_1286 (lv_at hl 0 rfl) ?_
  refine lv_iconst (v := 3) hx hb d_Law_law_1288 (by decide) ?_
  refine lv_iadd hx hb d_Law_law_1289 ?_
  refine z_topi (w := nI (i0 + 3)) (nI_add _ 3) ?_
  refine va_sld hx hb hX hbl hbA hS (vp_in_nI (n := i0 + 3) (N := L) (by omega) (by omega)) d_Law_law_1290 ?_
  refine z_topi (w := xs (i0 + 3)) (by rw [nI_clamp (by omega)]) ?_
  refine lv_aload_n hx hb d_Law_law_1291 rfl (lv_at hl 4 rfl) ?_
  refine lv_iload hx hb d_Law_law_1292 (lv_at hl 0 rfl) ?_
  refine lv_iconst (v := 4) hx hb d_Law_law_1294 (by decide) ?_
  refine lv_iadd hx hb d_Law_law_1295 ?_
  refine z_topi (w := nI (i0 + 4)) (nI_add _ 4) ?_
  refine va_sld hx hb hX hbl hbA hS (vp_in_nI (n := i0 + 4) (N := L) (by omega) (by omega)) d_Law_law_1296 ?_
  refine z_topi (w := xs (i0 + 4)) (by rw [nI_clamp (by omega)]) ?_
  refine lv_i2l (v := (xs (i0 + 4)).toInt64) hx hb d_Law_law_1297 rfl ?_
  refine lv_bipush (v := 32) hx hb d_Law_law_1298 (by decide) ?_
  refine lv_lshl (v := ((xs (i0 + 4)).toInt64) <<< ((32 : Int32).toInt64 &&& 63)) hx hb d_Law_law_1300 rfl ?_
  refine lv_aload_n hx hb d_Law_law_1301 rfl (lv_at hl 4 rfl) ?_
  refine lv_iload hx hb d_Law_law_1302 (lv_at hl 0 rfl) ?_
  refine lv_iconst (v := 5) hx hb d_Law_law_1304 (by decide) ?_
  refine lv_iadd hx hb d_Law_law_1305 ?_
  refine z_topi (w := nI (i0 + 5)) (nI_add _ 5) ?_
  refine va_sld hx hb hX hbl hbA hS (vp_in_nI (n := i0 + 5) (N := L) (by omega) (by omega)) d_Law_law_1306 ?_
  refine z_topi (w := xs (i0 + 5)) (by rw [nI_clamp (by omega)]) ?_
  refine lv_i2l (v := (xs (i0 + 5)).toInt64) hx hb d_Law_law_1307 rfl ?_
  refine lv_ldc2 hx hb hown (hts _ wd_1483) d_Law_law_1308 ?_
  refine lv_land hx hb d_Law_law_1311 ?_
  refine lv_lor hx hb d_Law_law_1312 ?_
  refine z_topl (w := lgv (xs (i0 + 4)) (xs (i0 + 5))) rfl ?_
  refine lv_aload_n hx hb d_Law_law_1313 rfl (lv_at hl 4 rfl) ?_
  refine lv_iload hx hb d_Law_law_1314 (lv_at hl 0 rfl) ?_
  refine lv_bipush (v := 6) hx hb d_Law_law_1316 (by decide) ?_
  refine lv_iadd hx hb d_Law_law_1318 ?_
  refine z_topi (w := nI (i0 + 6)) (nI_add _ 6) ?_
  refine va_sld hx hb hX hbl hbA hS (vp_in_nI (n := i0 + 6) (N := L) (by omega) (by omega)) d_Law_law_1319 ?_
  refine z_topi (w := xs (i0 + 6)) (by rw [nI_clamp (by omega)]) ?_
  refine lv_i2l (v := (xs (i0 + 6)).toInt64) hx hb d_Law_law_1320 rfl ?_
  refine lv_bipush (v := 32) hx hb d_Law_law_1321 (by decide) ?_
  refine lv_lshl (v := ((xs (i0 + 6)).toInt64) <<< ((32 : Int32).toInt64 &&& 63)) hx hb d_Law_law_1323 rfl ?_
  refine lv_aload_n hx hb d_Law_law_1324 rfl (lv_at hl 4 rfl) ?_
  refine lv_iload hx hb d_Law_law_1325 (lv_at hl 0 rfl) ?_
  refine lv_bipush (v := 7) hx hb d_Law_law_1327 (by decide) ?_
  refine lv_iadd hx hb d_Law_law_1329 ?_
  refine z_topi (w := nI (i0 + 7)) (nI_add _ 7) ?_
  refine va_sld hx hb hX hbl hbA hS (vp_in_nI (n := i0 + 7) (N := L) (by omega) (by omega)) d_Law_law_1330 ?_
  refine z_topi (w := xs (i0 + 7)) (by rw [nI_clamp (by omega)]) ?_
  refine lv_i2l (v := (xs (i0 + 7)).toInt64) hx hb d_Law_law_1331 rfl ?_
  refine lv_ldc2 hx hb hown (hts _ wd_1483) d_Law_law_1332 ?_
  refine lv_land hx hb d_Law_law_1335 ?_
  refine lv_lor hx hb d_Law_law_1336 ?_
  refine z_topl (w := lgv (xs (i0 + 6)) (xs (i0 + 7))) rfl ?_
  refine lv_aload_n hx hb d_Law_law_1337 rfl (lv_at hl 1 rfl) ?_
  have hPc := hP.sub (ws' := [(x9, .inr (11, [.ref rv, .ref dr])), (o9, .inl (cJ, 1, .inr (.inl g9)))]) [0, 5] rfl
  have hKc := hK.sub (tys' := [(cJ, .long)]) [2] rfl
  have hDc := hD.sub (ws' := [(x9, .inr (11, [.ref rv, .ref dr])), (o9, .inl (cJ, 1, .inr (.inl g9)))]) [0, 5] (by decide) rfl
  have hFc := va_free (wc := [(x9, .inr (11, [.ref rv, .ref dr])), (o9, .inl (cJ, 1, .inr (.inl g9)))]) hD hS hA [0, 5] rfl
  refine va_calli (z_runSW (As := [.ref x9, .int (xs (i0 + 1)), .int (xs (i0 + 2)), .int (xs (i0 + 3)), .long (lgv (xs (i0 + 4)) (xs (i0 + 5))), .long (lgv (xs (i0 + 6)) (xs (i0 + 7))), .ref o9]) (rest := []) ⟨hx, hb, hml, hown, hts⟩ (c_Law_writeOrder_bad l D hfl s hG H.size x9 (xs (i0 + 1)) (xs (i0 + 2)) (xs (i0 + 3)) (lgv (xs (i0 + 4)) (xs (i0 + 5))) (lgv (xs (i0 + 6)) (xs (i0 + 7))) cJ o9 g9 rv dr hbad) (z_cSW hN wd_1055 wd_58 wd_1053 hd_Law_writeOrder rfl rfl ⟨Nat.le_of_ble_eq_true rfl, Nat.le_of_ble_eq_true rfl⟩ wd_1054) (z_preSo hPc hKc hN hDc hO hS hAO) rfl rfl hl.1 rfl (lv_room (Nat.le_of_ble_eq_true rfl)) d_Law_law_1338 ⟨by show cells + 1 ≤ 601024; omega, by show slots + 6 ≤ 7293033; omega⟩) hS (fun q _ h => hFc q h) hFc (fun r1338 u1338 t H locs ht hvm e1338 hB hz1 hk1 hS => ?_)
  obtain ⟨hP1, hK1, hD1⟩ := hB
  rw [ht] at hP1
  obtain ⟨hP, hD⟩ := va_joinQ (cx := [(x9, .inr (11, [.ref rv, .ref dr])), (o9, .inl (cJ, 1, .inr (.inl g9)))]) (wr := [(m9, .inr (13, mO r th (nI T.length) leR lv (nI P.length) (nI npR) (nI DL.length) rs)), (r 1, .inl (cI, 9400, .inl tpR)), (r 51, .inl (cI, 8192, .inl wrR)), (r 52, .inl (cI, 4200, .inl roR))]) (w1 := [(x9, .inr (11, [.ref rv, .ref dr])), (o9, .inl (cJ, 1, .inr (.inl g9)))]) hP hD [0, 5] [1, 2, 3, 4] rfl rfl (by decide) (by decide) hk1 hFc hP1 hD1
  clear hk1 hP1 hD1 hFc hPc hDc hz1
  have hP : va_P D classes ([(m9, .inr (13, mO r th (nI T.length) leR lv (nI P.length) (nI npR) (nI DL.length) rs)), (r 1, .inl (cI, 9400, .inl tpR)), (r 51, .inl (cI, 8192, .inl wrR)), (r 52, .inl (cI, 4200, .inl roR)), (x9, .inr (11, [.ref rv, .ref dr])), (o9, .inl (cJ, 1, .inr (.inl g9)))] ++ (lpl cB Ls ++ (dpl dn ++ (tplr cO e0 tb lv pr P.length pmo pst P ++ (dfl cO e0 dr DL.length mo dst DL ++ (X ++ RZ)))))) H := hP
  have hD : va_D A ([(m9, .inr (13, mO r th (nI T.length) leR lv (nI P.length) (nI npR) (nI DL.length) rs)), (r 1, .inl (cI, 9400, .inl tpR)), (r 51, .inl (cI, 8192, .inl wrR)), (r 52, .inl (cI, 4200, .inl roR)), (x9, .inr (11, [.ref rv, .ref dr])), (o9, .inl (cJ, 1, .inr (.inl g9)))] ++ (lpl cB Ls ++ (dpl dn ++ (tplr cO e0 tb lv pr P.length pmo pst P ++ (dfl cO e0 dr DL.length mo dst DL ++ (X ++ RZ)))))) := hD
  refine z_topi (w := 1) e1338 ?_
  refine lv_istore (lv' := [(5, .int 1), (4, .int (nI i0)), (3, .ref o9), (2, .ref m9), (1, .ref x9), (0, .ref b)]) hx hb d_Law_law_1341 hl (by decide) rfl (fun ls hl => ?_)
  refine lv_aload_n hx hb d_Law_law_1343 rfl (lv_at hl 3 rfl) ?_
  refine lv_aload_n hx hb d_Law_law_1344 rfl (lv_at hl 5 rfl) ?_
  refine lv_iload hx hb d_Law_law_1345 (lv_at hl 1 rfl) ?_
  refine lv_iconst (v := 1) hx hb d_Law_law_1347 (by decide) ?_
  refine lv_iadd hx hb d_Law_law_1348 ?_
  refine z_topi (w := nI (i0 + 1)) (nI_add _ 1) ?_
  refine va_sld hx hb hX hbl hbA hS (vp_in_nI (n := i0 + 1) (N := L) (by omega) (by omega)) d_Law_law_1349 ?_
  refine z_topi (w := xs (i0 + 1)) (by rw [nI_clamp (by omega)]) ?_
  refine lv_aload_n hx hb d_Law_law_1350 rfl (lv_at hl 5 rfl) ?_
  refine lv_iload hx hb d_Law_law_1351 (lv_at hl 1 rfl) ?_
  refine lv_iconst (v := 2) hx hb d_Law_law_1353 (by decide) ?_
  refine lv_iadd hx hb d_Law_law_1354 ?_
  refine z_topi (w := nI (i0 + 2)) (nI_add _ 2) ?_
  refine va_sld hx hb hX hbl hbA hS (vp_in_nI (n := i0 + 2) (N := L) (by omega) (by omega)) d_Law_law_1355 ?_
  refine z_topi (w := xs (i0 + 2)) (by rw [nI_clamp (by omega)]) ?_
  refine lv_aload_n hx hb d_Law_law_1356 rfl (lv_at hl 5 rfl) ?_
  refine lv_iload hx hb d_Law_law_1357 (lv_at hl 1 rfl) ?_
  refine lv_iconst (v := 3) hx hb d_Law_law_1359 (by decide) ?_
  refine lv_iadd hx hb d_Law_law_1360 ?_
  refine z_topi (w := nI (i0 + 3)) (nI_add _ 3) ?_
  refine va_sld hx hb hX hbl hbA hS (vp_in_nI (n := i0 + 3) (N := L) (by omega) (by omega)) d_Law_law_1361 ?_
  refine z_topi (w := xs (i0 + 3)) (by rw [nI_clamp (by omega)]) ?_
  refine lv_aload_n hx hb d_Law_law_1362 rfl (lv_at hl 5 rfl) ?_
  refine lv_iload hx hb d_Law_law_1363 (lv_at hl 1 rfl) ?_
  refine lv_iconst (v := 4) hx hb d_Law_law_1365 (by decide) ?_
  refine lv_iadd hx hb d_Law_law_1366 ?_
  refine z_topi (w := nI (i0 + 4)) (nI_add _ 4) ?_
  refine va_sld hx hb hX hbl hbA hS (vp_in_nI (n := i0 + 4) (N := L) (by omega) (by omega)) d_Law_law_1367 ?_
  refine z_topi (w := xs (i0 + 4)) (by rw [nI_clamp (by omega)]) ?_
  refine lv_i2l (v := (xs (i0 + 4)).toInt64) hx hb d_Law_law_1368 rfl ?_
  refine lv_bipush (v := 32) hx hb d_Law_law_1369 (by decide) ?_
  refine lv_lshl (v := ((xs (i0 + 4)).toInt64) <<< ((32 : Int32).toInt64 &&& 63)) hx hb d_Law_law_1371 rfl ?_
  refine lv_aload_n hx hb d_Law_law_1372 rfl (lv_at hl 5 rfl) ?_
  refine lv_iload hx hb d_Law_law_1373 (lv_at hl 1 rfl) ?_
  refine lv_iconst (v := 5) hx hb d_Law_law_1375 (by decide) ?_
  refine lv_iadd hx hb d_Law_law_1376 ?_
  refine z_topi (w := nI (i0 + 5)) (nI_add _ 5) ?_
  refine va_sld hx hb hX hbl hbA hS (vp_in_nI (n := i0 + 5) (N := L) (by omega) (by omega)) d_Law_law_1377 ?_
  refine z_topi (w := xs (i0 + 5)) (by rw [nI_clamp (by omega)]) ?_
  refine lv_i2l (v := (xs (i0 + 5)).toInt64) hx hb d_Law_law_1378 rfl ?_
  refine lv_ldc2 hx hb hown (hts _ wd_1483) d_Law_law_1379 ?_
  refine lv_land hx hb d_Law_law_1382 ?_
  refine lv_lor hx hb d_Law_law_1383 ?_
  refine z_topl (w := lgv (xs (i0 + 4)) (xs (i0 + 5))) rfl ?_
  refine lv_aload_n hx hb d_Law_law_1384 rfl (lv_at hl 5 rfl) ?_
  refine lv_iload hx hb d_Law_law_1385 (lv_at hl 1 rfl) ?_
  refine lv_bipush (v := 6) hx hb d_Law_law_1387 (by decide) ?_
  refine lv_iadd hx hb d_Law_law_1389 ?_
  refine z_topi (w := nI (i0 + 6)) (nI_add _ 6) ?_
  refine va_sld hx hb hX hbl hbA hS (vp_in_nI (n := i0 + 6) (N := L) (by omega) (by omega)) d_Law_law_1390 ?_
  refine z_topi (w := xs (i0 + 6)) (by rw [nI_clamp (by omega)]) ?_
  refine lv_i2l (v := (xs (i0 + 6)).toInt64) hx hb d_Law_law_1391 rfl ?_
  refine lv_bipush (v := 32) hx hb d_Law_law_1392 (by decide) ?_
  refine lv_lshl (v := ((xs (i0 + 6)).toInt64) <<< ((32 : Int32).toInt64 &&& 63)) hx hb d_Law_law_1394 rfl ?_
  refine lv_aload_n hx hb d_Law_law_1395 rfl (lv_at hl 5 rfl) ?_
  refine lv_iload hx hb d_Law_law_1396 (lv_at hl 1 rfl) ?_
  refine lv_bipush (v := 7) hx hb d_Law_law_1398 (by decide) ?_
  refine lv_iadd hx hb d_Law_law_1400 ?_
  refine z_topi (w := nI (i0 + 7)) (nI_add _ 7) ?_
  refine va_sld hx hb hX hbl hbA hS (vp_in_nI (n := i0 + 7) (N := L) (by omega) (by omega)) d_Law_law_1401 ?_
  refine z_topi (w := xs (i0 + 7)) (by rw [nI_clamp (by omega)]) ?_
  refine lv_i2l (v := (xs (i0 + 7)).toInt64) hx hb d_Law_law_1402 rfl ?_
  refine lv_ldc2 hx hb hown (hts _ wd_1483) d_Law_law_1403 ?_
  refine lv_land hx hb d_Law_law_1406 ?_
  refine lv_lor hx hb d_Law_law_1407 ?_
  refine z_topl (w := lgv (xs (i0 + 6)) (xs (i0 + 7))) rfl ?_
  have hPc := hP.sub (ws' := [(m9, .inr (13, mO r th (nI T.length) leR lv (nI P.length) (nI npR) (nI DL.length) rs)), (r 1, .inl (cI, 9400, .inl tpR)), (r 51, .inl (cI, 8192, .inl wrR)), (r 52, .inl (cI, 4200, .inl roR))]) [0, 1, 2, 3] rfl
  have hKc := hK.sub (tys' := [(cI, .int)]) [1] rfl
  have hDc := hD.sub (ws' := [(m9, .inr (13, mO r th (nI T.length) leR lv (nI P.length) (nI npR) (nI DL.length) rs)), (r 1, .inl (cI, 9400, .inl tpR)), (r 51, .inl (cI, 8192, .inl wrR)), (r 52, .inl (cI, 4200, .inl roR))]) [0, 1, 2, 3] (by decide) rfl
  have hFc := va_free (wc := [(m9, .inr (13, mO r th (nI T.length) leR lv (nI P.length) (nI npR) (nI DL.length) rs)), (r 1, .inl (cI, 9400, .inl tpR)), (r 51, .inl (cI, 8192, .inl wrR)), (r 52, .inl (cI, 4200, .inl roR))]) hD hS hA [0, 1, 2, 3] rfl
  refine va_calli (va_runV (As := [.int (xs (i0 + 1)), .int (xs (i0 + 2)), .int (xs (i0 + 3)), .long (lgv (xs (i0 + 4)) (xs (i0 + 5))), .long (lgv (xs (i0 + 6)) (xs (i0 + 7)))]) (rest := []) ⟨hx, hb, hml, hown, hts⟩ (c_Mo_writeOrder l D H.size cI m9 r th leR lv (nI P.length) (nI npR) (nI DL.length) rs T tpR wf wrR roR (xs (i0 + 1)) (xs (i0 + 2)) (xs (i0 + 3)) (lgv (xs (i0 + 4)) (xs (i0 + 5))) (lgv (xs (i0 + 6)) (xs (i0 + 7))) hRT.2.1 hT9 hw3 (fun x hx => by have := hw2 x; omega)) (z_cV hN wd_1476 wd_67 wd_1473 hd_Mo_writeOrder rfl rfl ⟨Nat.le_of_ble_eq_true rfl, Nat.le_of_ble_eq_true rfl⟩ wd_1474 wd_1475) (z_preVm (va_recv (ci := 13) (q0 := 0) hK hP rfl rfl) hPc hKc hN hDc) rfl rfl hl.1 rfl (lv_room (Nat.le_of_ble_eq_true rfl)) d_Law_law_1408 ⟨by show cells + 1 + 0 ≤ 601024; omega, by show slots + 6 + 0 ≤ 7293033; omega⟩) hS (fun q _ h => hFc q h) hFc (fun r1408 u1408 t H locs ht hvm e1408 hB hz1 hk1 hS => ?_)
  obtain ⟨hP1, hK1, hD1⟩ := hB
  rw [ht] at hP1
  obtain ⟨hP, hD⟩ := va_joinQ (cx := [(m9, .inr (13, mO r th (nI T.length) leR lv (nI P.length) (nI npR) (nI DL.length) rs)), (r 1, .inl (cI, 9400, .inl tpR)), (r 51, .inl (cI, 8192, .inl wrR)), (r 52, .inl (cI, 4200, .inl roR))]) (wr := [(x9, .inr (11, [.ref rv, .ref dr])), (o9, .inl (cJ, 1, .inr (.inl g9)))]) (w1 := [(m9, .inr (13, mO r u1408.1 u1408.2.1 leR lv (nI P.length) (nI npR) (nI DL.length) u1408.2.2.1)), (r 1, .inl (cI, 9400, .inl u1408.2.2.2.1)), (r 51, .inl (cI, 8192, .inl u1408.2.2.2.2.1)), (r 52, .inl (cI, 4200, .inl u1408.2.2.2.2.2))]) hP hD [0, 1, 2, 3] [4, 5] rfl rfl (by decide) (by decide) hk1 hFc hP1 hD1
  clear hk1 hP1 hD1 hFc hPc hDc hz1
  have hP : va_P D classes ([(x9, .inr (11, [.ref rv, .ref dr])), (o9, .inl (cJ, 1, .inr (.inl g9))), (m9, .inr (13, mO r u1408.1 u1408.2.1 leR lv (nI P.length) (nI npR) (nI DL.length) u1408.2.2.1)), (r 1, .inl (cI, 9400, .inl u1408.2.2.2.1)), (r 51, .inl (cI, 8192, .inl u1408.2.2.2.2.1)), (r 52, .inl (cI, 4200, .inl u1408.2.2.2.2.2))] ++ (lpl cB Ls ++ (dpl dn ++ (tplr cO e0 tb lv pr P.length pmo pst P ++ (dfl cO e0 dr DL.length mo dst DL ++ (X ++ RZ)))))) H := hP
  have hD : va_D A ([(x9, .inr (11, [.ref rv, .ref dr])), (o9, .inl (cJ, 1, .inr (.inl g9))), (m9, .inr (13, mO r u1408.1 u1408.2.1 leR lv (nI P.length) (nI npR) (nI DL.length) u1408.2.2.1)), (r 1, .inl (cI, 9400, .inl u1408.2.2.2.1)), (r 51, .inl (cI, 8192, .inl u1408.2.2.2.2.1)), (r 52, .inl (cI, 4200, .inl u1408.2.2.2.2.2))] ++ (lpl cB Ls ++ (dpl dn ++ (tplr cO e0 tb lv pr P.length pmo pst P ++ (dfl cO e0 dr DL.length mo dst DL ++ (X ++ RZ)))))) := hD
  refine lv_istore (lv' := [(6, .int r1408), (5, .int 1), (4, .int (nI i0)), (3, .ref o9), (2, .ref m9), (1, .ref x9), (0, .ref b)]) hx hb d_Law_law_1411 hl (by decide) rfl (fun ls hl => ?_)
  refine lv_aload_n hx hb d_Law_law_1413 rfl (lv_at hl 4 rfl) ?_
  have hPc := hP.sub (ws' := [(m9, .inr (13, mO r u1408.1 u1408.2.1 leR lv (nI P.length) (nI npR) (nI DL.length) u1408.2.2.1))]) [2] rfl
  have hKc := hK.sub (tys' := []) [] rfl
  refine z_ci (va_runV (As := []) (rest := []) ⟨hx, hb, hml, hown, hts⟩ (c_Mo_thrown l D cI m9 r u1408.1 u1408.2.1 leR lv (nI P.length) (nI npR) (nI DL.length) u1408.2.2.1 ) (z_cV hN wd_1256 wd_67 wd_1253 hd_Mo_thrown rfl rfl ⟨Nat.le_of_ble_eq_true rfl, Nat.le_of_ble_eq_true rfl⟩ wd_1254 wd_1255) (z_preV (va_recv (ci := 13) (q0 := 2) hK hP rfl rfl) hPc hKc hN) rfl rfl hl.1 rfl (lv_room (Nat.le_of_ble_eq_true rfl)) d_Law_law_1414 ⟨by show cells + 1 + 0 ≤ 601024; omega, by show slots + 6 + 0 ≤ 7293033; omega⟩) (fun r1414 e1414 => ?_)
  refine z_topi (w := u1408.1) e1414 ?_
  refine lv_iload hx hb d_Law_law_1417 (lv_at hl 1 rfl) ?_
  refine lv_icmp_eq (tgt := 1424) hx hb d_Law_law_1419 rfl (fun h1419 => ?_) (fun h9 => absurd (congrArg (fun z => z.1) (wo_no hbad e1408)) h9)
  refine lv_iload hx hb d_Law_law_1424 (lv_at hl 1 rfl) ?_
  refine lv_if_ne (tgt := 1441) hx hb d_Law_law_1426 rfl (fun h1426 => ?_) (fun h9 => absurd h9 (by decide))
  refine lv_goto (tgt := 1444) hx hb d_Law_law_1441 rfl ?_
  have hu9 := wo_no hbad e1408
  have hsi8 : u1408.2.1 = nI T.length := by rw [hu9]
  have hsi9 : u1408.2.1 = nI T.length := hsi8
  rw [hsi9] at hP hD
  have hP : va_P D classes ([(x9, .inr (11, [.ref rv, .ref dr])), (o9, .inl (cJ, 1, .inr (.inl g9))), (m9, .inr (13, mO r u1408.1 (nI T.length) leR lv (nI P.length) (nI npR) (nI DL.length) u1408.2.2.1)), (r 1, .inl (cI, 9400, .inl u1408.2.2.2.1)), (r 51, .inl (cI, 8192, .inl u1408.2.2.2.2.1)), (r 52, .inl (cI, 4200, .inl u1408.2.2.2.2.2))] ++ (lpl cB Ls ++ (dpl dn ++ (tplr cO e0 tb lv pr P.length pmo pst P ++ (dfl cO e0 dr DL.length mo dst DL ++ (X ++ RZ)))))) H := hP
  have hD : va_D A ([(x9, .inr (11, [.ref rv, .ref dr])), (o9, .inl (cJ, 1, .inr (.inl g9))), (m9, .inr (13, mO r u1408.1 (nI T.length) leR lv (nI P.length) (nI npR) (nI DL.length) u1408.2.2.1)), (r 1, .inl (cI, 9400, .inl u1408.2.2.2.1)), (r 51, .inl (cI, 8192, .inl u1408.2.2.2.2.1)), (r 52, .inl (cI, 4200, .inl u1408.2.2.2.2.2))] ++ (lpl cB Ls ++ (dpl dn ++ (tplr cO e0 tb lv pr P.length pmo pst P ++ (dfl cO e0 dr DL.length mo dst DL ++ (X ++ RZ)))))) := hD
  have hP := hP.part (cx := [(x9, .inr (11, [.ref rv, .ref dr])), (m9, .inr (13, mO r u1408.1 (nI T.length) leR lv (nI P.length) (nI npR) (nI DL.length) u1408.2.2.1)), (r 1, .inl (cI, 9400, .inl u1408.2.2.2.1)), (r 51, .inl (cI, 8192, .inl u1408.2.2.2.2.1)), (r 52, .inl (cI, 4200, .inl u1408.2.2.2.2.2)), (o9, .inl (cJ, 1, .inr (.inl g9)))]) [0, 2, 3, 4, 5, 1] rfl
  have hD := hD.part (cx := [(x9, .inr (11, [.ref rv, .ref dr])), (m9, .inr (13, mO r u1408.1 (nI T.length) leR lv (nI P.length) (nI npR) (nI DL.length) u1408.2.2.1)), (r 1, .inl (cI, 9400, .inl u1408.2.2.2.1)), (r 51, .inl (cI, 8192, .inl u1408.2.2.2.2.1)), (r 52, .inl (cI, 4200, .inl u1408.2.2.2.2.2)), (o9, .inl (cJ, 1, .inr (.inl g9)))]) [0, 2, 3, 4, 5, 1] (by decide) rfl
  have hP := z_Pp (lg_in (X := [(x9, .inr (11, [.ref rv, .ref dr])), (m9, .inr (13, mO r u1408.1 (nI T.length) leR lv (nI P.length) (nI npR) (nI DL.length) u1408.2.2.1)), (r 1, .inl (cI, 9400, .inl u1408.2.2.2.1)), (r 51, .inl (cI, 8192, .inl u1408.2.2.2.2.1)), (r 52, .inl (cI, 4200, .inl u1408.2.2.2.2.2)), (o9, .inl (cJ, 1, .inr (.inl g9)))]) (R := RZ) (A := lpl cB Ls) (B := dpl dn) (C := tplr cO e0 tb lv pr P.length pmo pst P) (E := dfl cO e0 dr DL.length mo dst DL) (Z := X)).symm hP
  have hD := z_Dp (lg_in (X := [(x9, .inr (11, [.ref rv, .ref dr])), (m9, .inr (13, mO r u1408.1 (nI T.length) leR lv (nI P.length) (nI npR) (nI DL.length) u1408.2.2.1)), (r 1, .inl (cI, 9400, .inl u1408.2.2.2.1)), (r 51, .inl (cI, 8192, .inl u1408.2.2.2.2.1)), (r 52, .inl (cI, 4200, .inl u1408.2.2.2.2.2)), (o9, .inl (cJ, 1, .inr (.inl g9)))]) (R := RZ) (A := lpl cB Ls) (B := dpl dn) (C := tplr cO e0 tb lv pr P.length pmo pst P) (E := dfl cO e0 dr DL.length mo dst DL) (Z := X)).symm hD
  have hP : va_P D classes ([(x9, .inr (11, [.ref rv, .ref dr])), (m9, .inr (13, mO r u1408.1 (nI T.length) leR lv (nI P.length) (nI npR) (nI DL.length) u1408.2.2.1)), (r 1, .inl (cI, 9400, .inl u1408.2.2.2.1)), (r 51, .inl (cI, 8192, .inl u1408.2.2.2.2.1)), (r 52, .inl (cI, 4200, .inl u1408.2.2.2.2.2)), (o9, .inl (cJ, 1, .inr (.inl g9)))] ++ (RZ ++ (lpl cB Ls ++ (dpl dn ++ (tplr cO e0 tb lv pr P.length pmo pst P ++ (dfl cO e0 dr DL.length mo dst DL ++ X)))))) H := hP
  have hD : va_D A ([(x9, .inr (11, [.ref rv, .ref dr])), (m9, .inr (13, mO r u1408.1 (nI T.length) leR lv (nI P.length) (nI npR) (nI DL.length) u1408.2.2.1)), (r 1, .inl (cI, 9400, .inl u1408.2.2.2.1)), (r 51, .inl (cI, 8192, .inl u1408.2.2.2.2.1)), (r 52, .inl (cI, 4200, .inl u1408.2.2.2.2.2)), (o9, .inl (cJ, 1, .inr (.inl g9)))] ++ (RZ ++ (lpl cB Ls ++ (dpl dn ++ (tplr cO e0 tb lv pr P.length pmo pst P ++ (dfl cO e0 dr DL.length mo dst DL ++ X)))))) := hD
  rw [hRZ] at hP hD
  have hP : va_P D classes ([(x9, .inr (11, [.ref rv, .ref dr])), (m9, .inr (13, mO r u1408.1 (nI T.length) leR lv (nI P.length) (nI npR) (nI DL.length) u1408.2.2.1)), (r 1, .inl (cI, 9400, .inl u1408.2.2.2.1)), (r 51, .inl (cI, 8192, .inl u1408.2.2.2.2.1)), (r 52, .inl (cI, 4200, .inl u1408.2.2.2.2.2)), (o9, .inl (cJ, 1, .inr (.inl g9))), (rv, .inr (4, [.ref tp, .ref ln, .ref tb, .ref ca, .ref dp])), (ca, .inl (cI, 10, .inl cn)), (dp, .inl (cQ, 16, .inr (.inr (.inr (.inr dpf))))), (tp, .inr (0, [.ref a, .int (nI T.length)])), (a, .inl (cB, 9400, .inl f)), (ln, .inr (2, [.ref hd])), (hd, .inl (cN, 256, .inr (.inr (.inr (.inr hf))))), (r 3, .inl (cI, 10, .inl cn)), (r 4, .inl (cI, 8192, .inl ctR)), (r 5, .inl (cZ, 8192, .inl twR)), (r 6, .inl (cJ, 8192, .inr (.inl clR))), (r 7, .inl (cI, 24, .inl sPR)), (r 8, .inl (cZ, 24, .inl sBR)), (r 9, .inl (cI, 24576, .inl sYR)), (r 10, .inl (cI, 24, .inl sZR)), (r 11, .inl (cI, 24, .inl kdR)), (r 12, .inl (cI, 24, .inl waR)), (r 13, .inl (cI, 24, .inl suR)), (r 14, .inl (cJ, 24, .inr (.inl tiR))), (r 15, .inl (cI, 1024, .inl seR)), (r 17, .inl (cI, 188, .inl pkR)), (r 43, .inl (cJ, 80, .inr (.inl dnR))), (r 20, .inl (cI, 4, .inl gR.nu)), (r 21, .inl (cI, 4, .inl gR.pi)), (r 22, .inl (cI, 4, .inl gR.vs)), (r 23, .inl (cI, 4, .inl gR.cp)), (r 24, .inl (cI, 4, .inl gR.sc)), (r 25, .inl (cZ, 4, .inl gR.aw)), (r 26, .inl (cJ, 4, .inr (.inl gR.nw))), (r 27, .inl (cI, 4, .inl gR.wt)), (r 28, .inl (cI, 16, .inl gR.ty)), (r 29, .inl (cI, 16, .inl gR.sp)), (r 30, .inl (cJ, 24, .inr (.inl gR.z.1))), (r 31, .inl (cI, 24, .inl gR.z.2.1)), (r 32, .inl (cZ, 24, .inl gR.z.2.2.1)), (r 33, .inl (cJ, 24, .inr (.inl gR.z.2.2.2))), (r 34, .inl (cI, 24, .inl oR.oI)), (r 35, .inl (cZ, 4, .inl oR.oA)), (r 36, .inl (cJ, 4, .inr (.inl oR.oW))), (r 37, .inl (cI, 16, .inl oR.oT)), (r 38, .inl (cI, 16, .inl oR.oS)), (r 39, .inl (cJ, 24, .inr (.inl oR.z.1))), (r 40, .inl (cI, 24, .inl oR.z.2.1)), (r 41, .inl (cZ, 24, .inl oR.z.2.2.1)), (r 42, .inl (cJ, 24, .inr (.inl oR.z.2.2.2))), (r 46, .inl (cI, 4, .inl pN)), (r 47, .inl (cI, 4, .inl pP)), (r 48, .inl (cI, 4, .inl pS)), (r 49, .inl (cI, 16, .inl pT)), (r 50, .inl (cI, 16, .inl pQ))] ++ (lpl cB Ls ++ (dpl dn ++ (tplr cO e0 tb lv pr P.length pmo pst P ++ (dfl cO e0 dr DL.length mo dst DL ++ X))))) H := hP
  have hD : va_D A ([(x9, .inr (11, [.ref rv, .ref dr])), (m9, .inr (13, mO r u1408.1 (nI T.length) leR lv (nI P.length) (nI npR) (nI DL.length) u1408.2.2.1)), (r 1, .inl (cI, 9400, .inl u1408.2.2.2.1)), (r 51, .inl (cI, 8192, .inl u1408.2.2.2.2.1)), (r 52, .inl (cI, 4200, .inl u1408.2.2.2.2.2)), (o9, .inl (cJ, 1, .inr (.inl g9))), (rv, .inr (4, [.ref tp, .ref ln, .ref tb, .ref ca, .ref dp])), (ca, .inl (cI, 10, .inl cn)), (dp, .inl (cQ, 16, .inr (.inr (.inr (.inr dpf))))), (tp, .inr (0, [.ref a, .int (nI T.length)])), (a, .inl (cB, 9400, .inl f)), (ln, .inr (2, [.ref hd])), (hd, .inl (cN, 256, .inr (.inr (.inr (.inr hf))))), (r 3, .inl (cI, 10, .inl cn)), (r 4, .inl (cI, 8192, .inl ctR)), (r 5, .inl (cZ, 8192, .inl twR)), (r 6, .inl (cJ, 8192, .inr (.inl clR))), (r 7, .inl (cI, 24, .inl sPR)), (r 8, .inl (cZ, 24, .inl sBR)), (r 9, .inl (cI, 24576, .inl sYR)), (r 10, .inl (cI, 24, .inl sZR)), (r 11, .inl (cI, 24, .inl kdR)), (r 12, .inl (cI, 24, .inl waR)), (r 13, .inl (cI, 24, .inl suR)), (r 14, .inl (cJ, 24, .inr (.inl tiR))), (r 15, .inl (cI, 1024, .inl seR)), (r 17, .inl (cI, 188, .inl pkR)), (r 43, .inl (cJ, 80, .inr (.inl dnR))), (r 20, .inl (cI, 4, .inl gR.nu)), (r 21, .inl (cI, 4, .inl gR.pi)), (r 22, .inl (cI, 4, .inl gR.vs)), (r 23, .inl (cI, 4, .inl gR.cp)), (r 24, .inl (cI, 4, .inl gR.sc)), (r 25, .inl (cZ, 4, .inl gR.aw)), (r 26, .inl (cJ, 4, .inr (.inl gR.nw))), (r 27, .inl (cI, 4, .inl gR.wt)), (r 28, .inl (cI, 16, .inl gR.ty)), (r 29, .inl (cI, 16, .inl gR.sp)), (r 30, .inl (cJ, 24, .inr (.inl gR.z.1))), (r 31, .inl (cI, 24, .inl gR.z.2.1)), (r 32, .inl (cZ, 24, .inl gR.z.2.2.1)), (r 33, .inl (cJ, 24, .inr (.inl gR.z.2.2.2))), (r 34, .inl (cI, 24, .inl oR.oI)), (r 35, .inl (cZ, 4, .inl oR.oA)), (r 36, .inl (cJ, 4, .inr (.inl oR.oW))), (r 37, .inl (cI, 16, .inl oR.oT)), (r 38, .inl (cI, 16, .inl oR.oS)), (r 39, .inl (cJ, 24, .inr (.inl oR.z.1))), (r 40, .inl (cI, 24, .inl oR.z.2.1)), (r 41, .inl (cZ, 24, .inl oR.z.2.2.1)), (r 42, .inl (cJ, 24, .inr (.inl oR.z.2.2.2))), (r 46, .inl (cI, 4, .inl pN)), (r 47, .inl (cI, 4, .inl pP)), (r 48, .inl (cI, 4, .inl pS)), (r 49, .inl (cI, 16, .inl pT)), (r 50, .inl (cI, 16, .inl pQ))] ++ (lpl cB Ls ++ (dpl dn ++ (tplr cO e0 tb lv pr P.length pmo pst P ++ (dfl cO e0 dr DL.length mo dst DL ++ X))))) := hD
  have hP := hP.part (cx := [(x9, .inr (11, [.ref rv, .ref dr])), (rv, .inr (4, [.ref tp, .ref ln, .ref tb, .ref ca, .ref dp])), (ca, .inl (cI, 10, .inl cn)), (dp, .inl (cQ, 16, .inr (.inr (.inr (.inr dpf))))), (tp, .inr (0, [.ref a, .int (nI T.length)])), (a, .inl (cB, 9400, .inl f)), (ln, .inr (2, [.ref hd])), (hd, .inl (cN, 256, .inr (.inr (.inr (.inr hf))))), (m9, .inr (13, mO r u1408.1 (nI T.length) leR lv (nI P.length) (nI npR) (nI DL.length) u1408.2.2.1)), (r 1, .inl (cI, 9400, .inl u1408.2.2.2.1)), (r 3, .inl (cI, 10, .inl cn)), (r 4, .inl (cI, 8192, .inl ctR)), (r 5, .inl (cZ, 8192, .inl twR)), (r 6, .inl (cJ, 8192, .inr (.inl clR))), (r 7, .inl (cI, 24, .inl sPR)), (r 8, .inl (cZ, 24, .inl sBR)), (r 9, .inl (cI, 24576, .inl sYR)), (r 10, .inl (cI, 24, .inl sZR)), (r 11, .inl (cI, 24, .inl kdR)), (r 12, .inl (cI, 24, .inl waR)), (r 13, .inl (cI, 24, .inl suR)), (r 14, .inl (cJ, 24, .inr (.inl tiR))), (r 15, .inl (cI, 1024, .inl seR)), (r 17, .inl (cI, 188, .inl pkR)), (r 43, .inl (cJ, 80, .inr (.inl dnR))), (r 20, .inl (cI, 4, .inl gR.nu)), (r 21, .inl (cI, 4, .inl gR.pi)), (r 22, .inl (cI, 4, .inl gR.vs)), (r 23, .inl (cI, 4, .inl gR.cp)), (r 24, .inl (cI, 4, .inl gR.sc)), (r 25, .inl (cZ, 4, .inl gR.aw)), (r 26, .inl (cJ, 4, .inr (.inl gR.nw))), (r 27, .inl (cI, 4, .inl gR.wt)), (r 28, .inl (cI, 16, .inl gR.ty)), (r 29, .inl (cI, 16, .inl gR.sp)), (r 30, .inl (cJ, 24, .inr (.inl gR.z.1))), (r 31, .inl (cI, 24, .inl gR.z.2.1)), (r 32, .inl (cZ, 24, .inl gR.z.2.2.1)), (r 33, .inl (cJ, 24, .inr (.inl gR.z.2.2.2))), (r 34, .inl (cI, 24, .inl oR.oI)), (r 35, .inl (cZ, 4, .inl oR.oA)), (r 36, .inl (cJ, 4, .inr (.inl oR.oW))), (r 37, .inl (cI, 16, .inl oR.oT)), (r 38, .inl (cI, 16, .inl oR.oS)), (r 39, .inl (cJ, 24, .inr (.inl oR.z.1))), (r 40, .inl (cI, 24, .inl oR.z.2.1)), (r 41, .inl (cZ, 24, .inl oR.z.2.2.1)), (r 42, .inl (cJ, 24, .inr (.inl oR.z.2.2.2))), (r 46, .inl (cI, 4, .inl pN)), (r 47, .inl (cI, 4, .inl pP)), (r 48, .inl (cI, 4, .inl pS)), (r 49, .inl (cI, 16, .inl pT)), (r 50, .inl (cI, 16, .inl pQ)), (r 51, .inl (cI, 8192, .inl u1408.2.2.2.2.1)), (r 52, .inl (cI, 4200, .inl u1408.2.2.2.2.2)), (o9, .inl (cJ, 1, .inr (.inl g9)))]) [0, 6, 7, 8, 9, 10, 11, 12, 1, 2, 13, 14, 15, 16, 17, 18, 19, 20, 21, 22, 23, 24, 25, 26, 27, 28, 29, 30, 31, 32, 33, 34, 35, 36, 37, 38, 39, 40, 41, 42, 43, 44, 45, 46, 47, 48, 49, 50, 51, 52, 53, 54, 55, 3, 4, 5] rfl
  have hD := hD.part (cx := [(x9, .inr (11, [.ref rv, .ref dr])), (rv, .inr (4, [.ref tp, .ref ln, .ref tb, .ref ca, .ref dp])), (ca, .inl (cI, 10, .inl cn)), (dp, .inl (cQ, 16, .inr (.inr (.inr (.inr dpf))))), (tp, .inr (0, [.ref a, .int (nI T.length)])), (a, .inl (cB, 9400, .inl f)), (ln, .inr (2, [.ref hd])), (hd, .inl (cN, 256, .inr (.inr (.inr (.inr hf))))), (m9, .inr (13, mO r u1408.1 (nI T.length) leR lv (nI P.length) (nI npR) (nI DL.length) u1408.2.2.1)), (r 1, .inl (cI, 9400, .inl u1408.2.2.2.1)), (r 3, .inl (cI, 10, .inl cn)), (r 4, .inl (cI, 8192, .inl ctR)), (r 5, .inl (cZ, 8192, .inl twR)), (r 6, .inl (cJ, 8192, .inr (.inl clR))), (r 7, .inl (cI, 24, .inl sPR)), (r 8, .inl (cZ, 24, .inl sBR)), (r 9, .inl (cI, 24576, .inl sYR)), (r 10, .inl (cI, 24, .inl sZR)), (r 11, .inl (cI, 24, .inl kdR)), (r 12, .inl (cI, 24, .inl waR)), (r 13, .inl (cI, 24, .inl suR)), (r 14, .inl (cJ, 24, .inr (.inl tiR))), (r 15, .inl (cI, 1024, .inl seR)), (r 17, .inl (cI, 188, .inl pkR)), (r 43, .inl (cJ, 80, .inr (.inl dnR))), (r 20, .inl (cI, 4, .inl gR.nu)), (r 21, .inl (cI, 4, .inl gR.pi)), (r 22, .inl (cI, 4, .inl gR.vs)), (r 23, .inl (cI, 4, .inl gR.cp)), (r 24, .inl (cI, 4, .inl gR.sc)), (r 25, .inl (cZ, 4, .inl gR.aw)), (r 26, .inl (cJ, 4, .inr (.inl gR.nw))), (r 27, .inl (cI, 4, .inl gR.wt)), (r 28, .inl (cI, 16, .inl gR.ty)), (r 29, .inl (cI, 16, .inl gR.sp)), (r 30, .inl (cJ, 24, .inr (.inl gR.z.1))), (r 31, .inl (cI, 24, .inl gR.z.2.1)), (r 32, .inl (cZ, 24, .inl gR.z.2.2.1)), (r 33, .inl (cJ, 24, .inr (.inl gR.z.2.2.2))), (r 34, .inl (cI, 24, .inl oR.oI)), (r 35, .inl (cZ, 4, .inl oR.oA)), (r 36, .inl (cJ, 4, .inr (.inl oR.oW))), (r 37, .inl (cI, 16, .inl oR.oT)), (r 38, .inl (cI, 16, .inl oR.oS)), (r 39, .inl (cJ, 24, .inr (.inl oR.z.1))), (r 40, .inl (cI, 24, .inl oR.z.2.1)), (r 41, .inl (cZ, 24, .inl oR.z.2.2.1)), (r 42, .inl (cJ, 24, .inr (.inl oR.z.2.2.2))), (r 46, .inl (cI, 4, .inl pN)), (r 47, .inl (cI, 4, .inl pP)), (r 48, .inl (cI, 4, .inl pS)), (r 49, .inl (cI, 16, .inl pT)), (r 50, .inl (cI, 16, .inl pQ)), (r 51, .inl (cI, 8192, .inl u1408.2.2.2.2.1)), (r 52, .inl (cI, 4200, .inl u1408.2.2.2.2.2)), (o9, .inl (cJ, 1, .inr (.inl g9)))]) [0, 6, 7, 8, 9, 10, 11, 12, 1, 2, 13, 14, 15, 16, 17, 18, 19, 20, 21, 22, 23, 24, 25, 26, 27, 28, 29, 30, 31, 32, 33, 34, 35, 36, 37, 38, 39, 40, 41, 42, 43, 44, 45, 46, 47, 48, 49, 50, 51, 52, 53, 54, 55, 3, 4, 5] (by decide) rfl
  refine lg_end (i0 := i0) hx hb (lv_sub hl [2, 3, 4, 5, 6] rfl) (by omega) (fun ls hl => ?_)
  exact ih T f T.length cn hf dpf dn Ls lv pr pmo pst P mo dst DL.length DL X u1408.1 T.length DL.length u1408.2.2.1 u1408.2.2.2.1 u1408.2.2.2.2.1 u1408.2.2.2.2.2 pN pP pS pT pQ pkR ctR twR clR kdR waR suR tiR npR dnR sYR sZR sBR seR leR lv P.length gR oR sPR cn g9 H locs ls (cells + 1) (slots + 6) hl hP hD hS (⟨rfl, rfl, rfl, rfl⟩) (by rw [hu9]; exact hRT) (RH_up hRH) hdp htk hdt (by rw [hu9]; exact RW_up hRW) hRD (RM_up hRM (by omega) (by omega))
