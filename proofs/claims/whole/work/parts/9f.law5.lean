/-! the law's cases -/
theorem dL_law_1243 : decode cL_law 1243 = .ok (.aload_n 1, 1) := by decide +kernel
theorem dL_law_1244 : decode cL_law 1244 = .ok (.aload_n 0, 1) := by decide +kernel
theorem dL_law_1245 : decode cL_law 1245 = .ok (.iload_n 3, 1) := by decide +kernel
theorem dL_law_1246 : decode cL_law 1246 = .ok (.iconst 1, 1) := by decide +kernel
theorem dL_law_1247 : decode cL_law 1247 = .ok (.iadd, 1) := by decide +kernel
theorem dL_law_1248 : decode cL_law 1248 = .ok (.iaload, 1) := by decide +kernel
theorem dL_law_1249 : decode cL_law 1249 = .ok (.aload_n 0, 1) := by decide +kernel
theorem dL_law_1250 : decode cL_law 1250 = .ok (.iload_n 3, 1) := by decide +kernel
theorem dL_law_1251 : decode cL_law 1251 = .ok (.iconst 2, 1) := by decide +kernel
theorem dL_law_1252 : decode cL_law 1252 = .ok (.iadd, 1) := by decide +kernel
theorem dL_law_1253 : decode cL_law 1253 = .ok (.iaload, 1) := by decide +kernel
theorem dL_law_1254 : decode cL_law 1254 = .ok (.aload_n 0, 1) := by decide +kernel
theorem dL_law_1255 : decode cL_law 1255 = .ok (.iload_n 3, 1) := by decide +kernel
theorem dL_law_1256 : decode cL_law 1256 = .ok (.iconst 3, 1) := by decide +kernel
theorem dL_law_1257 : decode cL_law 1257 = .ok (.iadd, 1) := by decide +kernel
theorem dL_law_1258 : decode cL_law 1258 = .ok (.iaload, 1) := by decide +kernel
theorem dL_law_1259 : decode cL_law 1259 = .ok (.aload_n 0, 1) := by decide +kernel
theorem dL_law_1260 : decode cL_law 1260 = .ok (.iload_n 3, 1) := by decide +kernel
theorem dL_law_1261 : decode cL_law 1261 = .ok (.iconst 4, 1) := by decide +kernel
theorem dL_law_1262 : decode cL_law 1262 = .ok (.iadd, 1) := by decide +kernel
theorem dL_law_1263 : decode cL_law 1263 = .ok (.iaload, 1) := by decide +kernel
theorem dL_law_1264 : decode cL_law 1264 = .ok (.invokevirtual 123, 3) := by decide +kernel
theorem dL_law_1267 : decode cL_law 1267 = .ok (.aload_n 2, 1) := by decide +kernel
theorem dL_law_1268 : decode cL_law 1268 = .ok (.aload_n 0, 1) := by decide +kernel
theorem dL_law_1269 : decode cL_law 1269 = .ok (.iload_n 3, 1) := by decide +kernel
theorem dL_law_1270 : decode cL_law 1270 = .ok (.iconst 1, 1) := by decide +kernel
theorem dL_law_1271 : decode cL_law 1271 = .ok (.iadd, 1) := by decide +kernel
theorem dL_law_1272 : decode cL_law 1272 = .ok (.iaload, 1) := by decide +kernel
theorem dL_law_1273 : decode cL_law 1273 = .ok (.aload_n 0, 1) := by decide +kernel
theorem dL_law_1274 : decode cL_law 1274 = .ok (.iload_n 3, 1) := by decide +kernel
theorem dL_law_1275 : decode cL_law 1275 = .ok (.iconst 2, 1) := by decide +kernel
theorem dL_law_1276 : decode cL_law 1276 = .ok (.iadd, 1) := by decide +kernel
theorem dL_law_1277 : decode cL_law 1277 = .ok (.iaload, 1) := by decide +kernel
theorem dL_law_1278 : decode cL_law 1278 = .ok (.aload_n 0, 1) := by decide +kernel
theorem dL_law_1279 : decode cL_law 1279 = .ok (.iload_n 3, 1) := by decide +kernel
theorem dL_law_1280 : decode cL_law 1280 = .ok (.iconst 3, 1) := by decide +kernel
theorem dL_law_1281 : decode cL_law 1281 = .ok (.iadd, 1) := by decide +kernel
theorem dL_law_1282 : decode cL_law 1282 = .ok (.iaload, 1) := by decide +kernel
theorem dL_law_1283 : decode cL_law 1283 = .ok (.aload_n 0, 1) := by decide +kernel
theorem dL_law_1284 : decode cL_law 1284 = .ok (.iload_n 3, 1) := by decide +kernel
theorem dL_law_1285 : decode cL_law 1285 = .ok (.iconst 4, 1) := by decide +kernel
theorem dL_law_1286 : decode cL_law 1286 = .ok (.iadd, 1) := by decide +kernel
theorem dL_law_1287 : decode cL_law 1287 = .ok (.iaload, 1) := by decide +kernel
theorem dL_law_1288 : decode cL_law 1288 = .ok (.invokevirtual 126, 3) := by decide +kernel
theorem dL_law_1291 : decode cL_law 1291 = .ok (.lcmp, 1) := by decide +kernel
theorem dL_law_1292 : decode cL_law 1292 = .ok (.ifCond .eq 607, 3) := by decide +kernel
theorem lb_123 : mz_MB RL 123 yX11_wide cX11_wide 7 (some .long) 4 := ⟨mz_tb 724 (by decide +kernel) rfl, mz_tb 40 (by decide +kernel) rfl, mz_tb 727 (by decide +kernel) rfl, by decide, by decide, by decide +kernel⟩
theorem li_X11_wide : Cond.instanceMethod yX11_wide ∈ mz_tbl ∧ Cond.selects RX11 yX11_wide yX11_wide ∈ mz_tbl := ⟨mz_tb 725 (by decide +kernel) rfl, mz_tb 726 (by decide +kernel) rfl⟩
theorem lb_126 : mz_MB RL 126 yX12_wide cX12_wide 6 (some .long) 4 := ⟨mz_tb 1330 (by decide +kernel) rfl, mz_tb 45 (by decide +kernel) rfl, mz_tb 1333 (by decide +kernel) rfl, by decide, by decide, by decide +kernel⟩
theorem li_X12_wide : Cond.instanceMethod yX12_wide ∈ mz_tbl ∧ Cond.selects RX12 yX12_wide yX12_wide ∈ mz_tbl := ⟨mz_tb 1331 (by decide +kernel) rfl, mz_tb 1332 (by decide +kernel) rfl⟩
section
variable {p : Program} {l : Launch} {e : Env} {s : State} {m : MethodId} {below : List Frame} {meth : Method} {c : Code} {H : Heap} {locs : List Loc} {cells slots : Nat} {Q : State → Prop} {ls : Array Slot} {g : mz_G} {b L : Nat} {xs : Nat → Int32} {VB o q k : Nat} {rs : mz_RS} {h : mz_H} {x3 : Int32}
set_option maxHeartbeats 4000000 in
set_option maxRecDepth 100000 in
theorem lc_25 (X : mz_X p g RL cL_law 4 (fun q : Nat => s.heap.size ≤ q) s m #[Value.ref b] c) (hX : va_X b L xs s s.heap) (hbl : b < s.heap.size) (hin : ∀ j : Nat, j < 8 → vp_in (x3 + nI j) L) (I : lw_I g s VB o q (k + 1) rs h H locs cells slots) (hl : mz_L ls 4 [(0, false, va_rf (some b)), (1, false, va_rf (some o)), (2, false, va_rf (some q)), (3, false, .int x3)]) (cont : ∀ rs' h' H' locs' cells' slots', lw_I g s VB o q k rs' h' H' locs' cells' slots' → W p l e room_1 s m #[Value.ref b] below meth c H' locs' cells' slots' Q (F0 m 1899 ls [])) : W p l e room_1 s m #[Value.ref b] below meth c H locs cells slots Q (F0 m 1243 ls []) := by
  have hbA : ¬ (fun q : Nat => s.heap.size ≤ q) b := Nat.not_le.mpr hbl
  obtain ⟨r, h', kk, n, rs', e1, e2, I', z1, z2, z3, z4⟩ := k_wide (q := q) I.1 (xs (x3 + 1).toNatClampNeg) (xs (x3 + 2).toNatClampNeg) (xs (x3 + 3).toNatClampNeg) (xs (x3 + 4).toNatClampNeg)
  refine mz_aload_n X dL_law_1243 rfl (mz_at hl 1 rfl) ?_
  refine mz_aload_n X dL_law_1244 rfl (mz_at hl 0 rfl) ?_
  refine lv_iload_n X.1 X.2.1 dL_law_1245 rfl (mz_at hl 3 rfl) ?_
  refine lv_iconst (v := 1) X.1 X.2.1 dL_law_1246 (by decide) ?_
  refine lv_iadd X.1 X.2.1 dL_law_1247 ?_
  refine va_sld X.1 X.2.1 hX hbl hbA I.2.1.2.2.2 (hin 1 (by decide)) dL_law_1248 ?_
  refine mz_aload_n X dL_law_1249 rfl (mz_at hl 0 rfl) ?_
  refine lv_iload_n X.1 X.2.1 dL_law_1250 rfl (mz_at hl 3 rfl) ?_
  refine lv_iconst (v := 2) X.1 X.2.1 dL_law_1251 (by decide) ?_
  refine lv_iadd X.1 X.2.1 dL_law_1252 ?_
  refine va_sld X.1 X.2.1 hX hbl hbA I.2.1.2.2.2 (hin 2 (by decide)) dL_law_1253 ?_
  refine mz_aload_n X dL_law_1254 rfl (mz_at hl 0 rfl) ?_
  refine lv_iload_n X.1 X.2.1 dL_law_1255 rfl (mz_at hl 3 rfl) ?_
  refine lv_iconst (v := 3) X.1 X.2.1 dL_law_1256 (by decide) ?_
  refine lv_iadd X.1 X.2.1 dL_law_1257 ?_
  refine va_sld X.1 X.2.1 hX hbl hbA I.2.1.2.2.2 (hin 3 (by decide)) dL_law_1258 ?_
  refine mz_aload_n X dL_law_1259 rfl (mz_at hl 0 rfl) ?_
  refine lv_iload_n X.1 X.2.1 dL_law_1260 rfl (mz_at hl 3 rfl) ?_
  refine lv_iconst (v := 4) X.1 X.2.1 dL_law_1261 (by decide) ?_
  refine lv_iadd X.1 X.2.1 dL_law_1262 ?_
  refine va_sld X.1 X.2.1 hX hbl hbA I.2.1.2.2.2 (hin 4 (by decide)) dL_law_1263 ?_
  refine lw_x X I.2.1 I.1.is hl.1.1 [.int (xs (x3 + 1).toNatClampNeg), .int (xs (x3 + 2).toNatClampNeg), .int (xs (x3 + 3).toNatClampNeg), .int (xs (x3 + 4).toNatClampNeg)] (ct_X11_wide l g h (some o) (xs (x3 + 1).toNatClampNeg) (xs (x3 + 2).toNatClampNeg) (xs (x3 + 3).toNatClampNeg) (xs (x3 + 4).toNatClampNeg) r h' kk n e1) lb_123 li_X11_wide rfl ⟨Nat.le_of_ble_eq_true rfl, Nat.le_of_ble_eq_true rfl⟩ (lw_bud I I' z2 z3 z4) dL_law_1264 rfl (fun H1 locs1 J => ?_)
  refine mz_aload_n X dL_law_1267 rfl (mz_at hl 2 rfl) ?_
  refine mz_aload_n X dL_law_1268 rfl (mz_at hl 0 rfl) ?_
  refine lv_iload_n X.1 X.2.1 dL_law_1269 rfl (mz_at hl 3 rfl) ?_
  refine lv_iconst (v := 1) X.1 X.2.1 dL_law_1270 (by decide) ?_
  refine lv_iadd X.1 X.2.1 dL_law_1271 ?_
  refine va_sld X.1 X.2.1 hX hbl hbA J.2.2.2 (hin 1 (by decide)) dL_law_1272 ?_
  refine mz_aload_n X dL_law_1273 rfl (mz_at hl 0 rfl) ?_
  refine lv_iload_n X.1 X.2.1 dL_law_1274 rfl (mz_at hl 3 rfl) ?_
  refine lv_iconst (v := 2) X.1 X.2.1 dL_law_1275 (by decide) ?_
  refine lv_iadd X.1 X.2.1 dL_law_1276 ?_
  refine va_sld X.1 X.2.1 hX hbl hbA J.2.2.2 (hin 2 (by decide)) dL_law_1277 ?_
  refine mz_aload_n X dL_law_1278 rfl (mz_at hl 0 rfl) ?_
  refine lv_iload_n X.1 X.2.1 dL_law_1279 rfl (mz_at hl 3 rfl) ?_
  refine lv_iconst (v := 3) X.1 X.2.1 dL_law_1280 (by decide) ?_
  refine lv_iadd X.1 X.2.1 dL_law_1281 ?_
  refine va_sld X.1 X.2.1 hX hbl hbA J.2.2.2 (hin 3 (by decide)) dL_law_1282 ?_
  refine mz_aload_n X dL_law_1283 rfl (mz_at hl 0 rfl) ?_
  refine lv_iload_n X.1 X.2.1 dL_law_1284 rfl (mz_at hl 3 rfl) ?_
  refine lv_iconst (v := 4) X.1 X.2.1 dL_law_1285 (by decide) ?_
  refine lv_iadd X.1 X.2.1 dL_law_1286 ?_
  refine va_sld X.1 X.2.1 hX hbl hbA J.2.2.2 (hin 4 (by decide)) dL_law_1287 ?_
  refine lw_m X J hl.1.1 [.int (xs (x3 + 1).toNatClampNeg), .int (xs (x3 + 2).toNatClampNeg), .int (xs (x3 + 3).toNatClampNeg), .int (xs (x3 + 4).toNatClampNeg)] (ct_X12_wide l g (mz_RH q h'.2 rs) (some q) (xs (x3 + 1).toNatClampNeg) (xs (x3 + 2).toNatClampNeg) (xs (x3 + 3).toNatClampNeg) (xs (x3 + 4).toNatClampNeg) r (mz_RH q h'.2 rs') 0 0 e2) lb_126 li_X12_wide rfl ⟨Nat.le_of_ble_eq_true rfl, Nat.le_of_ble_eq_true rfl⟩ (lw_bud I I' z2 z3 z4) dL_law_1288 rfl (fun H2 locs2 J2 => ?_)
  refine W.lcmp X.1 X.2.1 dL_law_1291 ?_
  refine lv_if_eq (tgt := 1899) X.1 X.2.1 dL_law_1292 (by decide) (fun _ => ?_) (fun z => absurd ((lg_cmp_eq r r).mpr rfl) z)
  exact cont _ _ _ _ _ _ (lw_next I I' z2 z3 z4 J2)
end
theorem dL_law_1297 : decode cL_law 1297 = .ok (.aload_n 1, 1) := by decide +kernel
theorem dL_law_1298 : decode cL_law 1298 = .ok (.aload_n 0, 1) := by decide +kernel
theorem dL_law_1299 : decode cL_law 1299 = .ok (.iload_n 3, 1) := by decide +kernel
theorem dL_law_1300 : decode cL_law 1300 = .ok (.iconst 1, 1) := by decide +kernel
theorem dL_law_1301 : decode cL_law 1301 = .ok (.iadd, 1) := by decide +kernel
theorem dL_law_1302 : decode cL_law 1302 = .ok (.iaload, 1) := by decide +kernel
theorem dL_law_1303 : decode cL_law 1303 = .ok (.aload_n 0, 1) := by decide +kernel
theorem dL_law_1304 : decode cL_law 1304 = .ok (.iload_n 3, 1) := by decide +kernel
theorem dL_law_1305 : decode cL_law 1305 = .ok (.iconst 2, 1) := by decide +kernel
theorem dL_law_1306 : decode cL_law 1306 = .ok (.iadd, 1) := by decide +kernel
theorem dL_law_1307 : decode cL_law 1307 = .ok (.iaload, 1) := by decide +kernel
theorem dL_law_1308 : decode cL_law 1308 = .ok (.aload_n 0, 1) := by decide +kernel
theorem dL_law_1309 : decode cL_law 1309 = .ok (.iload_n 3, 1) := by decide +kernel
theorem dL_law_1310 : decode cL_law 1310 = .ok (.iconst 3, 1) := by decide +kernel
theorem dL_law_1311 : decode cL_law 1311 = .ok (.iadd, 1) := by decide +kernel
theorem dL_law_1312 : decode cL_law 1312 = .ok (.iaload, 1) := by decide +kernel
theorem dL_law_1313 : decode cL_law 1313 = .ok (.aload_n 0, 1) := by decide +kernel
theorem dL_law_1314 : decode cL_law 1314 = .ok (.iload_n 3, 1) := by decide +kernel
theorem dL_law_1315 : decode cL_law 1315 = .ok (.iconst 4, 1) := by decide +kernel
theorem dL_law_1316 : decode cL_law 1316 = .ok (.iadd, 1) := by decide +kernel
theorem dL_law_1317 : decode cL_law 1317 = .ok (.iaload, 1) := by decide +kernel
theorem dL_law_1318 : decode cL_law 1318 = .ok (.aload_n 0, 1) := by decide +kernel
theorem dL_law_1319 : decode cL_law 1319 = .ok (.iload_n 3, 1) := by decide +kernel
theorem dL_law_1320 : decode cL_law 1320 = .ok (.iconst 5, 1) := by decide +kernel
theorem dL_law_1321 : decode cL_law 1321 = .ok (.iadd, 1) := by decide +kernel
theorem dL_law_1322 : decode cL_law 1322 = .ok (.iaload, 1) := by decide +kernel
theorem dL_law_1323 : decode cL_law 1323 = .ok (.aload_n 0, 1) := by decide +kernel
theorem dL_law_1324 : decode cL_law 1324 = .ok (.iload_n 3, 1) := by decide +kernel
theorem dL_law_1325 : decode cL_law 1325 = .ok (.bipush 6, 2) := by decide +kernel
theorem dL_law_1327 : decode cL_law 1327 = .ok (.iadd, 1) := by decide +kernel
theorem dL_law_1328 : decode cL_law 1328 = .ok (.iaload, 1) := by decide +kernel
theorem dL_law_1329 : decode cL_law 1329 = .ok (.aload_n 0, 1) := by decide +kernel
theorem dL_law_1330 : decode cL_law 1330 = .ok (.iload_n 3, 1) := by decide +kernel
theorem dL_law_1331 : decode cL_law 1331 = .ok (.bipush 7, 2) := by decide +kernel
theorem dL_law_1333 : decode cL_law 1333 = .ok (.iadd, 1) := by decide +kernel
theorem dL_law_1334 : decode cL_law 1334 = .ok (.iaload, 1) := by decide +kernel
theorem dL_law_1335 : decode cL_law 1335 = .ok (.invokevirtual 127, 3) := by decide +kernel
theorem dL_law_1338 : decode cL_law 1338 = .ok (.aload_n 2, 1) := by decide +kernel
theorem dL_law_1339 : decode cL_law 1339 = .ok (.aload_n 0, 1) := by decide +kernel
theorem dL_law_1340 : decode cL_law 1340 = .ok (.iload_n 3, 1) := by decide +kernel
theorem dL_law_1341 : decode cL_law 1341 = .ok (.iconst 1, 1) := by decide +kernel
theorem dL_law_1342 : decode cL_law 1342 = .ok (.iadd, 1) := by decide +kernel
theorem dL_law_1343 : decode cL_law 1343 = .ok (.iaload, 1) := by decide +kernel
theorem dL_law_1344 : decode cL_law 1344 = .ok (.aload_n 0, 1) := by decide +kernel
theorem dL_law_1345 : decode cL_law 1345 = .ok (.iload_n 3, 1) := by decide +kernel
theorem dL_law_1346 : decode cL_law 1346 = .ok (.iconst 2, 1) := by decide +kernel
theorem dL_law_1347 : decode cL_law 1347 = .ok (.iadd, 1) := by decide +kernel
theorem dL_law_1348 : decode cL_law 1348 = .ok (.iaload, 1) := by decide +kernel
theorem dL_law_1349 : decode cL_law 1349 = .ok (.aload_n 0, 1) := by decide +kernel
theorem dL_law_1350 : decode cL_law 1350 = .ok (.iload_n 3, 1) := by decide +kernel
theorem dL_law_1351 : decode cL_law 1351 = .ok (.iconst 3, 1) := by decide +kernel
theorem dL_law_1352 : decode cL_law 1352 = .ok (.iadd, 1) := by decide +kernel
theorem dL_law_1353 : decode cL_law 1353 = .ok (.iaload, 1) := by decide +kernel
theorem dL_law_1354 : decode cL_law 1354 = .ok (.aload_n 0, 1) := by decide +kernel
theorem dL_law_1355 : decode cL_law 1355 = .ok (.iload_n 3, 1) := by decide +kernel
theorem dL_law_1356 : decode cL_law 1356 = .ok (.iconst 4, 1) := by decide +kernel
theorem dL_law_1357 : decode cL_law 1357 = .ok (.iadd, 1) := by decide +kernel
theorem dL_law_1358 : decode cL_law 1358 = .ok (.iaload, 1) := by decide +kernel
theorem dL_law_1359 : decode cL_law 1359 = .ok (.aload_n 0, 1) := by decide +kernel
theorem dL_law_1360 : decode cL_law 1360 = .ok (.iload_n 3, 1) := by decide +kernel
theorem dL_law_1361 : decode cL_law 1361 = .ok (.iconst 5, 1) := by decide +kernel
theorem dL_law_1362 : decode cL_law 1362 = .ok (.iadd, 1) := by decide +kernel
theorem dL_law_1363 : decode cL_law 1363 = .ok (.iaload, 1) := by decide +kernel
theorem dL_law_1364 : decode cL_law 1364 = .ok (.aload_n 0, 1) := by decide +kernel
theorem dL_law_1365 : decode cL_law 1365 = .ok (.iload_n 3, 1) := by decide +kernel
theorem dL_law_1366 : decode cL_law 1366 = .ok (.bipush 6, 2) := by decide +kernel
theorem dL_law_1368 : decode cL_law 1368 = .ok (.iadd, 1) := by decide +kernel
theorem dL_law_1369 : decode cL_law 1369 = .ok (.iaload, 1) := by decide +kernel
theorem dL_law_1370 : decode cL_law 1370 = .ok (.aload_n 0, 1) := by decide +kernel
theorem dL_law_1371 : decode cL_law 1371 = .ok (.iload_n 3, 1) := by decide +kernel
theorem dL_law_1372 : decode cL_law 1372 = .ok (.bipush 7, 2) := by decide +kernel
theorem dL_law_1374 : decode cL_law 1374 = .ok (.iadd, 1) := by decide +kernel
theorem dL_law_1375 : decode cL_law 1375 = .ok (.iaload, 1) := by decide +kernel
theorem dL_law_1376 : decode cL_law 1376 = .ok (.invokevirtual 131, 3) := by decide +kernel
theorem dL_law_1379 : decode cL_law 1379 = .ok (.if_icmp .eq 520, 3) := by decide +kernel
theorem lb_127 : mz_MB RL 127 yX11_copy cX11_copy 10 (some .int) 7 := ⟨mz_tb 739 (by decide +kernel) rfl, mz_tb 40 (by decide +kernel) rfl, mz_tb 742 (by decide +kernel) rfl, by decide, by decide, by decide +kernel⟩
theorem li_X11_copy : Cond.instanceMethod yX11_copy ∈ mz_tbl ∧ Cond.selects RX11 yX11_copy yX11_copy ∈ mz_tbl := ⟨mz_tb 740 (by decide +kernel) rfl, mz_tb 741 (by decide +kernel) rfl⟩
theorem lb_131 : mz_MB RL 131 yX12_copy cX12_copy 13 (some .int) 7 := ⟨mz_tb 1340 (by decide +kernel) rfl, mz_tb 45 (by decide +kernel) rfl, mz_tb 1343 (by decide +kernel) rfl, by decide, by decide, by decide +kernel⟩
theorem li_X12_copy : Cond.instanceMethod yX12_copy ∈ mz_tbl ∧ Cond.selects RX12 yX12_copy yX12_copy ∈ mz_tbl := ⟨mz_tb 1341 (by decide +kernel) rfl, mz_tb 1342 (by decide +kernel) rfl⟩
section
variable {p : Program} {l : Launch} {e : Env} {s : State} {m : MethodId} {below : List Frame} {meth : Method} {c : Code} {H : Heap} {locs : List Loc} {cells slots : Nat} {Q : State → Prop} {ls : Array Slot} {g : mz_G} {b L : Nat} {xs : Nat → Int32} {VB o q k : Nat} {rs : mz_RS} {h : mz_H} {x3 : Int32}
set_option maxHeartbeats 4000000 in
set_option maxRecDepth 100000 in
theorem lc_26 (X : mz_X p g RL cL_law 4 (fun q : Nat => s.heap.size ≤ q) s m #[Value.ref b] c) (hX : va_X b L xs s s.heap) (hbl : b < s.heap.size) (hin : ∀ j : Nat, j < 8 → vp_in (x3 + nI j) L) (I : lw_I g s VB o q (k + 1) rs h H locs cells slots) (hl : mz_L ls 4 [(0, false, va_rf (some b)), (1, false, va_rf (some o)), (2, false, va_rf (some q)), (3, false, .int x3)]) (cont : ∀ rs' h' H' locs' cells' slots', lw_I g s VB o q k rs' h' H' locs' cells' slots' → W p l e room_1 s m #[Value.ref b] below meth c H' locs' cells' slots' Q (F0 m 1899 ls [])) : W p l e room_1 s m #[Value.ref b] below meth c H locs cells slots Q (F0 m 1297 ls []) := by
  have hbA : ¬ (fun q : Nat => s.heap.size ≤ q) b := Nat.not_le.mpr hbl
  obtain ⟨r, h', kk, n, rs', e1, e2, I', z1, z2, z3, z4⟩ := k_copy (q := q) I.1 (xs (x3 + 1).toNatClampNeg) (xs (x3 + 2).toNatClampNeg) (xs (x3 + 3).toNatClampNeg) (xs (x3 + 4).toNatClampNeg) (xs (x3 + 5).toNatClampNeg) (xs (x3 + 6).toNatClampNeg) (xs (x3 + 7).toNatClampNeg)
  refine mz_aload_n X dL_law_1297 rfl (mz_at hl 1 rfl) ?_
  refine mz_aload_n X dL_law_1298 rfl (mz_at hl 0 rfl) ?_
  refine lv_iload_n X.1 X.2.1 dL_law_1299 rfl (mz_at hl 3 rfl) ?_
  refine lv_iconst (v := 1) X.1 X.2.1 dL_law_1300 (by decide) ?_
  refine lv_iadd X.1 X.2.1 dL_law_1301 ?_
  refine va_sld X.1 X.2.1 hX hbl hbA I.2.1.2.2.2 (hin 1 (by decide)) dL_law_1302 ?_
  refine mz_aload_n X dL_law_1303 rfl (mz_at hl 0 rfl) ?_
  refine lv_iload_n X.1 X.2.1 dL_law_1304 rfl (mz_at hl 3 rfl) ?_
  refine lv_iconst (v := 2) X.1 X.2.1 dL_law_1305 (by decide) ?_
  refine lv_iadd X.1 X.2.1 dL_law_1306 ?_
  refine va_sld X.1 X.2.1 hX hbl hbA I.2.1.2.2.2 (hin 2 (by decide)) dL_law_1307 ?_
  refine mz_aload_n X dL_law_1308 rfl (mz_at hl 0 rfl) ?_
  refine lv_iload_n X.1 X.2.1 dL_law_1309 rfl (mz_at hl 3 rfl) ?_
  refine lv_iconst (v := 3) X.1 X.2.1 dL_law_1310 (by decide) ?_
  refine lv_iadd X.1 X.2.1 dL_law_1311 ?_
  refine va_sld X.1 X.2.1 hX hbl hbA I.2.1.2.2.2 (hin 3 (by decide)) dL_law_1312 ?_
  refine mz_aload_n X dL_law_1313 rfl (mz_at hl 0 rfl) ?_
  refine lv_iload_n X.1 X.2.1 dL_law_1314 rfl (mz_at hl 3 rfl) ?_
  refine lv_iconst (v := 4) X.1 X.2.1 dL_law_1315 (by decide) ?_
  refine lv_iadd X.1 X.2.1 dL_law_1316 ?_
  refine va_sld X.1 X.2.1 hX hbl hbA I.2.1.2.2.2 (hin 4 (by decide)) dL_law_1317 ?_
  refine mz_aload_n X dL_law_1318 rfl (mz_at hl 0 rfl) ?_
  refine lv_iload_n X.1 X.2.1 dL_law_1319 rfl (mz_at hl 3 rfl) ?_
  refine lv_iconst (v := 5) X.1 X.2.1 dL_law_1320 (by decide) ?_
  refine lv_iadd X.1 X.2.1 dL_law_1321 ?_
  refine va_sld X.1 X.2.1 hX hbl hbA I.2.1.2.2.2 (hin 5 (by decide)) dL_law_1322 ?_
  refine mz_aload_n X dL_law_1323 rfl (mz_at hl 0 rfl) ?_
  refine lv_iload_n X.1 X.2.1 dL_law_1324 rfl (mz_at hl 3 rfl) ?_
  refine lv_bipush (v := 6) X.1 X.2.1 dL_law_1325 (by decide) ?_
  refine lv_iadd X.1 X.2.1 dL_law_1327 ?_
  refine va_sld X.1 X.2.1 hX hbl hbA I.2.1.2.2.2 (hin 6 (by decide)) dL_law_1328 ?_
  refine mz_aload_n X dL_law_1329 rfl (mz_at hl 0 rfl) ?_
  refine lv_iload_n X.1 X.2.1 dL_law_1330 rfl (mz_at hl 3 rfl) ?_
  refine lv_bipush (v := 7) X.1 X.2.1 dL_law_1331 (by decide) ?_
  refine lv_iadd X.1 X.2.1 dL_law_1333 ?_
  refine va_sld X.1 X.2.1 hX hbl hbA I.2.1.2.2.2 (hin 7 (by decide)) dL_law_1334 ?_
  refine lw_x X I.2.1 I.1.is hl.1.1 [.int (xs (x3 + 1).toNatClampNeg), .int (xs (x3 + 2).toNatClampNeg), .int (xs (x3 + 3).toNatClampNeg), .int (xs (x3 + 4).toNatClampNeg), .int (xs (x3 + 5).toNatClampNeg), .int (xs (x3 + 6).toNatClampNeg), .int (xs (x3 + 7).toNatClampNeg)] (ct_X11_copy l g h (some o) (xs (x3 + 1).toNatClampNeg) (xs (x3 + 2).toNatClampNeg) (xs (x3 + 3).toNatClampNeg) (xs (x3 + 4).toNatClampNeg) (xs (x3 + 5).toNatClampNeg) (xs (x3 + 6).toNatClampNeg) (xs (x3 + 7).toNatClampNeg) r h' kk n e1) lb_127 li_X11_copy rfl ⟨Nat.le_of_ble_eq_true rfl, Nat.le_of_ble_eq_true rfl⟩ (lw_bud I I' z2 z3 z4) dL_law_1335 rfl (fun H1 locs1 J => ?_)
  refine mz_aload_n X dL_law_1338 rfl (mz_at hl 2 rfl) ?_
  refine mz_aload_n X dL_law_1339 rfl (mz_at hl 0 rfl) ?_
  refine lv_iload_n X.1 X.2.1 dL_law_1340 rfl (mz_at hl 3 rfl) ?_
  refine lv_iconst (v := 1) X.1 X.2.1 dL_law_1341 (by decide) ?_
  refine lv_iadd X.1 X.2.1 dL_law_1342 ?_
  refine va_sld X.1 X.2.1 hX hbl hbA J.2.2.2 (hin 1 (by decide)) dL_law_1343 ?_
  refine mz_aload_n X dL_law_1344 rfl (mz_at hl 0 rfl) ?_
  refine lv_iload_n X.1 X.2.1 dL_law_1345 rfl (mz_at hl 3 rfl) ?_
  refine lv_iconst (v := 2) X.1 X.2.1 dL_law_1346 (by decide) ?_
  refine lv_iadd X.1 X.2.1 dL_law_1347 ?_
  refine va_sld X.1 X.2.1 hX hbl hbA J.2.2.2 (hin 2 (by decide)) dL_law_1348 ?_
  refine mz_aload_n X dL_law_1349 rfl (mz_at hl 0 rfl) ?_
  refine lv_iload_n X.1 X.2.1 dL_law_1350 rfl (mz_at hl 3 rfl) ?_
  refine lv_iconst (v := 3) X.1 X.2.1 dL_law_1351 (by decide) ?_
  refine lv_iadd X.1 X.2.1 dL_law_1352 ?_
  refine va_sld X.1 X.2.1 hX hbl hbA J.2.2.2 (hin 3 (by decide)) dL_law_1353 ?_
  refine mz_aload_n X dL_law_1354 rfl (mz_at hl 0 rfl) ?_
  refine lv_iload_n X.1 X.2.1 dL_law_1355 rfl (mz_at hl 3 rfl) ?_
  refine lv_iconst (v := 4) X.1 X.2.1 dL_law_1356 (by decide) ?_
  refine lv_iadd X.1 X.2.1 dL_law_1357 ?_
  refine va_sld X.1 X.2.1 hX hbl hbA J.2.2.2 (hin 4 (by decide)) dL_law_1358 ?_
  refine mz_aload_n X dL_law_1359 rfl (mz_at hl 0 rfl) ?_
  refine lv_iload_n X.1 X.2.1 dL_law_1360 rfl (mz_at hl 3 rfl) ?_
  refine lv_iconst (v := 5) X.1 X.2.1 dL_law_1361 (by decide) ?_
  refine lv_iadd X.1 X.2.1 dL_law_1362 ?_
  refine va_sld X.1 X.2.1 hX hbl hbA J.2.2.2 (hin 5 (by decide)) dL_law_1363 ?_
  refine mz_aload_n X dL_law_1364 rfl (mz_at hl 0 rfl) ?_
  refine lv_iload_n X.1 X.2.1 dL_law_1365 rfl (mz_at hl 3 rfl) ?_
  refine lv_bipush (v := 6) X.1 X.2.1 dL_law_1366 (by decide) ?_
  refine lv_iadd X.1 X.2.1 dL_law_1368 ?_
  refine va_sld X.1 X.2.1 hX hbl hbA J.2.2.2 (hin 6 (by decide)) dL_law_1369 ?_
  refine mz_aload_n X dL_law_1370 rfl (mz_at hl 0 rfl) ?_
  refine lv_iload_n X.1 X.2.1 dL_law_1371 rfl (mz_at hl 3 rfl) ?_
  refine lv_bipush (v := 7) X.1 X.2.1 dL_law_1372 (by decide) ?_
  refine lv_iadd X.1 X.2.1 dL_law_1374 ?_
  refine va_sld X.1 X.2.1 hX hbl hbA J.2.2.2 (hin 7 (by decide)) dL_law_1375 ?_
  refine lw_m X J hl.1.1 [.int (xs (x3 + 1).toNatClampNeg), .int (xs (x3 + 2).toNatClampNeg), .int (xs (x3 + 3).toNatClampNeg), .int (xs (x3 + 4).toNatClampNeg), .int (xs (x3 + 5).toNatClampNeg), .int (xs (x3 + 6).toNatClampNeg), .int (xs (x3 + 7).toNatClampNeg)] (ct_X12_copy l g (mz_RH q h'.2 rs) (some q) (xs (x3 + 1).toNatClampNeg) (xs (x3 + 2).toNatClampNeg) (xs (x3 + 3).toNatClampNeg) (xs (x3 + 4).toNatClampNeg) (xs (x3 + 5).toNatClampNeg) (xs (x3 + 6).toNatClampNeg) (xs (x3 + 7).toNatClampNeg) r (mz_RH q h'.2 rs') 0 0 e2) lb_131 li_X12_copy rfl ⟨Nat.le_of_ble_eq_true rfl, Nat.le_of_ble_eq_true rfl⟩ (lw_bud I I' z2 z3 z4) dL_law_1376 rfl (fun H2 locs2 J2 => ?_)
  refine lv_icmp_eq (tgt := 1899) X.1 X.2.1 dL_law_1379 (by decide) (fun _ => ?_) (fun z => absurd rfl z)
  exact cont _ _ _ _ _ _ (lw_next I I' z2 z3 z4 J2)
end
theorem dL_law_1384 : decode cL_law 1384 = .ok (.aload_n 1, 1) := by decide +kernel
theorem dL_law_1385 : decode cL_law 1385 = .ok (.aload_n 0, 1) := by decide +kernel
theorem dL_law_1386 : decode cL_law 1386 = .ok (.iload_n 3, 1) := by decide +kernel
theorem dL_law_1387 : decode cL_law 1387 = .ok (.iconst 1, 1) := by decide +kernel
theorem dL_law_1388 : decode cL_law 1388 = .ok (.iadd, 1) := by decide +kernel
theorem dL_law_1389 : decode cL_law 1389 = .ok (.iaload, 1) := by decide +kernel
theorem dL_law_1390 : decode cL_law 1390 = .ok (.aload_n 0, 1) := by decide +kernel
theorem dL_law_1391 : decode cL_law 1391 = .ok (.iload_n 3, 1) := by decide +kernel
theorem dL_law_1392 : decode cL_law 1392 = .ok (.iconst 2, 1) := by decide +kernel
theorem dL_law_1393 : decode cL_law 1393 = .ok (.iadd, 1) := by decide +kernel
theorem dL_law_1394 : decode cL_law 1394 = .ok (.iaload, 1) := by decide +kernel
theorem dL_law_1395 : decode cL_law 1395 = .ok (.aload_n 0, 1) := by decide +kernel
theorem dL_law_1396 : decode cL_law 1396 = .ok (.iload_n 3, 1) := by decide +kernel
theorem dL_law_1397 : decode cL_law 1397 = .ok (.iconst 3, 1) := by decide +kernel
theorem dL_law_1398 : decode cL_law 1398 = .ok (.iadd, 1) := by decide +kernel
theorem dL_law_1399 : decode cL_law 1399 = .ok (.iaload, 1) := by decide +kernel
theorem dL_law_1400 : decode cL_law 1400 = .ok (.invokevirtual 132, 3) := by decide +kernel
theorem dL_law_1403 : decode cL_law 1403 = .ok (.aload_n 2, 1) := by decide +kernel
theorem dL_law_1404 : decode cL_law 1404 = .ok (.aload_n 0, 1) := by decide +kernel
theorem dL_law_1405 : decode cL_law 1405 = .ok (.iload_n 3, 1) := by decide +kernel
theorem dL_law_1406 : decode cL_law 1406 = .ok (.iconst 1, 1) := by decide +kernel
theorem dL_law_1407 : decode cL_law 1407 = .ok (.iadd, 1) := by decide +kernel
theorem dL_law_1408 : decode cL_law 1408 = .ok (.iaload, 1) := by decide +kernel
theorem dL_law_1409 : decode cL_law 1409 = .ok (.aload_n 0, 1) := by decide +kernel
theorem dL_law_1410 : decode cL_law 1410 = .ok (.iload_n 3, 1) := by decide +kernel
theorem dL_law_1411 : decode cL_law 1411 = .ok (.iconst 2, 1) := by decide +kernel
theorem dL_law_1412 : decode cL_law 1412 = .ok (.iadd, 1) := by decide +kernel
theorem dL_law_1413 : decode cL_law 1413 = .ok (.iaload, 1) := by decide +kernel
theorem dL_law_1414 : decode cL_law 1414 = .ok (.aload_n 0, 1) := by decide +kernel
theorem dL_law_1415 : decode cL_law 1415 = .ok (.iload_n 3, 1) := by decide +kernel
theorem dL_law_1416 : decode cL_law 1416 = .ok (.iconst 3, 1) := by decide +kernel
theorem dL_law_1417 : decode cL_law 1417 = .ok (.iadd, 1) := by decide +kernel
theorem dL_law_1418 : decode cL_law 1418 = .ok (.iaload, 1) := by decide +kernel
theorem dL_law_1419 : decode cL_law 1419 = .ok (.invokevirtual 135, 3) := by decide +kernel
theorem dL_law_1422 : decode cL_law 1422 = .ok (.if_icmp .eq 477, 3) := by decide +kernel
theorem lb_132 : mz_MB RL 132 yX11_follow cX11_follow 7 (some .int) 3 := ⟨mz_tb 750 (by decide +kernel) rfl, mz_tb 40 (by decide +kernel) rfl, mz_tb 753 (by decide +kernel) rfl, by decide, by decide, by decide +kernel⟩
theorem li_X11_follow : Cond.instanceMethod yX11_follow ∈ mz_tbl ∧ Cond.selects RX11 yX11_follow yX11_follow ∈ mz_tbl := ⟨mz_tb 751 (by decide +kernel) rfl, mz_tb 752 (by decide +kernel) rfl⟩
theorem lb_135 : mz_MB RL 135 yX12_follow cX12_follow 8 (some .int) 3 := ⟨mz_tb 1344 (by decide +kernel) rfl, mz_tb 45 (by decide +kernel) rfl, mz_tb 1347 (by decide +kernel) rfl, by decide, by decide, by decide +kernel⟩
theorem li_X12_follow : Cond.instanceMethod yX12_follow ∈ mz_tbl ∧ Cond.selects RX12 yX12_follow yX12_follow ∈ mz_tbl := ⟨mz_tb 1345 (by decide +kernel) rfl, mz_tb 1346 (by decide +kernel) rfl⟩
section
variable {p : Program} {l : Launch} {e : Env} {s : State} {m : MethodId} {below : List Frame} {meth : Method} {c : Code} {H : Heap} {locs : List Loc} {cells slots : Nat} {Q : State → Prop} {ls : Array Slot} {g : mz_G} {b L : Nat} {xs : Nat → Int32} {VB o q k : Nat} {rs : mz_RS} {h : mz_H} {x3 : Int32}
set_option maxHeartbeats 4000000 in
set_option maxRecDepth 100000 in
theorem lc_27 (X : mz_X p g RL cL_law 4 (fun q : Nat => s.heap.size ≤ q) s m #[Value.ref b] c) (hX : va_X b L xs s s.heap) (hbl : b < s.heap.size) (hin : ∀ j : Nat, j < 8 → vp_in (x3 + nI j) L) (I : lw_I g s VB o q (k + 1) rs h H locs cells slots) (hl : mz_L ls 4 [(0, false, va_rf (some b)), (1, false, va_rf (some o)), (2, false, va_rf (some q)), (3, false, .int x3)]) (cont : ∀ rs' h' H' locs' cells' slots', lw_I g s VB o q k rs' h' H' locs' cells' slots' → W p l e room_1 s m #[Value.ref b] below meth c H' locs' cells' slots' Q (F0 m 1899 ls [])) : W p l e room_1 s m #[Value.ref b] below meth c H locs cells slots Q (F0 m 1384 ls []) := by
  have hbA : ¬ (fun q : Nat => s.heap.size ≤ q) b := Nat.not_le.mpr hbl
  obtain ⟨r, h', kk, n, rs', e1, e2, I', z1, z2, z3, z4⟩ := k_follow (q := q) I.1 (xs (x3 + 1).toNatClampNeg) (xs (x3 + 2).toNatClampNeg) (xs (x3 + 3).toNatClampNeg)
  refine mz_aload_n X dL_law_1384 rfl (mz_at hl 1 rfl) ?_
  refine mz_aload_n X dL_law_1385 rfl (mz_at hl 0 rfl) ?_
  refine lv_iload_n X.1 X.2.1 dL_law_1386 rfl (mz_at hl 3 rfl) ?_
  refine lv_iconst (v := 1) X.1 X.2.1 dL_law_1387 (by decide) ?_
  refine lv_iadd X.1 X.2.1 dL_law_1388 ?_
  refine va_sld X.1 X.2.1 hX hbl hbA I.2.1.2.2.2 (hin 1 (by decide)) dL_law_1389 ?_
  refine mz_aload_n X dL_law_1390 rfl (mz_at hl 0 rfl) ?_
  refine lv_iload_n X.1 X.2.1 dL_law_1391 rfl (mz_at hl 3 rfl) ?_
  refine lv_iconst (v := 2) X.1 X.2.1 dL_law_1392 (by decide) ?_
  refine lv_iadd X.1 X.2.1 dL_law_1393 ?_
  refine va_sld X.1 X.2.1 hX hbl hbA I.2.1.2.2.2 (hin 2 (by decide)) dL_law_1394 ?_
  refine mz_aload_n X dL_law_1395 rfl (mz_at hl 0 rfl) ?_
  refine lv_iload_n X.1 X.2.1 dL_law_1396 rfl (mz_at hl 3 rfl) ?_
  refine lv_iconst (v := 3) X.1 X.2.1 dL_law_1397 (by decide) ?_
  refine lv_iadd X.1 X.2.1 dL_law_1398 ?_
  refine va_sld X.1 X.2.1 hX hbl hbA I.2.1.2.2.2 (hin 3 (by decide)) dL_law_1399 ?_
  refine lw_x X I.2.1 I.1.is hl.1.1 [.int (xs (x3 + 1).toNatClampNeg), .int (xs (x3 + 2).toNatClampNeg), .int (xs (x3 + 3).toNatClampNeg)] (ct_X11_follow l g h (some o) (xs (x3 + 1).toNatClampNeg) (xs (x3 + 2).toNatClampNeg) (xs (x3 + 3).toNatClampNeg) r h' kk n e1) lb_132 li_X11_follow rfl ⟨Nat.le_of_ble_eq_true rfl, Nat.le_of_ble_eq_true rfl⟩ (lw_bud I I' z2 z3 z4) dL_law_1400 rfl (fun H1 locs1 J => ?_)
  refine mz_aload_n X dL_law_1403 rfl (mz_at hl 2 rfl) ?_
  refine mz_aload_n X dL_law_1404 rfl (mz_at hl 0 rfl) ?_
  refine lv_iload_n X.1 X.2.1 dL_law_1405 rfl (mz_at hl 3 rfl) ?_
  refine lv_iconst (v := 1) X.1 X.2.1 dL_law_1406 (by decide) ?_
  refine lv_iadd X.1 X.2.1 dL_law_1407 ?_
  refine va_sld X.1 X.2.1 hX hbl hbA J.2.2.2 (hin 1 (by decide)) dL_law_1408 ?_
  refine mz_aload_n X dL_law_1409 rfl (mz_at hl 0 rfl) ?_
  refine lv_iload_n X.1 X.2.1 dL_law_1410 rfl (mz_at hl 3 rfl) ?_
  refine lv_iconst (v := 2) X.1 X.2.1 dL_law_1411 (by decide) ?_
  refine lv_iadd X.1 X.2.1 dL_law_1412 ?_
  refine va_sld X.1 X.2.1 hX hbl hbA J.2.2.2 (hin 2 (by decide)) dL_law_1413 ?_
  refine mz_aload_n X dL_law_1414 rfl (mz_at hl 0 rfl) ?_
  refine lv_iload_n X.1 X.2.1 dL_law_1415 rfl (mz_at hl 3 rfl) ?_
  refine lv_iconst (v := 3) X.1 X.2.1 dL_law_1416 (by decide) ?_
  refine lv_iadd X.1 X.2.1 dL_law_1417 ?_
  refine va_sld X.1 X.2.1 hX hbl hbA J.2.2.2 (hin 3 (by decide)) dL_law_1418 ?_
  refine lw_m X J hl.1.1 [.int (xs (x3 + 1).toNatClampNeg), .int (xs (x3 + 2).toNatClampNeg), .int (xs (x3 + 3).toNatClampNeg)] (ct_X12_follow l g (mz_RH q h'.2 rs) (some q) (xs (x3 + 1).toNatClampNeg) (xs (x3 + 2).toNatClampNeg) (xs (x3 + 3).toNatClampNeg) r (mz_RH q h'.2 rs') 0 0 e2) lb_135 li_X12_follow rfl ⟨Nat.le_of_ble_eq_true rfl, Nat.le_of_ble_eq_true rfl⟩ (lw_bud I I' z2 z3 z4) dL_law_1419 rfl (fun H2 locs2 J2 => ?_)
  refine lv_icmp_eq (tgt := 1899) X.1 X.2.1 dL_law_1422 (by decide) (fun _ => ?_) (fun z => absurd rfl z)
  exact cont _ _ _ _ _ _ (lw_next I I' z2 z3 z4 J2)
end
theorem dL_law_1427 : decode cL_law 1427 = .ok (.aload_n 1, 1) := by decide +kernel
theorem dL_law_1428 : decode cL_law 1428 = .ok (.aload_n 0, 1) := by decide +kernel
theorem dL_law_1429 : decode cL_law 1429 = .ok (.iload_n 3, 1) := by decide +kernel
theorem dL_law_1430 : decode cL_law 1430 = .ok (.iconst 1, 1) := by decide +kernel
theorem dL_law_1431 : decode cL_law 1431 = .ok (.iadd, 1) := by decide +kernel
theorem dL_law_1432 : decode cL_law 1432 = .ok (.iaload, 1) := by decide +kernel
theorem dL_law_1433 : decode cL_law 1433 = .ok (.invokevirtual 136, 3) := by decide +kernel
theorem dL_law_1436 : decode cL_law 1436 = .ok (.aload_n 2, 1) := by decide +kernel
theorem dL_law_1437 : decode cL_law 1437 = .ok (.aload_n 0, 1) := by decide +kernel
theorem dL_law_1438 : decode cL_law 1438 = .ok (.iload_n 3, 1) := by decide +kernel
theorem dL_law_1439 : decode cL_law 1439 = .ok (.iconst 1, 1) := by decide +kernel
theorem dL_law_1440 : decode cL_law 1440 = .ok (.iadd, 1) := by decide +kernel
theorem dL_law_1441 : decode cL_law 1441 = .ok (.iaload, 1) := by decide +kernel
theorem dL_law_1442 : decode cL_law 1442 = .ok (.invokevirtual 139, 3) := by decide +kernel
theorem dL_law_1445 : decode cL_law 1445 = .ok (.if_icmp .eq 454, 3) := by decide +kernel
theorem lb_136 : mz_MB RL 136 yX11_twin cX11_twin 3 (some .int) 1 := ⟨mz_tb 767 (by decide +kernel) rfl, mz_tb 40 (by decide +kernel) rfl, mz_tb 770 (by decide +kernel) rfl, by decide, by decide, by decide +kernel⟩
theorem li_X11_twin : Cond.instanceMethod yX11_twin ∈ mz_tbl ∧ Cond.selects RX11 yX11_twin yX11_twin ∈ mz_tbl := ⟨mz_tb 768 (by decide +kernel) rfl, mz_tb 769 (by decide +kernel) rfl⟩
theorem lb_139 : mz_MB RL 139 yX12_twin cX12_twin 7 (some .int) 1 := ⟨mz_tb 1348 (by decide +kernel) rfl, mz_tb 45 (by decide +kernel) rfl, mz_tb 1351 (by decide +kernel) rfl, by decide, by decide, by decide +kernel⟩
theorem li_X12_twin : Cond.instanceMethod yX12_twin ∈ mz_tbl ∧ Cond.selects RX12 yX12_twin yX12_twin ∈ mz_tbl := ⟨mz_tb 1349 (by decide +kernel) rfl, mz_tb 1350 (by decide +kernel) rfl⟩
section
variable {p : Program} {l : Launch} {e : Env} {s : State} {m : MethodId} {below : List Frame} {meth : Method} {c : Code} {H : Heap} {locs : List Loc} {cells slots : Nat} {Q : State → Prop} {ls : Array Slot} {g : mz_G} {b L : Nat} {xs : Nat → Int32} {VB o q k : Nat} {rs : mz_RS} {h : mz_H} {x3 : Int32}
set_option maxHeartbeats 4000000 in
set_option maxRecDepth 100000 in
theorem lc_28 (X : mz_X p g RL cL_law 4 (fun q : Nat => s.heap.size ≤ q) s m #[Value.ref b] c) (hX : va_X b L xs s s.heap) (hbl : b < s.heap.size) (hin : ∀ j : Nat, j < 8 → vp_in (x3 + nI j) L) (I : lw_I g s VB o q (k + 1) rs h H locs cells slots) (hl : mz_L ls 4 [(0, false, va_rf (some b)), (1, false, va_rf (some o)), (2, false, va_rf (some q)), (3, false, .int x3)]) (cont : ∀ rs' h' H' locs' cells' slots', lw_I g s VB o q k rs' h' H' locs' cells' slots' → W p l e room_1 s m #[Value.ref b] below meth c H' locs' cells' slots' Q (F0 m 1899 ls [])) : W p l e room_1 s m #[Value.ref b] below meth c H locs cells slots Q (F0 m 1427 ls []) := by
  have hbA : ¬ (fun q : Nat => s.heap.size ≤ q) b := Nat.not_le.mpr hbl
  obtain ⟨r, h', kk, n, rs', e1, e2, I', z1, z2, z3, z4⟩ := k_twin (q := q) I.1 (xs (x3 + 1).toNatClampNeg)
  refine mz_aload_n X dL_law_1427 rfl (mz_at hl 1 rfl) ?_
  refine mz_aload_n X dL_law_1428 rfl (mz_at hl 0 rfl) ?_
  refine lv_iload_n X.1 X.2.1 dL_law_1429 rfl (mz_at hl 3 rfl) ?_
  refine lv_iconst (v := 1) X.1 X.2.1 dL_law_1430 (by decide) ?_
  refine lv_iadd X.1 X.2.1 dL_law_1431 ?_
  refine va_sld X.1 X.2.1 hX hbl hbA I.2.1.2.2.2 (hin 1 (by decide)) dL_law_1432 ?_
  refine lw_x X I.2.1 I.1.is hl.1.1 [.int (xs (x3 + 1).toNatClampNeg)] (ct_X11_twin l g h (some o) (xs (x3 + 1).toNatClampNeg) r h' kk n e1) lb_136 li_X11_twin rfl ⟨Nat.le_of_ble_eq_true rfl, Nat.le_of_ble_eq_true rfl⟩ (lw_bud I I' z2 z3 z4) dL_law_1433 rfl (fun H1 locs1 J => ?_)
  refine mz_aload_n X dL_law_1436 rfl (mz_at hl 2 rfl) ?_
  refine mz_aload_n X dL_law_1437 rfl (mz_at hl 0 rfl) ?_
  refine lv_iload_n X.1 X.2.1 dL_law_1438 rfl (mz_at hl 3 rfl) ?_
  refine lv_iconst (v := 1) X.1 X.2.1 dL_law_1439 (by decide) ?_
  refine lv_iadd X.1 X.2.1 dL_law_1440 ?_
  refine va_sld X.1 X.2.1 hX hbl hbA J.2.2.2 (hin 1 (by decide)) dL_law_1441 ?_
  refine lw_m X J hl.1.1 [.int (xs (x3 + 1).toNatClampNeg)] (ct_X12_twin l g (mz_RH q h'.2 rs) (some q) (xs (x3 + 1).toNatClampNeg) r (mz_RH q h'.2 rs') 0 0 e2) lb_139 li_X12_twin rfl ⟨Nat.le_of_ble_eq_true rfl, Nat.le_of_ble_eq_true rfl⟩ (lw_bud I I' z2 z3 z4) dL_law_1442 rfl (fun H2 locs2 J2 => ?_)
  refine lv_icmp_eq (tgt := 1899) X.1 X.2.1 dL_law_1445 (by decide) (fun _ => ?_) (fun z => absurd rfl z)
  exact cont _ _ _ _ _ _ (lw_next I I' z2 z3 z4 J2)
end
theorem dL_law_1450 : decode cL_law 1450 = .ok (.aload_n 1, 1) := by decide +kernel
theorem dL_law_1451 : decode cL_law 1451 = .ok (.aload_n 0, 1) := by decide +kernel
theorem dL_law_1452 : decode cL_law 1452 = .ok (.iload_n 3, 1) := by decide +kernel
theorem dL_law_1453 : decode cL_law 1453 = .ok (.iconst 1, 1) := by decide +kernel
theorem dL_law_1454 : decode cL_law 1454 = .ok (.iadd, 1) := by decide +kernel
theorem dL_law_1455 : decode cL_law 1455 = .ok (.iaload, 1) := by decide +kernel
theorem dL_law_1456 : decode cL_law 1456 = .ok (.aload_n 0, 1) := by decide +kernel
theorem dL_law_1457 : decode cL_law 1457 = .ok (.iload_n 3, 1) := by decide +kernel
theorem dL_law_1458 : decode cL_law 1458 = .ok (.iconst 2, 1) := by decide +kernel
theorem dL_law_1459 : decode cL_law 1459 = .ok (.iadd, 1) := by decide +kernel
theorem dL_law_1460 : decode cL_law 1460 = .ok (.iaload, 1) := by decide +kernel
theorem dL_law_1461 : decode cL_law 1461 = .ok (.invokevirtual 140, 3) := by decide +kernel
theorem dL_law_1464 : decode cL_law 1464 = .ok (.aload_n 2, 1) := by decide +kernel
theorem dL_law_1465 : decode cL_law 1465 = .ok (.aload_n 0, 1) := by decide +kernel
theorem dL_law_1466 : decode cL_law 1466 = .ok (.iload_n 3, 1) := by decide +kernel
theorem dL_law_1467 : decode cL_law 1467 = .ok (.iconst 1, 1) := by decide +kernel
theorem dL_law_1468 : decode cL_law 1468 = .ok (.iadd, 1) := by decide +kernel
theorem dL_law_1469 : decode cL_law 1469 = .ok (.iaload, 1) := by decide +kernel
theorem dL_law_1470 : decode cL_law 1470 = .ok (.aload_n 0, 1) := by decide +kernel
theorem dL_law_1471 : decode cL_law 1471 = .ok (.iload_n 3, 1) := by decide +kernel
theorem dL_law_1472 : decode cL_law 1472 = .ok (.iconst 2, 1) := by decide +kernel
theorem dL_law_1473 : decode cL_law 1473 = .ok (.iadd, 1) := by decide +kernel
theorem dL_law_1474 : decode cL_law 1474 = .ok (.iaload, 1) := by decide +kernel
theorem dL_law_1475 : decode cL_law 1475 = .ok (.invokevirtual 143, 3) := by decide +kernel
theorem dL_law_1478 : decode cL_law 1478 = .ok (.if_icmp .eq 421, 3) := by decide +kernel
theorem lb_140 : mz_MB RL 140 yX11_alike cX11_alike 5 (some .int) 2 := ⟨mz_tb 787 (by decide +kernel) rfl, mz_tb 40 (by decide +kernel) rfl, mz_tb 790 (by decide +kernel) rfl, by decide, by decide, by decide +kernel⟩
theorem li_X11_alike : Cond.instanceMethod yX11_alike ∈ mz_tbl ∧ Cond.selects RX11 yX11_alike yX11_alike ∈ mz_tbl := ⟨mz_tb 788 (by decide +kernel) rfl, mz_tb 789 (by decide +kernel) rfl⟩
theorem lb_143 : mz_MB RL 143 yX12_alike cX12_alike 5 (some .int) 2 := ⟨mz_tb 1352 (by decide +kernel) rfl, mz_tb 45 (by decide +kernel) rfl, mz_tb 1355 (by decide +kernel) rfl, by decide, by decide, by decide +kernel⟩
theorem li_X12_alike : Cond.instanceMethod yX12_alike ∈ mz_tbl ∧ Cond.selects RX12 yX12_alike yX12_alike ∈ mz_tbl := ⟨mz_tb 1353 (by decide +kernel) rfl, mz_tb 1354 (by decide +kernel) rfl⟩
section
variable {p : Program} {l : Launch} {e : Env} {s : State} {m : MethodId} {below : List Frame} {meth : Method} {c : Code} {H : Heap} {locs : List Loc} {cells slots : Nat} {Q : State → Prop} {ls : Array Slot} {g : mz_G} {b L : Nat} {xs : Nat → Int32} {VB o q k : Nat} {rs : mz_RS} {h : mz_H} {x3 : Int32}
set_option maxHeartbeats 4000000 in
set_option maxRecDepth 100000 in
theorem lc_29 (X : mz_X p g RL cL_law 4 (fun q : Nat => s.heap.size ≤ q) s m #[Value.ref b] c) (hX : va_X b L xs s s.heap) (hbl : b < s.heap.size) (hin : ∀ j : Nat, j < 8 → vp_in (x3 + nI j) L) (I : lw_I g s VB o q (k + 1) rs h H locs cells slots) (hl : mz_L ls 4 [(0, false, va_rf (some b)), (1, false, va_rf (some o)), (2, false, va_rf (some q)), (3, false, .int x3)]) (cont : ∀ rs' h' H' locs' cells' slots', lw_I g s VB o q k rs' h' H' locs' cells' slots' → W p l e room_1 s m #[Value.ref b] below meth c H' locs' cells' slots' Q (F0 m 1899 ls [])) : W p l e room_1 s m #[Value.ref b] below meth c H locs cells slots Q (F0 m 1450 ls []) := by
  have hbA : ¬ (fun q : Nat => s.heap.size ≤ q) b := Nat.not_le.mpr hbl
  obtain ⟨r, h', kk, n, rs', e1, e2, I', z1, z2, z3, z4⟩ := k_alike (q := q) I.1 (xs (x3 + 1).toNatClampNeg) (xs (x3 + 2).toNatClampNeg)
  refine mz_aload_n X dL_law_1450 rfl (mz_at hl 1 rfl) ?_
  refine mz_aload_n X dL_law_1451 rfl (mz_at hl 0 rfl) ?_
  refine lv_iload_n X.1 X.2.1 dL_law_1452 rfl (mz_at hl 3 rfl) ?_
  refine lv_iconst (v := 1) X.1 X.2.1 dL_law_1453 (by decide) ?_
  refine lv_iadd X.1 X.2.1 dL_law_1454 ?_
  refine va_sld X.1 X.2.1 hX hbl hbA I.2.1.2.2.2 (hin 1 (by decide)) dL_law_1455 ?_
  refine mz_aload_n X dL_law_1456 rfl (mz_at hl 0 rfl) ?_
  refine lv_iload_n X.1 X.2.1 dL_law_1457 rfl (mz_at hl 3 rfl) ?_
  refine lv_iconst (v := 2) X.1 X.2.1 dL_law_1458 (by decide) ?_
  refine lv_iadd X.1 X.2.1 dL_law_1459 ?_
  refine va_sld X.1 X.2.1 hX hbl hbA I.2.1.2.2.2 (hin 2 (by decide)) dL_law_1460 ?_
  refine lw_x X I.2.1 I.1.is hl.1.1 [.int (xs (x3 + 1).toNatClampNeg), .int (xs (x3 + 2).toNatClampNeg)] (ct_X11_alike l g h (some o) (xs (x3 + 1).toNatClampNeg) (xs (x3 + 2).toNatClampNeg) r h' kk n e1) lb_140 li_X11_alike rfl ⟨Nat.le_of_ble_eq_true rfl, Nat.le_of_ble_eq_true rfl⟩ (lw_bud I I' z2 z3 z4) dL_law_1461 rfl (fun H1 locs1 J => ?_)
  refine mz_aload_n X dL_law_1464 rfl (mz_at hl 2 rfl) ?_
  refine mz_aload_n X dL_law_1465 rfl (mz_at hl 0 rfl) ?_
  refine lv_iload_n X.1 X.2.1 dL_law_1466 rfl (mz_at hl 3 rfl) ?_
  refine lv_iconst (v := 1) X.1 X.2.1 dL_law_1467 (by decide) ?_
  refine lv_iadd X.1 X.2.1 dL_law_1468 ?_
  refine va_sld X.1 X.2.1 hX hbl hbA J.2.2.2 (hin 1 (by decide)) dL_law_1469 ?_
  refine mz_aload_n X dL_law_1470 rfl (mz_at hl 0 rfl) ?_
  refine lv_iload_n X.1 X.2.1 dL_law_1471 rfl (mz_at hl 3 rfl) ?_
  refine lv_iconst (v := 2) X.1 X.2.1 dL_law_1472 (by decide) ?_
  refine lv_iadd X.1 X.2.1 dL_law_1473 ?_
  refine va_sld X.1 X.2.1 hX hbl hbA J.2.2.2 (hin 2 (by decide)) dL_law_1474 ?_
  refine lw_m X J hl.1.1 [.int (xs (x3 + 1).toNatClampNeg), .int (xs (x3 + 2).toNatClampNeg)] (ct_X12_alike l g (mz_RH q h'.2 rs) (some q) (xs (x3 + 1).toNatClampNeg) (xs (x3 + 2).toNatClampNeg) r (mz_RH q h'.2 rs') 0 0 e2) lb_143 li_X12_alike rfl ⟨Nat.le_of_ble_eq_true rfl, Nat.le_of_ble_eq_true rfl⟩ (lw_bud I I' z2 z3 z4) dL_law_1475 rfl (fun H2 locs2 J2 => ?_)
  refine lv_icmp_eq (tgt := 1899) X.1 X.2.1 dL_law_1478 (by decide) (fun _ => ?_) (fun z => absurd rfl z)
  exact cont _ _ _ _ _ _ (lw_next I I' z2 z3 z4 J2)
end
theorem dL_law_1483 : decode cL_law 1483 = .ok (.aload_n 1, 1) := by decide +kernel
theorem dL_law_1484 : decode cL_law 1484 = .ok (.aload_n 0, 1) := by decide +kernel
theorem dL_law_1485 : decode cL_law 1485 = .ok (.iload_n 3, 1) := by decide +kernel
theorem dL_law_1486 : decode cL_law 1486 = .ok (.iconst 1, 1) := by decide +kernel
theorem dL_law_1487 : decode cL_law 1487 = .ok (.iadd, 1) := by decide +kernel
theorem dL_law_1488 : decode cL_law 1488 = .ok (.iaload, 1) := by decide +kernel
theorem dL_law_1489 : decode cL_law 1489 = .ok (.aload_n 0, 1) := by decide +kernel
theorem dL_law_1490 : decode cL_law 1490 = .ok (.iload_n 3, 1) := by decide +kernel
theorem dL_law_1491 : decode cL_law 1491 = .ok (.iconst 2, 1) := by decide +kernel
theorem dL_law_1492 : decode cL_law 1492 = .ok (.iadd, 1) := by decide +kernel
theorem dL_law_1493 : decode cL_law 1493 = .ok (.iaload, 1) := by decide +kernel
theorem dL_law_1494 : decode cL_law 1494 = .ok (.i2l, 1) := by decide +kernel
theorem dL_law_1495 : decode cL_law 1495 = .ok (.bipush 32, 2) := by decide +kernel
theorem dL_law_1497 : decode cL_law 1497 = .ok (.lshl, 1) := by decide +kernel
theorem dL_law_1498 : decode cL_law 1498 = .ok (.aload_n 0, 1) := by decide +kernel
theorem dL_law_1499 : decode cL_law 1499 = .ok (.iload_n 3, 1) := by decide +kernel
theorem dL_law_1500 : decode cL_law 1500 = .ok (.iconst 3, 1) := by decide +kernel
theorem dL_law_1501 : decode cL_law 1501 = .ok (.iadd, 1) := by decide +kernel
theorem dL_law_1502 : decode cL_law 1502 = .ok (.iaload, 1) := by decide +kernel
theorem dL_law_1503 : decode cL_law 1503 = .ok (.i2l, 1) := by decide +kernel
theorem dL_law_1504 : decode cL_law 1504 = .ok (.ldc2_w 107, 3) := by decide +kernel
theorem dL_law_1507 : decode cL_law 1507 = .ok (.land, 1) := by decide +kernel
theorem dL_law_1508 : decode cL_law 1508 = .ok (.lor, 1) := by decide +kernel
theorem dL_law_1509 : decode cL_law 1509 = .ok (.invokevirtual 144, 3) := by decide +kernel
theorem dL_law_1512 : decode cL_law 1512 = .ok (.aload_n 2, 1) := by decide +kernel
theorem dL_law_1513 : decode cL_law 1513 = .ok (.aload_n 0, 1) := by decide +kernel
theorem dL_law_1514 : decode cL_law 1514 = .ok (.iload_n 3, 1) := by decide +kernel
theorem dL_law_1515 : decode cL_law 1515 = .ok (.iconst 1, 1) := by decide +kernel
theorem dL_law_1516 : decode cL_law 1516 = .ok (.iadd, 1) := by decide +kernel
theorem dL_law_1517 : decode cL_law 1517 = .ok (.iaload, 1) := by decide +kernel
theorem dL_law_1518 : decode cL_law 1518 = .ok (.aload_n 0, 1) := by decide +kernel
theorem dL_law_1519 : decode cL_law 1519 = .ok (.iload_n 3, 1) := by decide +kernel
theorem dL_law_1520 : decode cL_law 1520 = .ok (.iconst 2, 1) := by decide +kernel
theorem dL_law_1521 : decode cL_law 1521 = .ok (.iadd, 1) := by decide +kernel
theorem dL_law_1522 : decode cL_law 1522 = .ok (.iaload, 1) := by decide +kernel
theorem dL_law_1523 : decode cL_law 1523 = .ok (.i2l, 1) := by decide +kernel
theorem dL_law_1524 : decode cL_law 1524 = .ok (.bipush 32, 2) := by decide +kernel
theorem dL_law_1526 : decode cL_law 1526 = .ok (.lshl, 1) := by decide +kernel
theorem dL_law_1527 : decode cL_law 1527 = .ok (.aload_n 0, 1) := by decide +kernel
theorem dL_law_1528 : decode cL_law 1528 = .ok (.iload_n 3, 1) := by decide +kernel
theorem dL_law_1529 : decode cL_law 1529 = .ok (.iconst 3, 1) := by decide +kernel
theorem dL_law_1530 : decode cL_law 1530 = .ok (.iadd, 1) := by decide +kernel
theorem dL_law_1531 : decode cL_law 1531 = .ok (.iaload, 1) := by decide +kernel
theorem dL_law_1532 : decode cL_law 1532 = .ok (.i2l, 1) := by decide +kernel
theorem dL_law_1533 : decode cL_law 1533 = .ok (.ldc2_w 107, 3) := by decide +kernel
theorem dL_law_1536 : decode cL_law 1536 = .ok (.land, 1) := by decide +kernel
theorem dL_law_1537 : decode cL_law 1537 = .ok (.lor, 1) := by decide +kernel
theorem dL_law_1538 : decode cL_law 1538 = .ok (.invokevirtual 148, 3) := by decide +kernel
theorem dL_law_1541 : decode cL_law 1541 = .ok (.if_icmp .eq 358, 3) := by decide +kernel
theorem lb_144 : mz_MB RL 144 yX11_find cX11_find 6 (some .int) 2 := ⟨mz_tb 806 (by decide +kernel) rfl, mz_tb 40 (by decide +kernel) rfl, mz_tb 809 (by decide +kernel) rfl, by decide, by decide, by decide +kernel⟩
theorem li_X11_find : Cond.instanceMethod yX11_find ∈ mz_tbl ∧ Cond.selects RX11 yX11_find yX11_find ∈ mz_tbl := ⟨mz_tb 807 (by decide +kernel) rfl, mz_tb 808 (by decide +kernel) rfl⟩
theorem lb_148 : mz_MB RL 148 yX12_find cX12_find 8 (some .int) 2 := ⟨mz_tb 1364 (by decide +kernel) rfl, mz_tb 45 (by decide +kernel) rfl, mz_tb 1367 (by decide +kernel) rfl, by decide, by decide, by decide +kernel⟩
theorem li_X12_find : Cond.instanceMethod yX12_find ∈ mz_tbl ∧ Cond.selects RX12 yX12_find yX12_find ∈ mz_tbl := ⟨mz_tb 1365 (by decide +kernel) rfl, mz_tb 1366 (by decide +kernel) rfl⟩
section
variable {p : Program} {l : Launch} {e : Env} {s : State} {m : MethodId} {below : List Frame} {meth : Method} {c : Code} {H : Heap} {locs : List Loc} {cells slots : Nat} {Q : State → Prop} {ls : Array Slot} {g : mz_G} {b L : Nat} {xs : Nat → Int32} {VB o q k : Nat} {rs : mz_RS} {h : mz_H} {x3 : Int32}
set_option maxHeartbeats 4000000 in
set_option maxRecDepth 100000 in
theorem lc_30 (X : mz_X p g RL cL_law 4 (fun q : Nat => s.heap.size ≤ q) s m #[Value.ref b] c) (hX : va_X b L xs s s.heap) (hbl : b < s.heap.size) (hin : ∀ j : Nat, j < 8 → vp_in (x3 + nI j) L) (I : lw_I g s VB o q (k + 1) rs h H locs cells slots) (hl : mz_L ls 4 [(0, false, va_rf (some b)), (1, false, va_rf (some o)), (2, false, va_rf (some q)), (3, false, .int x3)]) (cont : ∀ rs' h' H' locs' cells' slots', lw_I g s VB o q k rs' h' H' locs' cells' slots' → W p l e room_1 s m #[Value.ref b] below meth c H' locs' cells' slots' Q (F0 m 1899 ls [])) : W p l e room_1 s m #[Value.ref b] below meth c H locs cells slots Q (F0 m 1483 ls []) := by
  have hbA : ¬ (fun q : Nat => s.heap.size ≤ q) b := Nat.not_le.mpr hbl
  obtain ⟨r, h', kk, n, rs', e1, e2, I', z1, z2, z3, z4⟩ := k_find (q := q) I.1 (xs (x3 + 1).toNatClampNeg) ((mz_shl (((xs (x3 + 2).toNatClampNeg) : Int32).toInt64) 32) ||| ((((xs (x3 + 3).toNatClampNeg) : Int32).toInt64) &&& 4294967295))
  refine mz_aload_n X dL_law_1483 rfl (mz_at hl 1 rfl) ?_
  refine mz_aload_n X dL_law_1484 rfl (mz_at hl 0 rfl) ?_
  refine lv_iload_n X.1 X.2.1 dL_law_1485 rfl (mz_at hl 3 rfl) ?_
  refine lv_iconst (v := 1) X.1 X.2.1 dL_law_1486 (by decide) ?_
  refine lv_iadd X.1 X.2.1 dL_law_1487 ?_
  refine va_sld X.1 X.2.1 hX hbl hbA I.2.1.2.2.2 (hin 1 (by decide)) dL_law_1488 ?_
  refine mz_aload_n X dL_law_1489 rfl (mz_at hl 0 rfl) ?_
  refine lv_iload_n X.1 X.2.1 dL_law_1490 rfl (mz_at hl 3 rfl) ?_
  refine lv_iconst (v := 2) X.1 X.2.1 dL_law_1491 (by decide) ?_
  refine lv_iadd X.1 X.2.1 dL_law_1492 ?_
  refine va_sld X.1 X.2.1 hX hbl hbA I.2.1.2.2.2 (hin 2 (by decide)) dL_law_1493 ?_
  refine lv_i2l (v := (((xs (x3 + 2).toNatClampNeg) : Int32).toInt64)) X.1 X.2.1 dL_law_1494 rfl ?_
  refine lv_bipush (v := 32) X.1 X.2.1 dL_law_1495 (by decide) ?_
  refine lv_lshl (v := (mz_shl (((xs (x3 + 2).toNatClampNeg) : Int32).toInt64) 32)) X.1 X.2.1 dL_law_1497 rfl ?_
  refine mz_aload_n X dL_law_1498 rfl (mz_at hl 0 rfl) ?_
  refine lv_iload_n X.1 X.2.1 dL_law_1499 rfl (mz_at hl 3 rfl) ?_
  refine lv_iconst (v := 3) X.1 X.2.1 dL_law_1500 (by decide) ?_
  refine lv_iadd X.1 X.2.1 dL_law_1501 ?_
  refine va_sld X.1 X.2.1 hX hbl hbA I.2.1.2.2.2 (hin 3 (by decide)) dL_law_1502 ?_
  refine lv_i2l (v := (((xs (x3 + 3).toNatClampNeg) : Int32).toInt64)) X.1 X.2.1 dL_law_1503 rfl ?_
  refine mz_ldc2 (v := 4294967295) X (mz_tb 1422 (by decide +kernel) rfl) dL_law_1504 ?_
  refine lv_land X.1 X.2.1 dL_law_1507 ?_
  refine lv_lor X.1 X.2.1 dL_law_1508 ?_
  refine lw_x X I.2.1 I.1.is hl.1.1 [.int (xs (x3 + 1).toNatClampNeg), .long ((mz_shl (((xs (x3 + 2).toNatClampNeg) : Int32).toInt64) 32) ||| ((((xs (x3 + 3).toNatClampNeg) : Int32).toInt64) &&& 4294967295))] (ct_X11_find l g h (some o) (xs (x3 + 1).toNatClampNeg) ((mz_shl (((xs (x3 + 2).toNatClampNeg) : Int32).toInt64) 32) ||| ((((xs (x3 + 3).toNatClampNeg) : Int32).toInt64) &&& 4294967295)) r h' kk n e1) lb_144 li_X11_find rfl ⟨Nat.le_of_ble_eq_true rfl, Nat.le_of_ble_eq_true rfl⟩ (lw_bud I I' z2 z3 z4) dL_law_1509 rfl (fun H1 locs1 J => ?_)
  refine mz_aload_n X dL_law_1512 rfl (mz_at hl 2 rfl) ?_
  refine mz_aload_n X dL_law_1513 rfl (mz_at hl 0 rfl) ?_
  refine lv_iload_n X.1 X.2.1 dL_law_1514 rfl (mz_at hl 3 rfl) ?_
  refine lv_iconst (v := 1) X.1 X.2.1 dL_law_1515 (by decide) ?_
  refine lv_iadd X.1 X.2.1 dL_law_1516 ?_
  refine va_sld X.1 X.2.1 hX hbl hbA J.2.2.2 (hin 1 (by decide)) dL_law_1517 ?_
  refine mz_aload_n X dL_law_1518 rfl (mz_at hl 0 rfl) ?_
  refine lv_iload_n X.1 X.2.1 dL_law_1519 rfl (mz_at hl 3 rfl) ?_
  refine lv_iconst (v := 2) X.1 X.2.1 dL_law_1520 (by decide) ?_
  refine lv_iadd X.1 X.2.1 dL_law_1521 ?_
  refine va_sld X.1 X.2.1 hX hbl hbA J.2.2.2 (hin 2 (by decide)) dL_law_1522 ?_
  refine lv_i2l (v := (((xs (x3 + 2).toNatClampNeg) : Int32).toInt64)) X.1 X.2.1 dL_law_1523 rfl ?_
  refine lv_bipush (v := 32) X.1 X.2.1 dL_law_1524 (by decide) ?_
  refine lv_lshl (v := (mz_shl (((xs (x3 + 2).toNatClampNeg) : Int32).toInt64) 32)) X.1 X.2.1 dL_law_1526 rfl ?_
  refine mz_aload_n X dL_law_1527 rfl (mz_at hl 0 rfl) ?_
  refine lv_iload_n X.1 X.2.1 dL_law_1528 rfl (mz_at hl 3 rfl) ?_
  refine lv_iconst (v := 3) X.1 X.2.1 dL_law_1529 (by decide) ?_
  refine lv_iadd X.1 X.2.1 dL_law_1530 ?_
  refine va_sld X.1 X.2.1 hX hbl hbA J.2.2.2 (hin 3 (by decide)) dL_law_1531 ?_
  refine lv_i2l (v := (((xs (x3 + 3).toNatClampNeg) : Int32).toInt64)) X.1 X.2.1 dL_law_1532 rfl ?_
  refine mz_ldc2 (v := 4294967295) X (mz_tb 1422 (by decide +kernel) rfl) dL_law_1533 ?_
  refine lv_land X.1 X.2.1 dL_law_1536 ?_
  refine lv_lor X.1 X.2.1 dL_law_1537 ?_
  refine lw_m X J hl.1.1 [.int (xs (x3 + 1).toNatClampNeg), .long ((mz_shl (((xs (x3 + 2).toNatClampNeg) : Int32).toInt64) 32) ||| ((((xs (x3 + 3).toNatClampNeg) : Int32).toInt64) &&& 4294967295))] (ct_X12_find l g (mz_RH q h'.2 rs) (some q) (xs (x3 + 1).toNatClampNeg) ((mz_shl (((xs (x3 + 2).toNatClampNeg) : Int32).toInt64) 32) ||| ((((xs (x3 + 3).toNatClampNeg) : Int32).toInt64) &&& 4294967295)) r (mz_RH q h'.2 rs') 0 0 e2) lb_148 li_X12_find rfl ⟨Nat.le_of_ble_eq_true rfl, Nat.le_of_ble_eq_true rfl⟩ (lw_bud I I' z2 z3 z4) dL_law_1538 rfl (fun H2 locs2 J2 => ?_)
  refine lv_icmp_eq (tgt := 1899) X.1 X.2.1 dL_law_1541 (by decide) (fun _ => ?_) (fun z => absurd rfl z)
  exact cont _ _ _ _ _ _ (lw_next I I' z2 z3 z4 J2)
end
theorem dL_law_1546 : decode cL_law 1546 = .ok (.aload_n 1, 1) := by decide +kernel
theorem dL_law_1547 : decode cL_law 1547 = .ok (.aload_n 0, 1) := by decide +kernel
theorem dL_law_1548 : decode cL_law 1548 = .ok (.iload_n 3, 1) := by decide +kernel
theorem dL_law_1549 : decode cL_law 1549 = .ok (.iconst 1, 1) := by decide +kernel
theorem dL_law_1550 : decode cL_law 1550 = .ok (.iadd, 1) := by decide +kernel
theorem dL_law_1551 : decode cL_law 1551 = .ok (.iaload, 1) := by decide +kernel
theorem dL_law_1552 : decode cL_law 1552 = .ok (.aload_n 0, 1) := by decide +kernel
theorem dL_law_1553 : decode cL_law 1553 = .ok (.iload_n 3, 1) := by decide +kernel
theorem dL_law_1554 : decode cL_law 1554 = .ok (.iconst 2, 1) := by decide +kernel
theorem dL_law_1555 : decode cL_law 1555 = .ok (.iadd, 1) := by decide +kernel
theorem dL_law_1556 : decode cL_law 1556 = .ok (.iaload, 1) := by decide +kernel
theorem dL_law_1557 : decode cL_law 1557 = .ok (.aload_n 0, 1) := by decide +kernel
theorem dL_law_1558 : decode cL_law 1558 = .ok (.iload_n 3, 1) := by decide +kernel
theorem dL_law_1559 : decode cL_law 1559 = .ok (.iconst 3, 1) := by decide +kernel
theorem dL_law_1560 : decode cL_law 1560 = .ok (.iadd, 1) := by decide +kernel
theorem dL_law_1561 : decode cL_law 1561 = .ok (.iaload, 1) := by decide +kernel
theorem dL_law_1562 : decode cL_law 1562 = .ok (.invokevirtual 149, 3) := by decide +kernel
theorem dL_law_1565 : decode cL_law 1565 = .ok (.aload_n 2, 1) := by decide +kernel
theorem dL_law_1566 : decode cL_law 1566 = .ok (.aload_n 0, 1) := by decide +kernel
theorem dL_law_1567 : decode cL_law 1567 = .ok (.iload_n 3, 1) := by decide +kernel
theorem dL_law_1568 : decode cL_law 1568 = .ok (.iconst 1, 1) := by decide +kernel
theorem dL_law_1569 : decode cL_law 1569 = .ok (.iadd, 1) := by decide +kernel
theorem dL_law_1570 : decode cL_law 1570 = .ok (.iaload, 1) := by decide +kernel
theorem dL_law_1571 : decode cL_law 1571 = .ok (.aload_n 0, 1) := by decide +kernel
theorem dL_law_1572 : decode cL_law 1572 = .ok (.iload_n 3, 1) := by decide +kernel
theorem dL_law_1573 : decode cL_law 1573 = .ok (.iconst 2, 1) := by decide +kernel
theorem dL_law_1574 : decode cL_law 1574 = .ok (.iadd, 1) := by decide +kernel
theorem dL_law_1575 : decode cL_law 1575 = .ok (.iaload, 1) := by decide +kernel
theorem dL_law_1576 : decode cL_law 1576 = .ok (.aload_n 0, 1) := by decide +kernel
theorem dL_law_1577 : decode cL_law 1577 = .ok (.iload_n 3, 1) := by decide +kernel
theorem dL_law_1578 : decode cL_law 1578 = .ok (.iconst 3, 1) := by decide +kernel
theorem dL_law_1579 : decode cL_law 1579 = .ok (.iadd, 1) := by decide +kernel
theorem dL_law_1580 : decode cL_law 1580 = .ok (.iaload, 1) := by decide +kernel
theorem dL_law_1581 : decode cL_law 1581 = .ok (.invokevirtual 152, 3) := by decide +kernel
theorem dL_law_1584 : decode cL_law 1584 = .ok (.if_icmp .eq 315, 3) := by decide +kernel
theorem lb_149 : mz_MB RL 149 yX11_column cX11_column 6 (some .int) 3 := ⟨mz_tb 815 (by decide +kernel) rfl, mz_tb 40 (by decide +kernel) rfl, mz_tb 818 (by decide +kernel) rfl, by decide, by decide, by decide +kernel⟩
theorem li_X11_column : Cond.instanceMethod yX11_column ∈ mz_tbl ∧ Cond.selects RX11 yX11_column yX11_column ∈ mz_tbl := ⟨mz_tb 816 (by decide +kernel) rfl, mz_tb 817 (by decide +kernel) rfl⟩
theorem lb_152 : mz_MB RL 152 yX12_column cX12_column 8 (some .int) 3 := ⟨mz_tb 1368 (by decide +kernel) rfl, mz_tb 45 (by decide +kernel) rfl, mz_tb 1371 (by decide +kernel) rfl, by decide, by decide, by decide +kernel⟩
theorem li_X12_column : Cond.instanceMethod yX12_column ∈ mz_tbl ∧ Cond.selects RX12 yX12_column yX12_column ∈ mz_tbl := ⟨mz_tb 1369 (by decide +kernel) rfl, mz_tb 1370 (by decide +kernel) rfl⟩
section
variable {p : Program} {l : Launch} {e : Env} {s : State} {m : MethodId} {below : List Frame} {meth : Method} {c : Code} {H : Heap} {locs : List Loc} {cells slots : Nat} {Q : State → Prop} {ls : Array Slot} {g : mz_G} {b L : Nat} {xs : Nat → Int32} {VB o q k : Nat} {rs : mz_RS} {h : mz_H} {x3 : Int32}
set_option maxHeartbeats 4000000 in
set_option maxRecDepth 100000 in
theorem lc_31 (X : mz_X p g RL cL_law 4 (fun q : Nat => s.heap.size ≤ q) s m #[Value.ref b] c) (hX : va_X b L xs s s.heap) (hbl : b < s.heap.size) (hin : ∀ j : Nat, j < 8 → vp_in (x3 + nI j) L) (I : lw_I g s VB o q (k + 1) rs h H locs cells slots) (hl : mz_L ls 4 [(0, false, va_rf (some b)), (1, false, va_rf (some o)), (2, false, va_rf (some q)), (3, false, .int x3)]) (cont : ∀ rs' h' H' locs' cells' slots', lw_I g s VB o q k rs' h' H' locs' cells' slots' → W p l e room_1 s m #[Value.ref b] below meth c H' locs' cells' slots' Q (F0 m 1899 ls [])) : W p l e room_1 s m #[Value.ref b] below meth c H locs cells slots Q (F0 m 1546 ls []) := by
  have hbA : ¬ (fun q : Nat => s.heap.size ≤ q) b := Nat.not_le.mpr hbl
  obtain ⟨r, h', kk, n, rs', e1, e2, I', z1, z2, z3, z4⟩ := k_column (q := q) I.1 (xs (x3 + 1).toNatClampNeg) (xs (x3 + 2).toNatClampNeg) (xs (x3 + 3).toNatClampNeg)
  refine mz_aload_n X dL_law_1546 rfl (mz_at hl 1 rfl) ?_
  refine mz_aload_n X dL_law_1547 rfl (mz_at hl 0 rfl) ?_
  refine lv_iload_n X.1 X.2.1 dL_law_1548 rfl (mz_at hl 3 rfl) ?_
  refine lv_iconst (v := 1) X.1 X.2.1 dL_law_1549 (by decide) ?_
  refine lv_iadd X.1 X.2.1 dL_law_1550 ?_
  refine va_sld X.1 X.2.1 hX hbl hbA I.2.1.2.2.2 (hin 1 (by decide)) dL_law_1551 ?_
  refine mz_aload_n X dL_law_1552 rfl (mz_at hl 0 rfl) ?_
  refine lv_iload_n X.1 X.2.1 dL_law_1553 rfl (mz_at hl 3 rfl) ?_
  refine lv_iconst (v := 2) X.1 X.2.1 dL_law_1554 (by decide) ?_
  refine lv_iadd X.1 X.2.1 dL_law_1555 ?_
  refine va_sld X.1 X.2.1 hX hbl hbA I.2.1.2.2.2 (hin 2 (by decide)) dL_law_1556 ?_
  refine mz_aload_n X dL_law_1557 rfl (mz_at hl 0 rfl) ?_
  refine lv_iload_n X.1 X.2.1 dL_law_1558 rfl (mz_at hl 3 rfl) ?_
  refine lv_iconst (v := 3) X.1 X.2.1 dL_law_1559 (by decide) ?_
  refine lv_iadd X.1 X.2.1 dL_law_1560 ?_
  refine va_sld X.1 X.2.1 hX hbl hbA I.2.1.2.2.2 (hin 3 (by decide)) dL_law_1561 ?_
  refine lw_x X I.2.1 I.1.is hl.1.1 [.int (xs (x3 + 1).toNatClampNeg), .int (xs (x3 + 2).toNatClampNeg), .int (xs (x3 + 3).toNatClampNeg)] (ct_X11_column l g h (some o) (xs (x3 + 1).toNatClampNeg) (xs (x3 + 2).toNatClampNeg) (xs (x3 + 3).toNatClampNeg) r h' kk n e1) lb_149 li_X11_column rfl ⟨Nat.le_of_ble_eq_true rfl, Nat.le_of_ble_eq_true rfl⟩ (lw_bud I I' z2 z3 z4) dL_law_1562 rfl (fun H1 locs1 J => ?_)
  refine mz_aload_n X dL_law_1565 rfl (mz_at hl 2 rfl) ?_
  refine mz_aload_n X dL_law_1566 rfl (mz_at hl 0 rfl) ?_
  refine lv_iload_n X.1 X.2.1 dL_law_1567 rfl (mz_at hl 3 rfl) ?_
  refine lv_iconst (v := 1) X.1 X.2.1 dL_law_1568 (by decide) ?_
  refine lv_iadd X.1 X.2.1 dL_law_1569 ?_
  refine va_sld X.1 X.2.1 hX hbl hbA J.2.2.2 (hin 1 (by decide)) dL_law_1570 ?_
  refine mz_aload_n X dL_law_1571 rfl (mz_at hl 0 rfl) ?_
  refine lv_iload_n X.1 X.2.1 dL_law_1572 rfl (mz_at hl 3 rfl) ?_
  refine lv_iconst (v := 2) X.1 X.2.1 dL_law_1573 (by decide) ?_
  refine lv_iadd X.1 X.2.1 dL_law_1574 ?_
  refine va_sld X.1 X.2.1 hX hbl hbA J.2.2.2 (hin 2 (by decide)) dL_law_1575 ?_
  refine mz_aload_n X dL_law_1576 rfl (mz_at hl 0 rfl) ?_
  refine lv_iload_n X.1 X.2.1 dL_law_1577 rfl (mz_at hl 3 rfl) ?_
  refine lv_iconst (v := 3) X.1 X.2.1 dL_law_1578 (by decide) ?_
  refine lv_iadd X.1 X.2.1 dL_law_1579 ?_
  refine va_sld X.1 X.2.1 hX hbl hbA J.2.2.2 (hin 3 (by decide)) dL_law_1580 ?_
  refine lw_m X J hl.1.1 [.int (xs (x3 + 1).toNatClampNeg), .int (xs (x3 + 2).toNatClampNeg), .int (xs (x3 + 3).toNatClampNeg)] (ct_X12_column l g (mz_RH q h'.2 rs) (some q) (xs (x3 + 1).toNatClampNeg) (xs (x3 + 2).toNatClampNeg) (xs (x3 + 3).toNatClampNeg) r (mz_RH q h'.2 rs') 0 0 e2) lb_152 li_X12_column rfl ⟨Nat.le_of_ble_eq_true rfl, Nat.le_of_ble_eq_true rfl⟩ (lw_bud I I' z2 z3 z4) dL_law_1581 rfl (fun H2 locs2 J2 => ?_)
  refine lv_icmp_eq (tgt := 1899) X.1 X.2.1 dL_law_1584 (by decide) (fun _ => ?_) (fun z => absurd rfl z)
  exact cont _ _ _ _ _ _ (lw_next I I' z2 z3 z4 J2)
end
theorem dL_law_1589 : decode cL_law 1589 = .ok (.aload_n 1, 1) := by decide +kernel
theorem dL_law_1590 : decode cL_law 1590 = .ok (.aload_n 0, 1) := by decide +kernel
theorem dL_law_1591 : decode cL_law 1591 = .ok (.iload_n 3, 1) := by decide +kernel
theorem dL_law_1592 : decode cL_law 1592 = .ok (.iconst 1, 1) := by decide +kernel
theorem dL_law_1593 : decode cL_law 1593 = .ok (.iadd, 1) := by decide +kernel
theorem dL_law_1594 : decode cL_law 1594 = .ok (.iaload, 1) := by decide +kernel
theorem dL_law_1595 : decode cL_law 1595 = .ok (.invokevirtual 153, 3) := by decide +kernel
theorem dL_law_1598 : decode cL_law 1598 = .ok (.aload_n 2, 1) := by decide +kernel
theorem dL_law_1599 : decode cL_law 1599 = .ok (.aload_n 0, 1) := by decide +kernel
theorem dL_law_1600 : decode cL_law 1600 = .ok (.iload_n 3, 1) := by decide +kernel
theorem dL_law_1601 : decode cL_law 1601 = .ok (.iconst 1, 1) := by decide +kernel
theorem dL_law_1602 : decode cL_law 1602 = .ok (.iadd, 1) := by decide +kernel
theorem dL_law_1603 : decode cL_law 1603 = .ok (.iaload, 1) := by decide +kernel
theorem dL_law_1604 : decode cL_law 1604 = .ok (.invokevirtual 157, 3) := by decide +kernel
theorem dL_law_1607 : decode cL_law 1607 = .ok (.lcmp, 1) := by decide +kernel
theorem dL_law_1608 : decode cL_law 1608 = .ok (.ifCond .eq 291, 3) := by decide +kernel
theorem lb_153 : mz_MB RL 153 yX11_cell cX11_cell 2 (some .long) 1 := ⟨mz_tb 834 (by decide +kernel) rfl, mz_tb 40 (by decide +kernel) rfl, mz_tb 837 (by decide +kernel) rfl, by decide, by decide, by decide +kernel⟩
theorem li_X11_cell : Cond.instanceMethod yX11_cell ∈ mz_tbl ∧ Cond.selects RX11 yX11_cell yX11_cell ∈ mz_tbl := ⟨mz_tb 835 (by decide +kernel) rfl, mz_tb 836 (by decide +kernel) rfl⟩
theorem lb_157 : mz_MB RL 157 yX12_cell cX12_cell 2 (some .long) 1 := ⟨mz_tb 1372 (by decide +kernel) rfl, mz_tb 45 (by decide +kernel) rfl, mz_tb 1375 (by decide +kernel) rfl, by decide, by decide, by decide +kernel⟩
theorem li_X12_cell : Cond.instanceMethod yX12_cell ∈ mz_tbl ∧ Cond.selects RX12 yX12_cell yX12_cell ∈ mz_tbl := ⟨mz_tb 1373 (by decide +kernel) rfl, mz_tb 1374 (by decide +kernel) rfl⟩
section
variable {p : Program} {l : Launch} {e : Env} {s : State} {m : MethodId} {below : List Frame} {meth : Method} {c : Code} {H : Heap} {locs : List Loc} {cells slots : Nat} {Q : State → Prop} {ls : Array Slot} {g : mz_G} {b L : Nat} {xs : Nat → Int32} {VB o q k : Nat} {rs : mz_RS} {h : mz_H} {x3 : Int32}
set_option maxHeartbeats 4000000 in
set_option maxRecDepth 100000 in
theorem lc_32 (X : mz_X p g RL cL_law 4 (fun q : Nat => s.heap.size ≤ q) s m #[Value.ref b] c) (hX : va_X b L xs s s.heap) (hbl : b < s.heap.size) (hin : ∀ j : Nat, j < 8 → vp_in (x3 + nI j) L) (I : lw_I g s VB o q (k + 1) rs h H locs cells slots) (hl : mz_L ls 4 [(0, false, va_rf (some b)), (1, false, va_rf (some o)), (2, false, va_rf (some q)), (3, false, .int x3)]) (cont : ∀ rs' h' H' locs' cells' slots', lw_I g s VB o q k rs' h' H' locs' cells' slots' → W p l e room_1 s m #[Value.ref b] below meth c H' locs' cells' slots' Q (F0 m 1899 ls [])) : W p l e room_1 s m #[Value.ref b] below meth c H locs cells slots Q (F0 m 1589 ls []) := by
  have hbA : ¬ (fun q : Nat => s.heap.size ≤ q) b := Nat.not_le.mpr hbl
  obtain ⟨r, h', kk, n, rs', e1, e2, I', z1, z2, z3, z4⟩ := k_cell (q := q) I.1 (xs (x3 + 1).toNatClampNeg)
  refine mz_aload_n X dL_law_1589 rfl (mz_at hl 1 rfl) ?_
  refine mz_aload_n X dL_law_1590 rfl (mz_at hl 0 rfl) ?_
  refine lv_iload_n X.1 X.2.1 dL_law_1591 rfl (mz_at hl 3 rfl) ?_
  refine lv_iconst (v := 1) X.1 X.2.1 dL_law_1592 (by decide) ?_
  refine lv_iadd X.1 X.2.1 dL_law_1593 ?_
  refine va_sld X.1 X.2.1 hX hbl hbA I.2.1.2.2.2 (hin 1 (by decide)) dL_law_1594 ?_
  refine lw_x X I.2.1 I.1.is hl.1.1 [.int (xs (x3 + 1).toNatClampNeg)] (ct_X11_cell l g h (some o) (xs (x3 + 1).toNatClampNeg) r h' kk n e1) lb_153 li_X11_cell rfl ⟨Nat.le_of_ble_eq_true rfl, Nat.le_of_ble_eq_true rfl⟩ (lw_bud I I' z2 z3 z4) dL_law_1595 rfl (fun H1 locs1 J => ?_)
  refine mz_aload_n X dL_law_1598 rfl (mz_at hl 2 rfl) ?_
  refine mz_aload_n X dL_law_1599 rfl (mz_at hl 0 rfl) ?_
  refine lv_iload_n X.1 X.2.1 dL_law_1600 rfl (mz_at hl 3 rfl) ?_
  refine lv_iconst (v := 1) X.1 X.2.1 dL_law_1601 (by decide) ?_
  refine lv_iadd X.1 X.2.1 dL_law_1602 ?_
  refine va_sld X.1 X.2.1 hX hbl hbA J.2.2.2 (hin 1 (by decide)) dL_law_1603 ?_
  refine lw_m X J hl.1.1 [.int (xs (x3 + 1).toNatClampNeg)] (ct_X12_cell l g (mz_RH q h'.2 rs) (some q) (xs (x3 + 1).toNatClampNeg) r (mz_RH q h'.2 rs') 0 0 e2) lb_157 li_X12_cell rfl ⟨Nat.le_of_ble_eq_true rfl, Nat.le_of_ble_eq_true rfl⟩ (lw_bud I I' z2 z3 z4) dL_law_1604 rfl (fun H2 locs2 J2 => ?_)
  refine W.lcmp X.1 X.2.1 dL_law_1607 ?_
  refine lv_if_eq (tgt := 1899) X.1 X.2.1 dL_law_1608 (by decide) (fun _ => ?_) (fun z => absurd ((lg_cmp_eq r r).mpr rfl) z)
  exact cont _ _ _ _ _ _ (lw_next I I' z2 z3 z4 J2)
end
