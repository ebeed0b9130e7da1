theorem dL_law_1281 : decode code 1281 = .ok (.aload_n 1, 1) := by decide +kernel
theorem dL_law_1282 : decode code 1282 = .ok (.aload_n 0, 1) := by decide +kernel
theorem dL_law_1283 : decode code 1283 = .ok (.iload_n 3, 1) := by decide +kernel
theorem dL_law_1284 : decode code 1284 = .ok (.iconst 1, 1) := by decide +kernel
theorem dL_law_1285 : decode code 1285 = .ok (.iadd, 1) := by decide +kernel
theorem dL_law_1286 : decode code 1286 = .ok (.iaload, 1) := by decide +kernel
theorem dL_law_1287 : decode code 1287 = .ok (.aload_n 0, 1) := by decide +kernel
theorem dL_law_1288 : decode code 1288 = .ok (.iload_n 3, 1) := by decide +kernel
theorem dL_law_1289 : decode code 1289 = .ok (.iconst 2, 1) := by decide +kernel
theorem dL_law_1290 : decode code 1290 = .ok (.iadd, 1) := by decide +kernel
theorem dL_law_1291 : decode code 1291 = .ok (.iaload, 1) := by decide +kernel
theorem dL_law_1292 : decode code 1292 = .ok (.aload_n 0, 1) := by decide +kernel
theorem dL_law_1293 : decode code 1293 = .ok (.iload_n 3, 1) := by decide +kernel
theorem dL_law_1294 : decode code 1294 = .ok (.iconst 3, 1) := by decide +kernel
theorem dL_law_1295 : decode code 1295 = .ok (.iadd, 1) := by decide +kernel
theorem dL_law_1296 : decode code 1296 = .ok (.iaload, 1) := by decide +kernel
theorem dL_law_1297 : decode code 1297 = .ok (.invokevirtual 120, 3) := by decide +kernel
theorem dL_law_1300 : decode code 1300 = .ok (.aload_n 2, 1) := by decide +kernel
theorem dL_law_1301 : decode code 1301 = .ok (.aload_n 0, 1) := by decide +kernel
theorem dL_law_1302 : decode code 1302 = .ok (.iload_n 3, 1) := by decide +kernel
theorem dL_law_1303 : decode code 1303 = .ok (.iconst 1, 1) := by decide +kernel
theorem dL_law_1304 : decode code 1304 = .ok (.iadd, 1) := by decide +kernel
theorem dL_law_1305 : decode code 1305 = .ok (.iaload, 1) := by decide +kernel
theorem dL_law_1306 : decode code 1306 = .ok (.aload_n 0, 1) := by decide +kernel
theorem dL_law_1307 : decode code 1307 = .ok (.iload_n 3, 1) := by decide +kernel
theorem dL_law_1308 : decode code 1308 = .ok (.iconst 2, 1) := by decide +kernel
theorem dL_law_1309 : decode code 1309 = .ok (.iadd, 1) := by decide +kernel
theorem dL_law_1310 : decode code 1310 = .ok (.iaload, 1) := by decide +kernel
theorem dL_law_1311 : decode code 1311 = .ok (.aload_n 0, 1) := by decide +kernel
theorem dL_law_1312 : decode code 1312 = .ok (.iload_n 3, 1) := by decide +kernel
theorem dL_law_1313 : decode code 1313 = .ok (.iconst 3, 1) := by decide +kernel
theorem dL_law_1314 : decode code 1314 = .ok (.iadd, 1) := by decide +kernel
theorem dL_law_1315 : decode code 1315 = .ok (.iaload, 1) := by decide +kernel
theorem dL_law_1316 : decode code 1316 = .ok (.invokevirtual 123, 3) := by decide +kernel
theorem dL_law_1319 : decode code 1319 = .ok (.lcmp, 1) := by decide +kernel
theorem dL_law_1320 : decode code 1320 = .ok (.ifCond .eq 831, 3) := by decide +kernel
theorem dL_law_1323 : decode code 1323 = .ok (.iconst 0, 1) := by decide +kernel
theorem dL_law_1324 : decode code 1324 = .ok (.ireturn, 1) := by decide +kernel
set_option maxRecDepth 100000 in
theorem law_c24 {z : ZZ} {x : XX} {Q : State → Prop} {k n : Nat} {ad : Nat → Nat} {b L i x0 m0 : Nat} {xs : Nat → Int32} {σ σ1 : MS} {τ τ1 : XS} {r : Int64} (hC : CX z ad x code RL 4 ret) (hR : x.2.2.1 = room_1) (hX : SX z x b L xs) (hx0 : ad 36 = x0) (hm0 : ad 0 = m0) (hi : i + 4 < L) (hk : k + 0 ≤ 600000 ∧ n + 0 ≤ 7302250) (hW : W_widow τ (xs (i + 1)) (xs (i + 2)) (xs (i + 3)) = some (r, τ1)) (hM : M_widow σ (xs (i + 1)) (xs (i + 2)) (xs (i + 3)) = some (r, σ1)) (kk : ∀ ad2, exL ad ad2 → AL z x 4 Q (k + 0 + 0) (n + 0 + 0) 2151 [(3, .int (Int32.ofNat i)), (1, .ref x0), (2, .ref m0), (0, .ref b)] [] (wX z σ1 ad2 τ1)) : AL z x 4 Q k n 1281 [(3, .int (Int32.ofNat i)), (1, .ref x0), (2, .ref m0), (0, .ref b)] [] (wX z σ ad τ) := by
  refine al_aload_n (j := 1) hC rfl rfl dL_law_1281 ?_
  refine al_aload_n (j := 3) hC rfl rfl dL_law_1282 ?_
  refine al_iload_n (j := 0) hC rfl rfl dL_law_1283 ?_
  refine al_iconst (v := 1) hC rfl dL_law_1284 ?_
  refine al_iadd hC dL_law_1285 ?_
  refine al_sld (j := i + 1) hC hX (Int32.ofNat_add i 1).symm (by omega) dL_law_1286 ?_
  refine al_aload_n (j := 3) hC rfl rfl dL_law_1287 ?_
  refine al_iload_n (j := 0) hC rfl rfl dL_law_1288 ?_
  refine al_iconst (v := 2) hC rfl dL_law_1289 ?_
  refine al_iadd hC dL_law_1290 ?_
  refine al_sld (j := i + 2) hC hX (Int32.ofNat_add i 2).symm (by omega) dL_law_1291 ?_
  refine al_aload_n (j := 3) hC rfl rfl dL_law_1292 ?_
  refine al_iload_n (j := 0) hC rfl rfl dL_law_1293 ?_
  refine al_iconst (v := 3) hC rfl dL_law_1294 ?_
  refine al_iadd hC dL_law_1295 ?_
  refine al_sld (j := i + 3) hC hX (Int32.ofNat_add i 3).symm (by omega) dL_law_1296 ?_
  refine al_callL (w := wX z σ) (As := [.int (xs (i + 1)), .int (xs (i + 2)), .int (xs (i + 3))]) (rest := []) (s0 := τ) (s1 := τ1) (r0 := r) (q := 36) hC hR lkl_120 (c_W_widow τ (xs (i + 1)) (xs (i + 2)) (xs (i + 3))) hW (fun _ _ h => eqA.L h) dL_law_1297 recX10 rfl rfl hx0 rfl ⟨by decide, by decide⟩ (Nat.le_of_ble_eq_true rfl) ⟨by omega, by omega⟩ ⟨_, rfl, fun _ => rfl⟩ (fun ad1 hE1 hC => ?_)
  have hm0 := (hE1 0 (by omega)).trans hm0
  show AL z x 4 Q (k + 0) (n + 0) _ _ _ (wM z τ1 ad1 σ)
  refine al_aload_n (j := 2) hC rfl rfl dL_law_1300 ?_
  refine al_aload_n (j := 3) hC rfl rfl dL_law_1301 ?_
  refine al_iload_n (j := 0) hC rfl rfl dL_law_1302 ?_
  refine al_iconst (v := 1) hC rfl dL_law_1303 ?_
  refine al_iadd hC dL_law_1304 ?_
  refine al_sld (j := i + 1) hC hX (Int32.ofNat_add i 1).symm (by omega) dL_law_1305 ?_
  refine al_aload_n (j := 3) hC rfl rfl dL_law_1306 ?_
  refine al_iload_n (j := 0) hC rfl rfl dL_law_1307 ?_
  refine al_iconst (v := 2) hC rfl dL_law_1308 ?_
  refine al_iadd hC dL_law_1309 ?_
  refine al_sld (j := i + 2) hC hX (Int32.ofNat_add i 2).symm (by omega) dL_law_1310 ?_
  refine al_aload_n (j := 3) hC rfl rfl dL_law_1311 ?_
  refine al_iload_n (j := 0) hC rfl rfl dL_law_1312 ?_
  refine al_iconst (v := 3) hC rfl dL_law_1313 ?_
  refine al_iadd hC dL_law_1314 ?_
  refine al_sld (j := i + 3) hC hX (Int32.ofNat_add i 3).symm (by omega) dL_law_1315 ?_
  refine al_callL (w := wM z τ1) (As := [.int (xs (i + 1)), .int (xs (i + 2)), .int (xs (i + 3))]) (rest := [.long r]) (s0 := σ) (s1 := σ1) (r0 := r) (q := 0) hC hR lkl_123 (c_M_widow σ (xs (i + 1)) (xs (i + 2)) (xs (i + 3))) hM (fun _ _ h => eqA.L h) dL_law_1316 recX11 rfl rfl hm0 rfl ⟨by decide, by decide⟩ (Nat.le_of_ble_eq_true rfl) ⟨by omega, by omega⟩ ⟨_, rfl, fun _ => rfl⟩ (fun ad2 hE2 hC => ?_)
  show AL z x 4 Q _ _ _ _ _ (wX z σ1 ad2 τ1)
  refine al_lcmp hC dL_law_1319 ?_
  rw [ict_eq]
  refine al_if_eq (tgt := 2151) hC dL_law_1320 rfl (fun _ => ?_) (fun g => absurd rfl g)
  exact kk ad2 (hE1.trans hE2)
theorem dL_law_1325 : decode code 1325 = .ok (.aload_n 1, 1) := by decide +kernel
theorem dL_law_1326 : decode code 1326 = .ok (.aload_n 0, 1) := by decide +kernel
theorem dL_law_1327 : decode code 1327 = .ok (.iload_n 3, 1) := by decide +kernel
theorem dL_law_1328 : decode code 1328 = .ok (.iconst 1, 1) := by decide +kernel
theorem dL_law_1329 : decode code 1329 = .ok (.iadd, 1) := by decide +kernel
theorem dL_law_1330 : decode code 1330 = .ok (.iaload, 1) := by decide +kernel
theorem dL_law_1331 : decode code 1331 = .ok (.aload_n 0, 1) := by decide +kernel
theorem dL_law_1332 : decode code 1332 = .ok (.iload_n 3, 1) := by decide +kernel
theorem dL_law_1333 : decode code 1333 = .ok (.iconst 2, 1) := by decide +kernel
theorem dL_law_1334 : decode code 1334 = .ok (.iadd, 1) := by decide +kernel
theorem dL_law_1335 : decode code 1335 = .ok (.iaload, 1) := by decide +kernel
theorem dL_law_1336 : decode code 1336 = .ok (.aload_n 0, 1) := by decide +kernel
theorem dL_law_1337 : decode code 1337 = .ok (.iload_n 3, 1) := by decide +kernel
theorem dL_law_1338 : decode code 1338 = .ok (.iconst 3, 1) := by decide +kernel
theorem dL_law_1339 : decode code 1339 = .ok (.iadd, 1) := by decide +kernel
theorem dL_law_1340 : decode code 1340 = .ok (.iaload, 1) := by decide +kernel
theorem dL_law_1341 : decode code 1341 = .ok (.invokevirtual 124, 3) := by decide +kernel
theorem dL_law_1344 : decode code 1344 = .ok (.aload_n 2, 1) := by decide +kernel
theorem dL_law_1345 : decode code 1345 = .ok (.aload_n 0, 1) := by decide +kernel
theorem dL_law_1346 : decode code 1346 = .ok (.iload_n 3, 1) := by decide +kernel
theorem dL_law_1347 : decode code 1347 = .ok (.iconst 1, 1) := by decide +kernel
theorem dL_law_1348 : decode code 1348 = .ok (.iadd, 1) := by decide +kernel
theorem dL_law_1349 : decode code 1349 = .ok (.iaload, 1) := by decide +kernel
theorem dL_law_1350 : decode code 1350 = .ok (.aload_n 0, 1) := by decide +kernel
theorem dL_law_1351 : decode code 1351 = .ok (.iload_n 3, 1) := by decide +kernel
theorem dL_law_1352 : decode code 1352 = .ok (.iconst 2, 1) := by decide +kernel
theorem dL_law_1353 : decode code 1353 = .ok (.iadd, 1) := by decide +kernel
theorem dL_law_1354 : decode code 1354 = .ok (.iaload, 1) := by decide +kernel
theorem dL_law_1355 : decode code 1355 = .ok (.aload_n 0, 1) := by decide +kernel
theorem dL_law_1356 : decode code 1356 = .ok (.iload_n 3, 1) := by decide +kernel
theorem dL_law_1357 : decode code 1357 = .ok (.iconst 3, 1) := by decide +kernel
theorem dL_law_1358 : decode code 1358 = .ok (.iadd, 1) := by decide +kernel
theorem dL_law_1359 : decode code 1359 = .ok (.iaload, 1) := by decide +kernel
theorem dL_law_1360 : decode code 1360 = .ok (.invokevirtual 127, 3) := by decide +kernel
theorem dL_law_1363 : decode code 1363 = .ok (.lcmp, 1) := by decide +kernel
theorem dL_law_1364 : decode code 1364 = .ok (.ifCond .eq 787, 3) := by decide +kernel
theorem dL_law_1367 : decode code 1367 = .ok (.iconst 0, 1) := by decide +kernel
theorem dL_law_1368 : decode code 1368 = .ok (.ireturn, 1) := by decide +kernel
set_option maxRecDepth 100000 in
theorem law_c25 {z : ZZ} {x : XX} {Q : State → Prop} {k n : Nat} {ad : Nat → Nat} {b L i x0 m0 : Nat} {xs : Nat → Int32} {σ σ1 : MS} {τ τ1 : XS} {r : Int64} (hC : CX z ad x code RL 4 ret) (hR : x.2.2.1 = room_1) (hX : SX z x b L xs) (hx0 : ad 36 = x0) (hm0 : ad 0 = m0) (hi : i + 4 < L) (hk : k + 0 ≤ 600000 ∧ n + 0 ≤ 7302250) (hW : W_sum τ (xs (i + 1)) (xs (i + 2)) (xs (i + 3)) = some (r, τ1)) (hM : M_sum σ (xs (i + 1)) (xs (i + 2)) (xs (i + 3)) = some (r, σ1)) (kk : ∀ ad2, exL ad ad2 → AL z x 4 Q (k + 0 + 0) (n + 0 + 0) 2151 [(3, .int (Int32.ofNat i)), (1, .ref x0), (2, .ref m0), (0, .ref b)] [] (wX z σ1 ad2 τ1)) : AL z x 4 Q k n 1325 [(3, .int (Int32.ofNat i)), (1, .ref x0), (2, .ref m0), (0, .ref b)] [] (wX z σ ad τ) := by
  refine al_aload_n (j := 1) hC rfl rfl dL_law_1325 ?_
  refine al_aload_n (j := 3) hC rfl rfl dL_law_1326 ?_
  refine al_iload_n (j := 0) hC rfl rfl dL_law_1327 ?_
  refine al_iconst (v := 1) hC rfl dL_law_1328 ?_
  refine al_iadd hC dL_law_1329 ?_
  refine al_sld (j := i + 1) hC hX (Int32.ofNat_add i 1).symm (by omega) dL_law_1330 ?_
  refine al_aload_n (j := 3) hC rfl rfl dL_law_1331 ?_
  refine al_iload_n (j := 0) hC rfl rfl dL_law_1332 ?_
  refine al_iconst (v := 2) hC rfl dL_law_1333 ?_
  refine al_iadd hC dL_law_1334 ?_
  refine al_sld (j := i + 2) hC hX (Int32.ofNat_add i 2).symm (by omega) dL_law_1335 ?_
  refine al_aload_n (j := 3) hC rfl rfl dL_law_1336 ?_
  refine al_iload_n (j := 0) hC rfl rfl dL_law_1337 ?_
  refine al_iconst (v := 3) hC rfl dL_law_1338 ?_
  refine al_iadd hC dL_law_1339 ?_
  refine al_sld (j := i + 3) hC hX (Int32.ofNat_add i 3).symm (by omega) dL_law_1340 ?_
  refine al_callL (w := wX z σ) (As := [.int (xs (i + 1)), .int (xs (i + 2)), .int (xs (i + 3))]) (rest := []) (s0 := τ) (s1 := τ1) (r0 := r) (q := 36) hC hR lkl_124 (c_W_sum τ (xs (i + 1)) (xs (i + 2)) (xs (i + 3))) hW (fun _ _ h => eqA.L h) dL_law_1341 recX10 rfl rfl hx0 rfl ⟨by decide, by decide⟩ (Nat.le_of_ble_eq_true rfl) ⟨by omega, by omega⟩ ⟨_, rfl, fun _ => rfl⟩ (fun ad1 hE1 hC => ?_)
  have hm0 := (hE1 0 (by omega)).trans hm0
  show AL z x 4 Q (k + 0) (n + 0) _ _ _ (wM z τ1 ad1 σ)
  refine al_aload_n (j := 2) hC rfl rfl dL_law_1344 ?_
  refine al_aload_n (j := 3) hC rfl rfl dL_law_1345 ?_
  refine al_iload_n (j := 0) hC rfl rfl dL_law_1346 ?_
  refine al_iconst (v := 1) hC rfl dL_law_1347 ?_
  refine al_iadd hC dL_law_1348 ?_
  refine al_sld (j := i + 1) hC hX (Int32.ofNat_add i 1).symm (by omega) dL_law_1349 ?_
  refine al_aload_n (j := 3) hC rfl rfl dL_law_1350 ?_
  refine al_iload_n (j := 0) hC rfl rfl dL_law_1351 ?_
  refine al_iconst (v := 2) hC rfl dL_law_1352 ?_
  refine al_iadd hC dL_law_1353 ?_
  refine al_sld (j := i + 2) hC hX (Int32.ofNat_add i 2).symm (by omega) dL_law_1354 ?_
  refine al_aload_n (j := 3) hC rfl rfl dL_law_1355 ?_
  refine al_iload_n (j := 0) hC rfl rfl dL_law_1356 ?_
  refine al_iconst (v := 3) hC rfl dL_law_1357 ?_
  refine al_iadd hC dL_law_1358 ?_
  refine al_sld (j := i + 3) hC hX (Int32.ofNat_add i 3).symm (by omega) dL_law_1359 ?_
  refine al_callL (w := wM z τ1) (As := [.int (xs (i + 1)), .int (xs (i + 2)), .int (xs (i + 3))]) (rest := [.long r]) (s0 := σ) (s1 := σ1) (r0 := r) (q := 0) hC hR lkl_127 (c_M_sum σ (xs (i + 1)) (xs (i + 2)) (xs (i + 3))) hM (fun _ _ h => eqA.L h) dL_law_1360 recX11 rfl rfl hm0 rfl ⟨by decide, by decide⟩ (Nat.le_of_ble_eq_true rfl) ⟨by omega, by omega⟩ ⟨_, rfl, fun _ => rfl⟩ (fun ad2 hE2 hC => ?_)
  show AL z x 4 Q _ _ _ _ _ (wX z σ1 ad2 τ1)
  refine al_lcmp hC dL_law_1363 ?_
  rw [ict_eq]
  refine al_if_eq (tgt := 2151) hC dL_law_1364 rfl (fun _ => ?_) (fun g => absurd rfl g)
  exact kk ad2 (hE1.trans hE2)
theorem dL_law_1369 : decode code 1369 = .ok (.aload_n 1, 1) := by decide +kernel
theorem dL_law_1370 : decode code 1370 = .ok (.aload_n 0, 1) := by decide +kernel
theorem dL_law_1371 : decode code 1371 = .ok (.iload_n 3, 1) := by decide +kernel
theorem dL_law_1372 : decode code 1372 = .ok (.iconst 1, 1) := by decide +kernel
theorem dL_law_1373 : decode code 1373 = .ok (.iadd, 1) := by decide +kernel
theorem dL_law_1374 : decode code 1374 = .ok (.iaload, 1) := by decide +kernel
theorem dL_law_1375 : decode code 1375 = .ok (.invokevirtual 128, 3) := by decide +kernel
theorem dL_law_1378 : decode code 1378 = .ok (.aload_n 2, 1) := by decide +kernel
theorem dL_law_1379 : decode code 1379 = .ok (.aload_n 0, 1) := by decide +kernel
theorem dL_law_1380 : decode code 1380 = .ok (.iload_n 3, 1) := by decide +kernel
theorem dL_law_1381 : decode code 1381 = .ok (.iconst 1, 1) := by decide +kernel
theorem dL_law_1382 : decode code 1382 = .ok (.iadd, 1) := by decide +kernel
theorem dL_law_1383 : decode code 1383 = .ok (.iaload, 1) := by decide +kernel
theorem dL_law_1384 : decode code 1384 = .ok (.invokevirtual 131, 3) := by decide +kernel
theorem dL_law_1387 : decode code 1387 = .ok (.if_icmp .eq 764, 3) := by decide +kernel
theorem dL_law_1390 : decode code 1390 = .ok (.iconst 0, 1) := by decide +kernel
theorem dL_law_1391 : decode code 1391 = .ok (.ireturn, 1) := by decide +kernel
set_option maxRecDepth 100000 in
theorem law_c26 {z : ZZ} {x : XX} {Q : State → Prop} {k n : Nat} {ad : Nat → Nat} {b L i x0 m0 : Nat} {xs : Nat → Int32} {σ σ1 : MS} {τ τ1 : XS} {r : Int32} (hC : CX z ad x code RL 4 ret) (hR : x.2.2.1 = room_1) (hX : SX z x b L xs) (hx0 : ad 36 = x0) (hm0 : ad 0 = m0) (hi : i + 4 < L) (hk : k + 0 ≤ 600000 ∧ n + 0 ≤ 7302250) (hW : W_begin τ (xs (i + 1)) = some (r, τ1)) (hM : M_begin σ (xs (i + 1)) = some (r, σ1)) (kk : ∀ ad2, exL ad ad2 → AL z x 4 Q (k + 0 + 0) (n + 0 + 0) 2151 [(3, .int (Int32.ofNat i)), (1, .ref x0), (2, .ref m0), (0, .ref b)] [] (wX z σ1 ad2 τ1)) : AL z x 4 Q k n 1369 [(3, .int (Int32.ofNat i)), (1, .ref x0), (2, .ref m0), (0, .ref b)] [] (wX z σ ad τ) := by
  refine al_aload_n (j := 1) hC rfl rfl dL_law_1369 ?_
  refine al_aload_n (j := 3) hC rfl rfl dL_law_1370 ?_
  refine al_iload_n (j := 0) hC rfl rfl dL_law_1371 ?_
  refine al_iconst (v := 1) hC rfl dL_law_1372 ?_
  refine al_iadd hC dL_law_1373 ?_
  refine al_sld (j := i + 1) hC hX (Int32.ofNat_add i 1).symm (by omega) dL_law_1374 ?_
  refine al_callL (w := wX z σ) (As := [.int (xs (i + 1))]) (rest := []) (s0 := τ) (s1 := τ1) (r0 := r) (q := 36) hC hR lkl_128 (c_W_begin τ (xs (i + 1))) hW (fun _ _ h => eqA.L h) dL_law_1375 recX10 rfl rfl hx0 rfl ⟨by decide, by decide⟩ (Nat.le_of_ble_eq_true rfl) ⟨by omega, by omega⟩ ⟨_, rfl, fun _ => rfl⟩ (fun ad1 hE1 hC => ?_)
  have hm0 := (hE1 0 (by omega)).trans hm0
  show AL z x 4 Q (k + 0) (n + 0) _ _ _ (wM z τ1 ad1 σ)
  refine al_aload_n (j := 2) hC rfl rfl dL_law_1378 ?_
  refine al_aload_n (j := 3) hC rfl rfl dL_law_1379 ?_
  refine al_iload_n (j := 0) hC rfl rfl dL_law_1380 ?_
  refine al_iconst (v := 1) hC rfl dL_law_1381 ?_
  refine al_iadd hC dL_law_1382 ?_
  refine al_sld (j := i + 1) hC hX (Int32.ofNat_add i 1).symm (by omega) dL_law_1383 ?_
  refine al_callL (w := wM z τ1) (As := [.int (xs (i + 1))]) (rest := [.int r]) (s0 := σ) (s1 := σ1) (r0 := r) (q := 0) hC hR lkl_131 (c_M_begin σ (xs (i + 1))) hM (fun _ _ h => eqA.L h) dL_law_1384 recX11 rfl rfl hm0 rfl ⟨by decide, by decide⟩ (Nat.le_of_ble_eq_true rfl) ⟨by omega, by omega⟩ ⟨_, rfl, fun _ => rfl⟩ (fun ad2 hE2 hC => ?_)
  show AL z x 4 Q _ _ _ _ _ (wX z σ1 ad2 τ1)
  refine al_icmp_eq (tgt := 2151) hC dL_law_1387 rfl (fun _ => ?_) (fun g => absurd rfl g)
  exact kk ad2 (hE1.trans hE2)
theorem dL_law_1392 : decode code 1392 = .ok (.aload_n 1, 1) := by decide +kernel
theorem dL_law_1393 : decode code 1393 = .ok (.aload_n 0, 1) := by decide +kernel
theorem dL_law_1394 : decode code 1394 = .ok (.iload_n 3, 1) := by decide +kernel
theorem dL_law_1395 : decode code 1395 = .ok (.iconst 1, 1) := by decide +kernel
theorem dL_law_1396 : decode code 1396 = .ok (.iadd, 1) := by decide +kernel
theorem dL_law_1397 : decode code 1397 = .ok (.iaload, 1) := by decide +kernel
theorem dL_law_1398 : decode code 1398 = .ok (.aload_n 0, 1) := by decide +kernel
theorem dL_law_1399 : decode code 1399 = .ok (.iload_n 3, 1) := by decide +kernel
theorem dL_law_1400 : decode code 1400 = .ok (.iconst 2, 1) := by decide +kernel
theorem dL_law_1401 : decode code 1401 = .ok (.iadd, 1) := by decide +kernel
theorem dL_law_1402 : decode code 1402 = .ok (.iaload, 1) := by decide +kernel
theorem dL_law_1403 : decode code 1403 = .ok (.invokevirtual 132, 3) := by decide +kernel
theorem dL_law_1406 : decode code 1406 = .ok (.aload_n 2, 1) := by decide +kernel
theorem dL_law_1407 : decode code 1407 = .ok (.aload_n 0, 1) := by decide +kernel
theorem dL_law_1408 : decode code 1408 = .ok (.iload_n 3, 1) := by decide +kernel
theorem dL_law_1409 : decode code 1409 = .ok (.iconst 1, 1) := by decide +kernel
theorem dL_law_1410 : decode code 1410 = .ok (.iadd, 1) := by decide +kernel
theorem dL_law_1411 : decode code 1411 = .ok (.iaload, 1) := by decide +kernel
theorem dL_law_1412 : decode code 1412 = .ok (.aload_n 0, 1) := by decide +kernel
theorem dL_law_1413 : decode code 1413 = .ok (.iload_n 3, 1) := by decide +kernel
theorem dL_law_1414 : decode code 1414 = .ok (.iconst 2, 1) := by decide +kernel
theorem dL_law_1415 : decode code 1415 = .ok (.iadd, 1) := by decide +kernel
theorem dL_law_1416 : decode code 1416 = .ok (.iaload, 1) := by decide +kernel
theorem dL_law_1417 : decode code 1417 = .ok (.invokevirtual 135, 3) := by decide +kernel
theorem dL_law_1420 : decode code 1420 = .ok (.lcmp, 1) := by decide +kernel
theorem dL_law_1421 : decode code 1421 = .ok (.ifCond .eq 730, 3) := by decide +kernel
theorem dL_law_1424 : decode code 1424 = .ok (.iconst 0, 1) := by decide +kernel
theorem dL_law_1425 : decode code 1425 = .ok (.ireturn, 1) := by decide +kernel
set_option maxRecDepth 100000 in
theorem law_c27 {z : ZZ} {x : XX} {Q : State → Prop} {k n : Nat} {ad : Nat → Nat} {b L i x0 m0 : Nat} {xs : Nat → Int32} {σ σ1 : MS} {τ τ1 : XS} {r : Int64} (hC : CX z ad x code RL 4 ret) (hR : x.2.2.1 = room_1) (hX : SX z x b L xs) (hx0 : ad 36 = x0) (hm0 : ad 0 = m0) (hi : i + 4 < L) (hk : k + 0 ≤ 600000 ∧ n + 0 ≤ 7302250) (hW : W_chest τ (xs (i + 1)) (xs (i + 2)) = some (r, τ1)) (hM : M_chest σ (xs (i + 1)) (xs (i + 2)) = some (r, σ1)) (kk : ∀ ad2, exL ad ad2 → AL z x 4 Q (k + 0 + 0) (n + 0 + 0) 2151 [(3, .int (Int32.ofNat i)), (1, .ref x0), (2, .ref m0), (0, .ref b)] [] (wX z σ1 ad2 τ1)) : AL z x 4 Q k n 1392 [(3, .int (Int32.ofNat i)), (1, .ref x0), (2, .ref m0), (0, .ref b)] [] (wX z σ ad τ) := by
  refine al_aload_n (j := 1) hC rfl rfl dL_law_1392 ?_
  refine al_aload_n (j := 3) hC rfl rfl dL_law_1393 ?_
  refine al_iload_n (j := 0) hC rfl rfl dL_law_1394 ?_
  refine al_iconst (v := 1) hC rfl dL_law_1395 ?_
  refine al_iadd hC dL_law_1396 ?_
  refine al_sld (j := i + 1) hC hX (Int32.ofNat_add i 1).symm (by omega) dL_law_1397 ?_
  refine al_aload_n (j := 3) hC rfl rfl dL_law_1398 ?_
  refine al_iload_n (j := 0) hC rfl rfl dL_law_1399 ?_
  refine al_iconst (v := 2) hC rfl dL_law_1400 ?_
  refine al_iadd hC dL_law_1401 ?_
  refine al_sld (j := i + 2) hC hX (Int32.ofNat_add i 2).symm (by omega) dL_law_1402 ?_
  refine al_callL (w := wX z σ) (As := [.int (xs (i + 1)), .int (xs (i + 2))]) (rest := []) (s0 := τ) (s1 := τ1) (r0 := r) (q := 36) hC hR lkl_132 (c_W_chest τ (xs (i + 1)) (xs (i + 2))) hW (fun _ _ h => eqA.L h) dL_law_1403 recX10 rfl rfl hx0 rfl ⟨by decide, by decide⟩ (Nat.le_of_ble_eq_true rfl) ⟨by omega, by omega⟩ ⟨_, rfl, fun _ => rfl⟩ (fun ad1 hE1 hC => ?_)
  have hm0 := (hE1 0 (by omega)).trans hm0
  show AL z x 4 Q (k + 0) (n + 0) _ _ _ (wM z τ1 ad1 σ)
  refine al_aload_n (j := 2) hC rfl rfl dL_law_1406 ?_
  refine al_aload_n (j := 3) hC rfl rfl dL_law_1407 ?_
  refine al_iload_n (j := 0) hC rfl rfl dL_law_1408 ?_
  refine al_iconst (v := 1) hC rfl dL_law_1409 ?_
  refine al_iadd hC dL_law_1410 ?_
  refine al_sld (j := i + 1) hC hX (Int32.ofNat_add i 1).symm (by omega) dL_law_1411 ?_
  refine al_aload_n (j := 3) hC rfl rfl dL_law_1412 ?_
  refine al_iload_n (j := 0) hC rfl rfl dL_law_1413 ?_
  refine al_iconst (v := 2) hC rfl dL_law_1414 ?_
  refine al_iadd hC dL_law_1415 ?_
  refine al_sld (j := i + 2) hC hX (Int32.ofNat_add i 2).symm (by omega) dL_law_1416 ?_
  refine al_callL (w := wM z τ1) (As := [.int (xs (i + 1)), .int (xs (i + 2))]) (rest := [.long r]) (s0 := σ) (s1 := σ1) (r0 := r) (q := 0) hC hR lkl_135 (c_M_chest σ (xs (i + 1)) (xs (i + 2))) hM (fun _ _ h => eqA.L h) dL_law_1417 recX11 rfl rfl hm0 rfl ⟨by decide, by decide⟩ (Nat.le_of_ble_eq_true rfl) ⟨by omega, by omega⟩ ⟨_, rfl, fun _ => rfl⟩ (fun ad2 hE2 hC => ?_)
  show AL z x 4 Q _ _ _ _ _ (wX z σ1 ad2 τ1)
  refine al_lcmp hC dL_law_1420 ?_
  rw [ict_eq]
  refine al_if_eq (tgt := 2151) hC dL_law_1421 rfl (fun _ => ?_) (fun g => absurd rfl g)
  exact kk ad2 (hE1.trans hE2)
theorem dL_law_1426 : decode code 1426 = .ok (.aload_n 1, 1) := by decide +kernel
theorem dL_law_1427 : decode code 1427 = .ok (.aload_n 0, 1) := by decide +kernel
theorem dL_law_1428 : decode code 1428 = .ok (.iload_n 3, 1) := by decide +kernel
theorem dL_law_1429 : decode code 1429 = .ok (.iconst 1, 1) := by decide +kernel
theorem dL_law_1430 : decode code 1430 = .ok (.iadd, 1) := by decide +kernel
theorem dL_law_1431 : decode code 1431 = .ok (.iaload, 1) := by decide +kernel
theorem dL_law_1432 : decode code 1432 = .ok (.aload_n 0, 1) := by decide +kernel
theorem dL_law_1433 : decode code 1433 = .ok (.iload_n 3, 1) := by decide +kernel
theorem dL_law_1434 : decode code 1434 = .ok (.iconst 2, 1) := by decide +kernel
theorem dL_law_1435 : decode code 1435 = .ok (.iadd, 1) := by decide +kernel
theorem dL_law_1436 : decode code 1436 = .ok (.iaload, 1) := by decide +kernel
theorem dL_law_1437 : decode code 1437 = .ok (.aload_n 0, 1) := by decide +kernel
theorem dL_law_1438 : decode code 1438 = .ok (.iload_n 3, 1) := by decide +kernel
theorem dL_law_1439 : decode code 1439 = .ok (.iconst 3, 1) := by decide +kernel
theorem dL_law_1440 : decode code 1440 = .ok (.iadd, 1) := by decide +kernel
theorem dL_law_1441 : decode code 1441 = .ok (.iaload, 1) := by decide +kernel
theorem dL_law_1442 : decode code 1442 = .ok (.aload_n 0, 1) := by decide +kernel
theorem dL_law_1443 : decode code 1443 = .ok (.iload_n 3, 1) := by decide +kernel
theorem dL_law_1444 : decode code 1444 = .ok (.iconst 4, 1) := by decide +kernel
theorem dL_law_1445 : decode code 1445 = .ok (.iadd, 1) := by decide +kernel
theorem dL_law_1446 : decode code 1446 = .ok (.iaload, 1) := by decide +kernel
theorem dL_law_1447 : decode code 1447 = .ok (.invokevirtual 136, 3) := by decide +kernel
theorem dL_law_1450 : decode code 1450 = .ok (.aload_n 2, 1) := by decide +kernel
theorem dL_law_1451 : decode code 1451 = .ok (.aload_n 0, 1) := by decide +kernel
theorem dL_law_1452 : decode code 1452 = .ok (.iload_n 3, 1) := by decide +kernel
theorem dL_law_1453 : decode code 1453 = .ok (.iconst 1, 1) := by decide +kernel
theorem dL_law_1454 : decode code 1454 = .ok (.iadd, 1) := by decide +kernel
theorem dL_law_1455 : decode code 1455 = .ok (.iaload, 1) := by decide +kernel
theorem dL_law_1456 : decode code 1456 = .ok (.aload_n 0, 1) := by decide +kernel
theorem dL_law_1457 : decode code 1457 = .ok (.iload_n 3, 1) := by decide +kernel
theorem dL_law_1458 : decode code 1458 = .ok (.iconst 2, 1) := by decide +kernel
theorem dL_law_1459 : decode code 1459 = .ok (.iadd, 1) := by decide +kernel
theorem dL_law_1460 : decode code 1460 = .ok (.iaload, 1) := by decide +kernel
theorem dL_law_1461 : decode code 1461 = .ok (.aload_n 0, 1) := by decide +kernel
theorem dL_law_1462 : decode code 1462 = .ok (.iload_n 3, 1) := by decide +kernel
theorem dL_law_1463 : decode code 1463 = .ok (.iconst 3, 1) := by decide +kernel
theorem dL_law_1464 : decode code 1464 = .ok (.iadd, 1) := by decide +kernel
theorem dL_law_1465 : decode code 1465 = .ok (.iaload, 1) := by decide +kernel
theorem dL_law_1466 : decode code 1466 = .ok (.aload_n 0, 1) := by decide +kernel
theorem dL_law_1467 : decode code 1467 = .ok (.iload_n 3, 1) := by decide +kernel
theorem dL_law_1468 : decode code 1468 = .ok (.iconst 4, 1) := by decide +kernel
theorem dL_law_1469 : decode code 1469 = .ok (.iadd, 1) := by decide +kernel
theorem dL_law_1470 : decode code 1470 = .ok (.iaload, 1) := by decide +kernel
theorem dL_law_1471 : decode code 1471 = .ok (.invokevirtual 139, 3) := by decide +kernel
theorem dL_law_1474 : decode code 1474 = .ok (.if_icmp .eq 677, 3) := by decide +kernel
theorem dL_law_1477 : decode code 1477 = .ok (.iconst 0, 1) := by decide +kernel
theorem dL_law_1478 : decode code 1478 = .ok (.ireturn, 1) := by decide +kernel
set_option maxRecDepth 100000 in
theorem law_c28 {z : ZZ} {x : XX} {Q : State → Prop} {k n : Nat} {ad : Nat → Nat} {b L i x0 m0 : Nat} {xs : Nat → Int32} {σ σ1 : MS} {τ τ1 : XS} {r : Int32} (hC : CX z ad x code RL 4 ret) (hR : x.2.2.1 = room_1) (hX : SX z x b L xs) (hx0 : ad 36 = x0) (hm0 : ad 0 = m0) (hi : i + 4 < L) (hk : k + 0 ≤ 600000 ∧ n + 0 ≤ 7302250) (hW : W_loan τ (xs (i + 1)) (xs (i + 2)) (xs (i + 3)) (xs (i + 4)) = some (r, τ1)) (hM : M_loan σ (xs (i + 1)) (xs (i + 2)) (xs (i + 3)) (xs (i + 4)) = some (r, σ1)) (kk : ∀ ad2, exL ad ad2 → AL z x 4 Q (k + 0 + 0) (n + 0 + 0) 2151 [(3, .int (Int32.ofNat i)), (1, .ref x0), (2, .ref m0), (0, .ref b)] [] (wX z σ1 ad2 τ1)) : AL z x 4 Q k n 1426 [(3, .int (Int32.ofNat i)), (1, .ref x0), (2, .ref m0), (0, .ref b)] [] (wX z σ ad τ) := by
  refine al_aload_n (j := 1) hC rfl rfl dL_law_1426 ?_
  refine al_aload_n (j := 3) hC rfl rfl dL_law_1427 ?_
  refine al_iload_n (j := 0) hC rfl rfl dL_law_1428 ?_
  refine al_iconst (v := 1) hC rfl dL_law_1429 ?_
  refine al_iadd hC dL_law_1430 ?_
  refine al_sld (j := i + 1) hC hX (Int32.ofNat_add i 1).symm (by omega) dL_law_1431 ?_
  refine al_aload_n (j := 3) hC rfl rfl dL_law_1432 ?_
  refine al_iload_n (j := 0) hC rfl rfl dL_law_1433 ?_
  refine al_iconst (v := 2) hC rfl dL_law_1434 ?_
  refine al_iadd hC dL_law_1435 ?_
  refine al_sld (j := i + 2) hC hX (Int32.ofNat_add i 2).symm (by omega) dL_law_1436 ?_
  refine al_aload_n (j := 3) hC rfl rfl dL_law_1437 ?_
  refine al_iload_n (j := 0) hC rfl rfl dL_law_1438 ?_
  refine al_iconst (v := 3) hC rfl dL_law_1439 ?_
  refine al_iadd hC dL_law_1440 ?_
  refine al_sld (j := i + 3) hC hX (Int32.ofNat_add i 3).symm (by omega) dL_law_1441 ?_
  refine al_aload_n (j := 3) hC rfl rfl dL_law_1442 ?_
  refine al_iload_n (j := 0) hC rfl rfl dL_law_1443 ?_
  refine al_iconst (v := 4) hC rfl dL_law_1444 ?_
  refine al_iadd hC dL_law_1445 ?_
  refine al_sld (j := i + 4) hC hX (Int32.ofNat_add i 4).symm (by omega) dL_law_1446 ?_
  refine al_callL (w := wX z σ) (As := [.int (xs (i + 1)), .int (xs (i + 2)), .int (xs (i + 3)), .int (xs (i + 4))]) (rest := []) (s0 := τ) (s1 := τ1) (r0 := r) (q := 36) hC hR lkl_136 (c_W_loan τ (xs (i + 1)) (xs (i + 2)) (xs (i + 3)) (xs (i + 4))) hW (fun _ _ h => eqA.L h) dL_law_1447 recX10 rfl rfl hx0 rfl ⟨by decide, by decide⟩ (Nat.le_of_ble_eq_true rfl) ⟨by omega, by omega⟩ ⟨_, rfl, fun _ => rfl⟩ (fun ad1 hE1 hC => ?_)
  have hm0 := (hE1 0 (by omega)).trans hm0
  show AL z x 4 Q (k + 0) (n + 0) _ _ _ (wM z τ1 ad1 σ)
  refine al_aload_n (j := 2) hC rfl rfl dL_law_1450 ?_
  refine al_aload_n (j := 3) hC rfl rfl dL_law_1451 ?_
  refine al_iload_n (j := 0) hC rfl rfl dL_law_1452 ?_
  refine al_iconst (v := 1) hC rfl dL_law_1453 ?_
  refine al_iadd hC dL_law_1454 ?_
  refine al_sld (j := i + 1) hC hX (Int32.ofNat_add i 1).symm (by omega) dL_law_1455 ?_
  refine al_aload_n (j := 3) hC rfl rfl dL_law_1456 ?_
  refine al_iload_n (j := 0) hC rfl rfl dL_law_1457 ?_
  refine al_iconst (v := 2) hC rfl dL_law_1458 ?_
  refine al_iadd hC dL_law_1459 ?_
  refine al_sld (j := i + 2) hC hX (Int32.ofNat_add i 2).symm (by omega) dL_law_1460 ?_
  refine al_aload_n (j := 3) hC rfl rfl dL_law_1461 ?_
  refine al_iload_n (j := 0) hC rfl rfl dL_law_1462 ?_
  refine al_iconst (v := 3) hC rfl dL_law_1463 ?_
  refine al_iadd hC dL_law_1464 ?_
  refine al_sld (j := i + 3) hC hX (Int32.ofNat_add i 3).symm (by omega) dL_law_1465 ?_
  refine al_aload_n (j := 3) hC rfl rfl dL_law_1466 ?_
  refine al_iload_n (j := 0) hC rfl rfl dL_law_1467 ?_
  refine al_iconst (v := 4) hC rfl dL_law_1468 ?_
  refine al_iadd hC dL_law_1469 ?_
  refine al_sld (j := i + 4) hC hX (Int32.ofNat_add i 4).symm (by omega) dL_law_1470 ?_
  refine al_callL (w := wM z τ1) (As := [.int (xs (i + 1)), .int (xs (i + 2)), .int (xs (i + 3)), .int (xs (i + 4))]) (rest := [.int r]) (s0 := σ) (s1 := σ1) (r0 := r) (q := 0) hC hR lkl_139 (c_M_loan σ (xs (i + 1)) (xs (i + 2)) (xs (i + 3)) (xs (i + 4))) hM (fun _ _ h => eqA.L h) dL_law_1471 recX11 rfl rfl hm0 rfl ⟨by decide, by decide⟩ (Nat.le_of_ble_eq_true rfl) ⟨by omega, by omega⟩ ⟨_, rfl, fun _ => rfl⟩ (fun ad2 hE2 hC => ?_)
  show AL z x 4 Q _ _ _ _ _ (wX z σ1 ad2 τ1)
  refine al_icmp_eq (tgt := 2151) hC dL_law_1474 rfl (fun _ => ?_) (fun g => absurd rfl g)
  exact kk ad2 (hE1.trans hE2)
theorem dL_law_1479 : decode code 1479 = .ok (.aload_n 1, 1) := by decide +kernel
theorem dL_law_1480 : decode code 1480 = .ok (.aload_n 0, 1) := by decide +kernel
theorem dL_law_1481 : decode code 1481 = .ok (.iload_n 3, 1) := by decide +kernel
theorem dL_law_1482 : decode code 1482 = .ok (.iconst 1, 1) := by decide +kernel
theorem dL_law_1483 : decode code 1483 = .ok (.iadd, 1) := by decide +kernel
theorem dL_law_1484 : decode code 1484 = .ok (.iaload, 1) := by decide +kernel
theorem dL_law_1485 : decode code 1485 = .ok (.aload_n 0, 1) := by decide +kernel
theorem dL_law_1486 : decode code 1486 = .ok (.iload_n 3, 1) := by decide +kernel
theorem dL_law_1487 : decode code 1487 = .ok (.iconst 2, 1) := by decide +kernel
theorem dL_law_1488 : decode code 1488 = .ok (.iadd, 1) := by decide +kernel
theorem dL_law_1489 : decode code 1489 = .ok (.iaload, 1) := by decide +kernel
theorem dL_law_1490 : decode code 1490 = .ok (.invokevirtual 140, 3) := by decide +kernel
theorem dL_law_1493 : decode code 1493 = .ok (.aload_n 2, 1) := by decide +kernel
theorem dL_law_1494 : decode code 1494 = .ok (.aload_n 0, 1) := by decide +kernel
theorem dL_law_1495 : decode code 1495 = .ok (.iload_n 3, 1) := by decide +kernel
theorem dL_law_1496 : decode code 1496 = .ok (.iconst 1, 1) := by decide +kernel
theorem dL_law_1497 : decode code 1497 = .ok (.iadd, 1) := by decide +kernel
theorem dL_law_1498 : decode code 1498 = .ok (.iaload, 1) := by decide +kernel
theorem dL_law_1499 : decode code 1499 = .ok (.aload_n 0, 1) := by decide +kernel
theorem dL_law_1500 : decode code 1500 = .ok (.iload_n 3, 1) := by decide +kernel
theorem dL_law_1501 : decode code 1501 = .ok (.iconst 2, 1) := by decide +kernel
theorem dL_law_1502 : decode code 1502 = .ok (.iadd, 1) := by decide +kernel
theorem dL_law_1503 : decode code 1503 = .ok (.iaload, 1) := by decide +kernel
theorem dL_law_1504 : decode code 1504 = .ok (.invokevirtual 143, 3) := by decide +kernel
theorem dL_law_1507 : decode code 1507 = .ok (.if_icmp .eq 644, 3) := by decide +kernel
theorem dL_law_1510 : decode code 1510 = .ok (.iconst 0, 1) := by decide +kernel
theorem dL_law_1511 : decode code 1511 = .ok (.ireturn, 1) := by decide +kernel
set_option maxRecDepth 100000 in
theorem law_c29 {z : ZZ} {x : XX} {Q : State → Prop} {k n : Nat} {ad : Nat → Nat} {b L i x0 m0 : Nat} {xs : Nat → Int32} {σ σ1 : MS} {τ τ1 : XS} {r : Int32} (hC : CX z ad x code RL 4 ret) (hR : x.2.2.1 = room_1) (hX : SX z x b L xs) (hx0 : ad 36 = x0) (hm0 : ad 0 = m0) (hi : i + 4 < L) (hk : k + 0 ≤ 600000 ∧ n + 0 ≤ 7302250) (hW : W_bad τ (xs (i + 1)) (xs (i + 2)) = some (r, τ1)) (hM : M_bad σ (xs (i + 1)) (xs (i + 2)) = some (r, σ1)) (kk : ∀ ad2, exL ad ad2 → AL z x 4 Q (k + 0 + 0) (n + 0 + 0) 2151 [(3, .int (Int32.ofNat i)), (1, .ref x0), (2, .ref m0), (0, .ref b)] [] (wX z σ1 ad2 τ1)) : AL z x 4 Q k n 1479 [(3, .int (Int32.ofNat i)), (1, .ref x0), (2, .ref m0), (0, .ref b)] [] (wX z σ ad τ) := by
  refine al_aload_n (j := 1) hC rfl rfl dL_law_1479 ?_
  refine al_aload_n (j := 3) hC rfl rfl dL_law_1480 ?_
  refine al_iload_n (j := 0) hC rfl rfl dL_law_1481 ?_
  refine al_iconst (v := 1) hC rfl dL_law_1482 ?_
  refine al_iadd hC dL_law_1483 ?_
  refine al_sld (j := i + 1) hC hX (Int32.ofNat_add i 1).symm (by omega) dL_law_1484 ?_
  refine al_aload_n (j := 3) hC rfl rfl dL_law_1485 ?_
  refine al_iload_n (j := 0) hC rfl rfl dL_law_1486 ?_
  refine al_iconst (v := 2) hC rfl dL_law_1487 ?_
  refine al_iadd hC dL_law_1488 ?_
  refine al_sld (j := i + 2) hC hX (Int32.ofNat_add i 2).symm (by omega) dL_law_1489 ?_
  refine al_callL (w := wX z σ) (As := [.int (xs (i + 1)), .int (xs (i + 2))]) (rest := []) (s0 := τ) (s1 := τ1) (r0 := r) (q := 36) hC hR lkl_140 (c_W_bad τ (xs (i + 1)) (xs (i + 2))) hW (fun _ _ h => eqA.L h) dL_law_1490 recX10 rfl rfl hx0 rfl ⟨by decide, by decide⟩ (Nat.le_of_ble_eq_true rfl) ⟨by omega, by omega⟩ ⟨_, rfl, fun _ => rfl⟩ (fun ad1 hE1 hC => ?_)
  have hm0 := (hE1 0 (by omega)).trans hm0
  show AL z x 4 Q (k + 0) (n + 0) _ _ _ (wM z τ1 ad1 σ)
  refine al_aload_n (j := 2) hC rfl rfl dL_law_1493 ?_
  refine al_aload_n (j := 3) hC rfl rfl dL_law_1494 ?_
  refine al_iload_n (j := 0) hC rfl rfl dL_law_1495 ?_
  refine al_iconst (v := 1) hC rfl dL_law_1496 ?_
  refine al_iadd hC dL_law_1497 ?_
  refine al_sld (j := i + 1) hC hX (Int32.ofNat_add i 1).symm (by omega) dL_law_1498 ?_
  refine al_aload_n (j := 3) hC rfl rfl dL_law_1499 ?_
  refine al_iload_n (j := 0) hC rfl rfl dL_law_1500 ?_
  refine al_iconst (v := 2) hC rfl dL_law_1501 ?_
  refine al_iadd hC dL_law_1502 ?_
  refine al_sld (j := i + 2) hC hX (Int32.ofNat_add i 2).symm (by omega) dL_law_1503 ?_
  refine al_callL (w := wM z τ1) (As := [.int (xs (i + 1)), .int (xs (i + 2))]) (rest := [.int r]) (s0 := σ) (s1 := σ1) (r0 := r) (q := 0) hC hR lkl_143 (c_M_bad σ (xs (i + 1)) (xs (i + 2))) hM (fun _ _ h => eqA.L h) dL_law_1504 recX11 rfl rfl hm0 rfl ⟨by decide, by decide⟩ (Nat.le_of_ble_eq_true rfl) ⟨by omega, by omega⟩ ⟨_, rfl, fun _ => rfl⟩ (fun ad2 hE2 hC => ?_)
  show AL z x 4 Q _ _ _ _ _ (wX z σ1 ad2 τ1)
  refine al_icmp_eq (tgt := 2151) hC dL_law_1507 rfl (fun _ => ?_) (fun g => absurd rfl g)
  exact kk ad2 (hE1.trans hE2)
theorem dL_law_1512 : decode code 1512 = .ok (.aload_n 1, 1) := by decide +kernel
theorem dL_law_1513 : decode code 1513 = .ok (.aload_n 0, 1) := by decide +kernel
theorem dL_law_1514 : decode code 1514 = .ok (.iload_n 3, 1) := by decide +kernel
theorem dL_law_1515 : decode code 1515 = .ok (.iconst 1, 1) := by decide +kernel
theorem dL_law_1516 : decode code 1516 = .ok (.iadd, 1) := by decide +kernel
theorem dL_law_1517 : decode code 1517 = .ok (.iaload, 1) := by decide +kernel
theorem dL_law_1518 : decode code 1518 = .ok (.aload_n 0, 1) := by decide +kernel
theorem dL_law_1519 : decode code 1519 = .ok (.iload_n 3, 1) := by decide +kernel
theorem dL_law_1520 : decode code 1520 = .ok (.iconst 2, 1) := by decide +kernel
theorem dL_law_1521 : decode code 1521 = .ok (.iadd, 1) := by decide +kernel
theorem dL_law_1522 : decode code 1522 = .ok (.iaload, 1) := by decide +kernel
theorem dL_law_1523 : decode code 1523 = .ok (.invokevirtual 144, 3) := by decide +kernel
theorem dL_law_1526 : decode code 1526 = .ok (.aload_n 2, 1) := by decide +kernel
theorem dL_law_1527 : decode code 1527 = .ok (.aload_n 0, 1) := by decide +kernel
theorem dL_law_1528 : decode code 1528 = .ok (.iload_n 3, 1) := by decide +kernel
theorem dL_law_1529 : decode code 1529 = .ok (.iconst 1, 1) := by decide +kernel
theorem dL_law_1530 : decode code 1530 = .ok (.iadd, 1) := by decide +kernel
theorem dL_law_1531 : decode code 1531 = .ok (.iaload, 1) := by decide +kernel
theorem dL_law_1532 : decode code 1532 = .ok (.aload_n 0, 1) := by decide +kernel
theorem dL_law_1533 : decode code 1533 = .ok (.iload_n 3, 1) := by decide +kernel
theorem dL_law_1534 : decode code 1534 = .ok (.iconst 2, 1) := by decide +kernel
theorem dL_law_1535 : decode code 1535 = .ok (.iadd, 1) := by decide +kernel
theorem dL_law_1536 : decode code 1536 = .ok (.iaload, 1) := by decide +kernel
theorem dL_law_1537 : decode code 1537 = .ok (.invokevirtual 147, 3) := by decide +kernel
theorem dL_law_1540 : decode code 1540 = .ok (.lcmp, 1) := by decide +kernel
theorem dL_law_1541 : decode code 1541 = .ok (.ifCond .eq 610, 3) := by decide +kernel
theorem dL_law_1544 : decode code 1544 = .ok (.iconst 0, 1) := by decide +kernel
theorem dL_law_1545 : decode code 1545 = .ok (.ireturn, 1) := by decide +kernel
set_option maxRecDepth 100000 in
theorem law_c30 {z : ZZ} {x : XX} {Q : State → Prop} {k n : Nat} {ad : Nat → Nat} {b L i x0 m0 : Nat} {xs : Nat → Int32} {σ σ1 : MS} {τ τ1 : XS} {r : Int64} (hC : CX z ad x code RL 4 ret) (hR : x.2.2.1 = room_1) (hX : SX z x b L xs) (hx0 : ad 36 = x0) (hm0 : ad 0 = m0) (hi : i + 4 < L) (hk : k + 0 ≤ 600000 ∧ n + 0 ≤ 7302250) (eτ : τ1 = τ) (eσ : σ1 = σ) (hW : W_due τ (xs (i + 1)) (xs (i + 2)) = some r) (hM : M_due σ (xs (i + 1)) (xs (i + 2)) = some r) (kk : ∀ ad2, exL ad ad2 → AL z x 4 Q (k + 0 + 0) (n + 0 + 0) 2151 [(3, .int (Int32.ofNat i)), (1, .ref x0), (2, .ref m0), (0, .ref b)] [] (wX z σ1 ad2 τ1)) : AL z x 4 Q k n 1512 [(3, .int (Int32.ofNat i)), (1, .ref x0), (2, .ref m0), (0, .ref b)] [] (wX z σ ad τ) := by
  subst eτ
  subst eσ
  refine al_aload_n (j := 1) hC rfl rfl dL_law_1512 ?_
  refine al_aload_n (j := 3) hC rfl rfl dL_law_1513 ?_
  refine al_iload_n (j := 0) hC rfl rfl dL_law_1514 ?_
  refine al_iconst (v := 1) hC rfl dL_law_1515 ?_
  refine al_iadd hC dL_law_1516 ?_
  refine al_sld (j := i + 1) hC hX (Int32.ofNat_add i 1).symm (by omega) dL_law_1517 ?_
  refine al_aload_n (j := 3) hC rfl rfl dL_law_1518 ?_
  refine al_iload_n (j := 0) hC rfl rfl dL_law_1519 ?_
  refine al_iconst (v := 2) hC rfl dL_law_1520 ?_
  refine al_iadd hC dL_law_1521 ?_
  refine al_sld (j := i + 2) hC hX (Int32.ofNat_add i 2).symm (by omega) dL_law_1522 ?_
  refine al_callL (w := wX z σ) (As := [.int (xs (i + 1)), .int (xs (i + 2))]) (rest := []) (s0 := τ) (s1 := τ) (r0 := r) (q := 36) hC hR lkl_144 (c_W_due τ (xs (i + 1)) (xs (i + 2))) (by rw [hW]; rfl) (fun _ _ h => eqA.L h) dL_law_1523 recX10 rfl rfl hx0 rfl ⟨by decide, by decide⟩ (Nat.le_of_ble_eq_true rfl) ⟨by omega, by omega⟩ ⟨_, rfl, fun _ => rfl⟩ (fun ad1 hE1 hC => ?_)
  have hm0 := (hE1 0 (by omega)).trans hm0
  show AL z x 4 Q (k + 0) (n + 0) _ _ _ (wM z τ1 ad1 σ)
  refine al_aload_n (j := 2) hC rfl rfl dL_law_1526 ?_
  refine al_aload_n (j := 3) hC rfl rfl dL_law_1527 ?_
  refine al_iload_n (j := 0) hC rfl rfl dL_law_1528 ?_
  refine al_iconst (v := 1) hC rfl dL_law_1529 ?_
  refine al_iadd hC dL_law_1530 ?_
  refine al_sld (j := i + 1) hC hX (Int32.ofNat_add i 1).symm (by omega) dL_law_1531 ?_
  refine al_aload_n (j := 3) hC rfl rfl dL_law_1532 ?_
  refine al_iload_n (j := 0) hC rfl rfl dL_law_1533 ?_
  refine al_iconst (v := 2) hC rfl dL_law_1534 ?_
  refine al_iadd hC dL_law_1535 ?_
  refine al_sld (j := i + 2) hC hX (Int32.ofNat_add i 2).symm (by omega) dL_law_1536 ?_
  refine al_callL (w := wM z τ1) (As := [.int (xs (i + 1)), .int (xs (i + 2))]) (rest := [.long r]) (s0 := σ) (s1 := σ) (r0 := r) (q := 0) hC hR lkl_147 (c_M_due σ (xs (i + 1)) (xs (i + 2))) (by rw [hM]; rfl) (fun _ _ h => eqA.L h) dL_law_1537 recX11 rfl rfl hm0 rfl ⟨by decide, by decide⟩ (Nat.le_of_ble_eq_true rfl) ⟨by omega, by omega⟩ ⟨_, rfl, fun _ => rfl⟩ (fun ad2 hE2 hC => ?_)
  show AL z x 4 Q _ _ _ _ _ (wX z σ1 ad2 τ1)
  refine al_lcmp hC dL_law_1540 ?_
  rw [ict_eq]
  refine al_if_eq (tgt := 2151) hC dL_law_1541 rfl (fun _ => ?_) (fun g => absurd rfl g)
  exact kk ad2 (hE1.trans hE2)
theorem dL_law_1546 : decode code 1546 = .ok (.aload_n 1, 1) := by decide +kernel
theorem dL_law_1547 : decode code 1547 = .ok (.aload_n 0, 1) := by decide +kernel
theorem dL_law_1548 : decode code 1548 = .ok (.iload_n 3, 1) := by decide +kernel
theorem dL_law_1549 : decode code 1549 = .ok (.iconst 1, 1) := by decide +kernel
theorem dL_law_1550 : decode code 1550 = .ok (.iadd, 1) := by decide +kernel
theorem dL_law_1551 : decode code 1551 = .ok (.iaload, 1) := by decide +kernel
theorem dL_law_1552 : decode code 1552 = .ok (.aload_n 0, 1) := by decide +kernel
theorem dL_law_1553 : decode code 1553 = .ok (.iload_n 3, 1) := by decide +kernel
theorem dL_law_1554 : decode code 1554 = .ok (.iconst 2, 1) := by decide +kernel
theorem dL_law_1555 : decode code 1555 = .ok (.iadd, 1) := by decide +kernel
theorem dL_law_1556 : decode code 1556 = .ok (.iaload, 1) := by decide +kernel
theorem dL_law_1557 : decode code 1557 = .ok (.invokevirtual 148, 3) := by decide +kernel
theorem dL_law_1560 : decode code 1560 = .ok (.aload_n 2, 1) := by decide +kernel
theorem dL_law_1561 : decode code 1561 = .ok (.aload_n 0, 1) := by decide +kernel
theorem dL_law_1562 : decode code 1562 = .ok (.iload_n 3, 1) := by decide +kernel
theorem dL_law_1563 : decode code 1563 = .ok (.iconst 1, 1) := by decide +kernel
theorem dL_law_1564 : decode code 1564 = .ok (.iadd, 1) := by decide +kernel
theorem dL_law_1565 : decode code 1565 = .ok (.iaload, 1) := by decide +kernel
theorem dL_law_1566 : decode code 1566 = .ok (.aload_n 0, 1) := by decide +kernel
theorem dL_law_1567 : decode code 1567 = .ok (.iload_n 3, 1) := by decide +kernel
theorem dL_law_1568 : decode code 1568 = .ok (.iconst 2, 1) := by decide +kernel
theorem dL_law_1569 : decode code 1569 = .ok (.iadd, 1) := by decide +kernel
theorem dL_law_1570 : decode code 1570 = .ok (.iaload, 1) := by decide +kernel
theorem dL_law_1571 : decode code 1571 = .ok (.invokevirtual 151, 3) := by decide +kernel
theorem dL_law_1574 : decode code 1574 = .ok (.if_icmp .eq 577, 3) := by decide +kernel
theorem dL_law_1577 : decode code 1577 = .ok (.iconst 0, 1) := by decide +kernel
theorem dL_law_1578 : decode code 1578 = .ok (.ireturn, 1) := by decide +kernel
set_option maxRecDepth 100000 in
theorem law_c31 {z : ZZ} {x : XX} {Q : State → Prop} {k n : Nat} {ad : Nat → Nat} {b L i x0 m0 : Nat} {xs : Nat → Int32} {σ σ1 : MS} {τ τ1 : XS} {r : Int32} (hC : CX z ad x code RL 4 ret) (hR : x.2.2.1 = room_1) (hX : SX z x b L xs) (hx0 : ad 36 = x0) (hm0 : ad 0 = m0) (hi : i + 4 < L) (hk : k + 0 ≤ 600000 ∧ n + 0 ≤ 7302250) (hW : W_table τ (xs (i + 1)) (xs (i + 2)) = some (r, τ1)) (hM : M_table σ (xs (i + 1)) (xs (i + 2)) = some (r, σ1)) (kk : ∀ ad2, exL ad ad2 → AL z x 4 Q (k + 0 + 0) (n + 0 + 0) 2151 [(3, .int (Int32.ofNat i)), (1, .ref x0), (2, .ref m0), (0, .ref b)] [] (wX z σ1 ad2 τ1)) : AL z x 4 Q k n 1546 [(3, .int (Int32.ofNat i)), (1, .ref x0), (2, .ref m0), (0, .ref b)] [] (wX z σ ad τ) := by
  refine al_aload_n (j := 1) hC rfl rfl dL_law_1546 ?_
  refine al_aload_n (j := 3) hC rfl rfl dL_law_1547 ?_
  refine al_iload_n (j := 0) hC rfl rfl dL_law_1548 ?_
  refine al_iconst (v := 1) hC rfl dL_law_1549 ?_
  refine al_iadd hC dL_law_1550 ?_
  refine al_sld (j := i + 1) hC hX (Int32.ofNat_add i 1).symm (by omega) dL_law_1551 ?_
  refine al_aload_n (j := 3) hC rfl rfl dL_law_1552 ?_
  refine al_iload_n (j := 0) hC rfl rfl dL_law_1553 ?_
  refine al_iconst (v := 2) hC rfl dL_law_1554 ?_
  refine al_iadd hC dL_law_1555 ?_
  refine al_sld (j := i + 2) hC hX (Int32.ofNat_add i 2).symm (by omega) dL_law_1556 ?_
  refine al_callL (w := wX z σ) (As := [.int (xs (i + 1)), .int (xs (i + 2))]) (rest := []) (s0 := τ) (s1 := τ1) (r0 := r) (q := 36) hC hR lkl_148 (c_W_table τ (xs (i + 1)) (xs (i + 2))) hW (fun _ _ h => eqA.L h) dL_law_1557 recX10 rfl rfl hx0 rfl ⟨by decide, by decide⟩ (Nat.le_of_ble_eq_true rfl) ⟨by omega, by omega⟩ ⟨_, rfl, fun _ => rfl⟩ (fun ad1 hE1 hC => ?_)
  have hm0 := (hE1 0 (by omega)).trans hm0
  show AL z x 4 Q (k + 0) (n + 0) _ _ _ (wM z τ1 ad1 σ)
  refine al_aload_n (j := 2) hC rfl rfl dL_law_1560 ?_
  refine al_aload_n (j := 3) hC rfl rfl dL_law_1561 ?_
  refine al_iload_n (j := 0) hC rfl rfl dL_law_1562 ?_
  refine al_iconst (v := 1) hC rfl dL_law_1563 ?_
  refine al_iadd hC dL_law_1564 ?_
  refine al_sld (j := i + 1) hC hX (Int32.ofNat_add i 1).symm (by omega) dL_law_1565 ?_
  refine al_aload_n (j := 3) hC rfl rfl dL_law_1566 ?_
  refine al_iload_n (j := 0) hC rfl rfl dL_law_1567 ?_
  refine al_iconst (v := 2) hC rfl dL_law_1568 ?_
  refine al_iadd hC dL_law_1569 ?_
  refine al_sld (j := i + 2) hC hX (Int32.ofNat_add i 2).symm (by omega) dL_law_1570 ?_
  refine al_callL (w := wM z τ1) (As := [.int (xs (i + 1)), .int (xs (i + 2))]) (rest := [.int r]) (s0 := σ) (s1 := σ1) (r0 := r) (q := 0) hC hR lkl_151 (c_M_table σ (xs (i + 1)) (xs (i + 2))) hM (fun _ _ h => eqA.L h) dL_law_1571 recX11 rfl rfl hm0 rfl ⟨by decide, by decide⟩ (Nat.le_of_ble_eq_true rfl) ⟨by omega, by omega⟩ ⟨_, rfl, fun _ => rfl⟩ (fun ad2 hE2 hC => ?_)
  show AL z x 4 Q _ _ _ _ _ (wX z σ1 ad2 τ1)
  refine al_icmp_eq (tgt := 2151) hC dL_law_1574 rfl (fun _ => ?_) (fun g => absurd rfl g)
  exact kk ad2 (hE1.trans hE2)
theorem dL_law_1579 : decode code 1579 = .ok (.aload_n 1, 1) := by decide +kernel
theorem dL_law_1580 : decode code 1580 = .ok (.aload_n 0, 1) := by decide +kernel
theorem dL_law_1581 : decode code 1581 = .ok (.iload_n 3, 1) := by decide +kernel
theorem dL_law_1582 : decode code 1582 = .ok (.iconst 1, 1) := by decide +kernel
theorem dL_law_1583 : decode code 1583 = .ok (.iadd, 1) := by decide +kernel
theorem dL_law_1584 : decode code 1584 = .ok (.iaload, 1) := by decide +kernel
theorem dL_law_1585 : decode code 1585 = .ok (.aload_n 0, 1) := by decide +kernel
theorem dL_law_1586 : decode code 1586 = .ok (.iload_n 3, 1) := by decide +kernel
theorem dL_law_1587 : decode code 1587 = .ok (.iconst 2, 1) := by decide +kernel
theorem dL_law_1588 : decode code 1588 = .ok (.iadd, 1) := by decide +kernel
theorem dL_law_1589 : decode code 1589 = .ok (.iaload, 1) := by decide +kernel
theorem dL_law_1590 : decode code 1590 = .ok (.aload_n 0, 1) := by decide +kernel
theorem dL_law_1591 : decode code 1591 = .ok (.iload_n 3, 1) := by decide +kernel
theorem dL_law_1592 : decode code 1592 = .ok (.iconst 3, 1) := by decide +kernel
theorem dL_law_1593 : decode code 1593 = .ok (.iadd, 1) := by decide +kernel
theorem dL_law_1594 : decode code 1594 = .ok (.iaload, 1) := by decide +kernel
theorem dL_law_1595 : decode code 1595 = .ok (.aload_n 0, 1) := by decide +kernel
theorem dL_law_1596 : decode code 1596 = .ok (.iload_n 3, 1) := by decide +kernel
theorem dL_law_1597 : decode code 1597 = .ok (.iconst 4, 1) := by decide +kernel
theorem dL_law_1598 : decode code 1598 = .ok (.iadd, 1) := by decide +kernel
theorem dL_law_1599 : decode code 1599 = .ok (.iaload, 1) := by decide +kernel
theorem dL_law_1600 : decode code 1600 = .ok (.invokevirtual 152, 3) := by decide +kernel
theorem dL_law_1603 : decode code 1603 = .ok (.aload_n 2, 1) := by decide +kernel
theorem dL_law_1604 : decode code 1604 = .ok (.aload_n 0, 1) := by decide +kernel
theorem dL_law_1605 : decode code 1605 = .ok (.iload_n 3, 1) := by decide +kernel
theorem dL_law_1606 : decode code 1606 = .ok (.iconst 1, 1) := by decide +kernel
theorem dL_law_1607 : decode code 1607 = .ok (.iadd, 1) := by decide +kernel
theorem dL_law_1608 : decode code 1608 = .ok (.iaload, 1) := by decide +kernel
theorem dL_law_1609 : decode code 1609 = .ok (.aload_n 0, 1) := by decide +kernel
theorem dL_law_1610 : decode code 1610 = .ok (.iload_n 3, 1) := by decide +kernel
theorem dL_law_1611 : decode code 1611 = .ok (.iconst 2, 1) := by decide +kernel
theorem dL_law_1612 : decode code 1612 = .ok (.iadd, 1) := by decide +kernel
theorem dL_law_1613 : decode code 1613 = .ok (.iaload, 1) := by decide +kernel
theorem dL_law_1614 : decode code 1614 = .ok (.aload_n 0, 1) := by decide +kernel
theorem dL_law_1615 : decode code 1615 = .ok (.iload_n 3, 1) := by decide +kernel
theorem dL_law_1616 : decode code 1616 = .ok (.iconst 3, 1) := by decide +kernel
theorem dL_law_1617 : decode code 1617 = .ok (.iadd, 1) := by decide +kernel
theorem dL_law_1618 : decode code 1618 = .ok (.iaload, 1) := by decide +kernel
theorem dL_law_1619 : decode code 1619 = .ok (.aload_n 0, 1) := by decide +kernel
theorem dL_law_1620 : decode code 1620 = .ok (.iload_n 3, 1) := by decide +kernel
theorem dL_law_1621 : decode code 1621 = .ok (.iconst 4, 1) := by decide +kernel
theorem dL_law_1622 : decode code 1622 = .ok (.iadd, 1) := by decide +kernel
theorem dL_law_1623 : decode code 1623 = .ok (.iaload, 1) := by decide +kernel
theorem dL_law_1624 : decode code 1624 = .ok (.invokevirtual 155, 3) := by decide +kernel
theorem dL_law_1627 : decode code 1627 = .ok (.if_icmp .eq 524, 3) := by decide +kernel
theorem dL_law_1630 : decode code 1630 = .ok (.iconst 0, 1) := by decide +kernel
theorem dL_law_1631 : decode code 1631 = .ok (.ireturn, 1) := by decide +kernel
set_option maxRecDepth 100000 in
theorem law_c32 {z : ZZ} {x : XX} {Q : State → Prop} {k n : Nat} {ad : Nat → Nat} {b L i x0 m0 : Nat} {xs : Nat → Int32} {σ σ1 : MS} {τ τ1 : XS} {r : Int32} (hC : CX z ad x code RL 4 ret) (hR : x.2.2.1 = room_1) (hX : SX z x b L xs) (hx0 : ad 36 = x0) (hm0 : ad 0 = m0) (hi : i + 4 < L) (hk : k + 0 ≤ 600000 ∧ n + 0 ≤ 7302250) (hW : W_own τ (xs (i + 1)) (xs (i + 2)) (xs (i + 3)) (xs (i + 4)) = some (r, τ1)) (hM : M_own σ (xs (i + 1)) (xs (i + 2)) (xs (i + 3)) (xs (i + 4)) = some (r, σ1)) (kk : ∀ ad2, exL ad ad2 → AL z x 4 Q (k + 0 + 0) (n + 0 + 0) 2151 [(3, .int (Int32.ofNat i)), (1, .ref x0), (2, .ref m0), (0, .ref b)] [] (wX z σ1 ad2 τ1)) : AL z x 4 Q k n 1579 [(3, .int (Int32.ofNat i)), (1, .ref x0), (2, .ref m0), (0, .ref b)] [] (wX z σ ad τ) := by
  refine al_aload_n (j := 1) hC rfl rfl dL_law_1579 ?_
  refine al_aload_n (j := 3) hC rfl rfl dL_law_1580 ?_
  refine al_iload_n (j := 0) hC rfl rfl dL_law_1581 ?_
  refine al_iconst (v := 1) hC rfl dL_law_1582 ?_
  refine al_iadd hC dL_law_1583 ?_
  refine al_sld (j := i + 1) hC hX (Int32.ofNat_add i 1).symm (by omega) dL_law_1584 ?_
  refine al_aload_n (j := 3) hC rfl rfl dL_law_1585 ?_
  refine al_iload_n (j := 0) hC rfl rfl dL_law_1586 ?_
  refine al_iconst (v := 2) hC rfl dL_law_1587 ?_
  refine al_iadd hC dL_law_1588 ?_
  refine al_sld (j := i + 2) hC hX (Int32.ofNat_add i 2).symm (by omega) dL_law_1589 ?_
  refine al_aload_n (j := 3) hC rfl rfl dL_law_1590 ?_
  refine al_iload_n (j := 0) hC rfl rfl dL_law_1591 ?_
  refine al_iconst (v := 3) hC rfl dL_law_1592 ?_
  refine al_iadd hC dL_law_1593 ?_
  refine al_sld (j := i + 3) hC hX (Int32.ofNat_add i 3).symm (by omega) dL_law_1594 ?_
  refine al_aload_n (j := 3) hC rfl rfl dL_law_1595 ?_
  refine al_iload_n (j := 0) hC rfl rfl dL_law_1596 ?_
  refine al_iconst (v := 4) hC rfl dL_law_1597 ?_
  refine al_iadd hC dL_law_1598 ?_
  refine al_sld (j := i + 4) hC hX (Int32.ofNat_add i 4).symm (by omega) dL_law_1599 ?_
  refine al_callL (w := wX z σ) (As := [.int (xs (i + 1)), .int (xs (i + 2)), .int (xs (i + 3)), .int (xs (i + 4))]) (rest := []) (s0 := τ) (s1 := τ1) (r0 := r) (q := 36) hC hR lkl_152 (c_W_own τ (xs (i + 1)) (xs (i + 2)) (xs (i + 3)) (xs (i + 4))) hW (fun _ _ h => eqA.L h) dL_law_1600 recX10 rfl rfl hx0 rfl ⟨by decide, by decide⟩ (Nat.le_of_ble_eq_true rfl) ⟨by omega, by omega⟩ ⟨_, rfl, fun _ => rfl⟩ (fun ad1 hE1 hC => ?_)
  have hm0 := (hE1 0 (by omega)).trans hm0
  show AL z x 4 Q (k + 0) (n + 0) _ _ _ (wM z τ1 ad1 σ)
  refine al_aload_n (j := 2) hC rfl rfl dL_law_1603 ?_
  refine al_aload_n (j := 3) hC rfl rfl dL_law_1604 ?_
  refine al_iload_n (j := 0) hC rfl rfl dL_law_1605 ?_
  refine al_iconst (v := 1) hC rfl dL_law_1606 ?_
  refine al_iadd hC dL_law_1607 ?_
  refine al_sld (j := i + 1) hC hX (Int32.ofNat_add i 1).symm (by omega) dL_law_1608 ?_
  refine al_aload_n (j := 3) hC rfl rfl dL_law_1609 ?_
  refine al_iload_n (j := 0) hC rfl rfl dL_law_1610 ?_
  refine al_iconst (v := 2) hC rfl dL_law_1611 ?_
  refine al_iadd hC dL_law_1612 ?_
  refine al_sld (j := i + 2) hC hX (Int32.ofNat_add i 2).symm (by omega) dL_law_1613 ?_
  refine al_aload_n (j := 3) hC rfl rfl dL_law_1614 ?_
  refine al_iload_n (j := 0) hC rfl rfl dL_law_1615 ?_
  refine al_iconst (v := 3) hC rfl dL_law_1616 ?_
  refine al_iadd hC dL_law_1617 ?_
  refine al_sld (j := i + 3) hC hX (Int32.ofNat_add i 3).symm (by omega) dL_law_1618 ?_
  refine al_aload_n (j := 3) hC rfl rfl dL_law_1619 ?_
  refine al_iload_n (j := 0) hC rfl rfl dL_law_1620 ?_
  refine al_iconst (v := 4) hC rfl dL_law_1621 ?_
  refine al_iadd hC dL_law_1622 ?_
  refine al_sld (j := i + 4) hC hX (Int32.ofNat_add i 4).symm (by omega) dL_law_1623 ?_
  refine al_callL (w := wM z τ1) (As := [.int (xs (i + 1)), .int (xs (i + 2)), .int (xs (i + 3)), .int (xs (i + 4))]) (rest := [.int r]) (s0 := σ) (s1 := σ1) (r0 := r) (q := 0) hC hR lkl_155 (c_M_own σ (xs (i + 1)) (xs (i + 2)) (xs (i + 3)) (xs (i + 4))) hM (fun _ _ h => eqA.L h) dL_law_1624 recX11 rfl rfl hm0 rfl ⟨by decide, by decide⟩ (Nat.le_of_ble_eq_true rfl) ⟨by omega, by omega⟩ ⟨_, rfl, fun _ => rfl⟩ (fun ad2 hE2 hC => ?_)
  show AL z x 4 Q _ _ _ _ _ (wX z σ1 ad2 τ1)
  refine al_icmp_eq (tgt := 2151) hC dL_law_1627 rfl (fun _ => ?_) (fun g => absurd rfl g)
  exact kk ad2 (hE1.trans hE2)
theorem dL_law_1632 : decode code 1632 = .ok (.aload_n 1, 1) := by decide +kernel
theorem dL_law_1633 : decode code 1633 = .ok (.aload_n 0, 1) := by decide +kernel
theorem dL_law_1634 : decode code 1634 = .ok (.iload_n 3, 1) := by decide +kernel
theorem dL_law_1635 : decode code 1635 = .ok (.iconst 1, 1) := by decide +kernel
theorem dL_law_1636 : decode code 1636 = .ok (.iadd, 1) := by decide +kernel
theorem dL_law_1637 : decode code 1637 = .ok (.iaload, 1) := by decide +kernel
theorem dL_law_1638 : decode code 1638 = .ok (.aload_n 0, 1) := by decide +kernel
theorem dL_law_1639 : decode code 1639 = .ok (.iload_n 3, 1) := by decide +kernel
theorem dL_law_1640 : decode code 1640 = .ok (.iconst 2, 1) := by decide +kernel
theorem dL_law_1641 : decode code 1641 = .ok (.iadd, 1) := by decide +kernel
theorem dL_law_1642 : decode code 1642 = .ok (.iaload, 1) := by decide +kernel
theorem dL_law_1643 : decode code 1643 = .ok (.invokevirtual 156, 3) := by decide +kernel
theorem dL_law_1646 : decode code 1646 = .ok (.aload_n 2, 1) := by decide +kernel
theorem dL_law_1647 : decode code 1647 = .ok (.aload_n 0, 1) := by decide +kernel
theorem dL_law_1648 : decode code 1648 = .ok (.iload_n 3, 1) := by decide +kernel
theorem dL_law_1649 : decode code 1649 = .ok (.iconst 1, 1) := by decide +kernel
theorem dL_law_1650 : decode code 1650 = .ok (.iadd, 1) := by decide +kernel
theorem dL_law_1651 : decode code 1651 = .ok (.iaload, 1) := by decide +kernel
theorem dL_law_1652 : decode code 1652 = .ok (.aload_n 0, 1) := by decide +kernel
theorem dL_law_1653 : decode code 1653 = .ok (.iload_n 3, 1) := by decide +kernel
theorem dL_law_1654 : decode code 1654 = .ok (.iconst 2, 1) := by decide +kernel
theorem dL_law_1655 : decode code 1655 = .ok (.iadd, 1) := by decide +kernel
theorem dL_law_1656 : decode code 1656 = .ok (.iaload, 1) := by decide +kernel
theorem dL_law_1657 : decode code 1657 = .ok (.invokevirtual 159, 3) := by decide +kernel
theorem dL_law_1660 : decode code 1660 = .ok (.if_icmp .eq 491, 3) := by decide +kernel
theorem dL_law_1663 : decode code 1663 = .ok (.iconst 0, 1) := by decide +kernel
theorem dL_law_1664 : decode code 1664 = .ok (.ireturn, 1) := by decide +kernel
set_option maxRecDepth 100000 in
theorem law_c33 {z : ZZ} {x : XX} {Q : State → Prop} {k n : Nat} {ad : Nat → Nat} {b L i x0 m0 : Nat} {xs : Nat → Int32} {σ σ1 : MS} {τ τ1 : XS} {r : Int32} (hC : CX z ad x code RL 4 ret) (hR : x.2.2.1 = room_1) (hX : SX z x b L xs) (hx0 : ad 36 = x0) (hm0 : ad 0 = m0) (hi : i + 4 < L) (hk : k + 0 ≤ 600000 ∧ n + 0 ≤ 7302250) (eτ : τ1 = τ) (eσ : σ1 = σ) (hW : W_alive τ (xs (i + 1)) (xs (i + 2)) = some r) (hM : M_alive σ (xs (i + 1)) (xs (i + 2)) = some r) (kk : ∀ ad2, exL ad ad2 → AL z x 4 Q (k + 0 + 0) (n + 0 + 0) 2151 [(3, .int (Int32.ofNat i)), (1, .ref x0), (2, .ref m0), (0, .ref b)] [] (wX z σ1 ad2 τ1)) : AL z x 4 Q k n 1632 [(3, .int (Int32.ofNat i)), (1, .ref x0), (2, .ref m0), (0, .ref b)] [] (wX z σ ad τ) := by
  subst eτ
  subst eσ
  refine al_aload_n (j := 1) hC rfl rfl dL_law_1632 ?_
  refine al_aload_n (j := 3) hC rfl rfl dL_law_1633 ?_
  refine al_iload_n (j := 0) hC rfl rfl dL_law_1634 ?_
  refine al_iconst (v := 1) hC rfl dL_law_1635 ?_
  refine al_iadd hC dL_law_1636 ?_
  refine al_sld (j := i + 1) hC hX (Int32.ofNat_add i 1).symm (by omega) dL_law_1637 ?_
  refine al_aload_n (j := 3) hC rfl rfl dL_law_1638 ?_
  refine al_iload_n (j := 0) hC rfl rfl dL_law_1639 ?_
  refine al_iconst (v := 2) hC rfl dL_law_1640 ?_
  refine al_iadd hC dL_law_1641 ?_
  refine al_sld (j := i + 2) hC hX (Int32.ofNat_add i 2).symm (by omega) dL_law_1642 ?_
  refine al_callL (w := wX z σ) (As := [.int (xs (i + 1)), .int (xs (i + 2))]) (rest := []) (s0 := τ) (s1 := τ) (r0 := r) (q := 36) hC hR lkl_156 (c_W_alive τ (xs (i + 1)) (xs (i + 2))) (by rw [hW]; rfl) (fun _ _ h => eqA.L h) dL_law_1643 recX10 rfl rfl hx0 rfl ⟨by decide, by decide⟩ (Nat.le_of_ble_eq_true rfl) ⟨by omega, by omega⟩ ⟨_, rfl, fun _ => rfl⟩ (fun ad1 hE1 hC => ?_)
  have hm0 := (hE1 0 (by omega)).trans hm0
  show AL z x 4 Q (k + 0) (n + 0) _ _ _ (wM z τ1 ad1 σ)
  refine al_aload_n (j := 2) hC rfl rfl dL_law_1646 ?_
  refine al_aload_n (j := 3) hC rfl rfl dL_law_1647 ?_
  refine al_iload_n (j := 0) hC rfl rfl dL_law_1648 ?_
  refine al_iconst (v := 1) hC rfl dL_law_1649 ?_
  refine al_iadd hC dL_law_1650 ?_
  refine al_sld (j := i + 1) hC hX (Int32.ofNat_add i 1).symm (by omega) dL_law_1651 ?_
  refine al_aload_n (j := 3) hC rfl rfl dL_law_1652 ?_
  refine al_iload_n (j := 0) hC rfl rfl dL_law_1653 ?_
  refine al_iconst (v := 2) hC rfl dL_law_1654 ?_
  refine al_iadd hC dL_law_1655 ?_
  refine al_sld (j := i + 2) hC hX (Int32.ofNat_add i 2).symm (by omega) dL_law_1656 ?_
  refine al_callL (w := wM z τ1) (As := [.int (xs (i + 1)), .int (xs (i + 2))]) (rest := [.int r]) (s0 := σ) (s1 := σ) (r0 := r) (q := 0) hC hR lkl_159 (c_M_alive σ (xs (i + 1)) (xs (i + 2))) (by rw [hM]; rfl) (fun _ _ h => eqA.L h) dL_law_1657 recX11 rfl rfl hm0 rfl ⟨by decide, by decide⟩ (Nat.le_of_ble_eq_true rfl) ⟨by omega, by omega⟩ ⟨_, rfl, fun _ => rfl⟩ (fun ad2 hE2 hC => ?_)
  show AL z x 4 Q _ _ _ _ _ (wX z σ1 ad2 τ1)
  refine al_icmp_eq (tgt := 2151) hC dL_law_1660 rfl (fun _ => ?_) (fun g => absurd rfl g)
  exact kk ad2 (hE1.trans hE2)
theorem dL_law_1665 : decode code 1665 = .ok (.aload_n 1, 1) := by decide +kernel
theorem dL_law_1666 : decode code 1666 = .ok (.aload_n 0, 1) := by decide +kernel
theorem dL_law_1667 : decode code 1667 = .ok (.iload_n 3, 1) := by decide +kernel
theorem dL_law_1668 : decode code 1668 = .ok (.iconst 1, 1) := by decide +kernel
theorem dL_law_1669 : decode code 1669 = .ok (.iadd, 1) := by decide +kernel
theorem dL_law_1670 : decode code 1670 = .ok (.iaload, 1) := by decide +kernel
theorem dL_law_1671 : decode code 1671 = .ok (.invokevirtual 160, 3) := by decide +kernel
theorem dL_law_1674 : decode code 1674 = .ok (.aload_n 2, 1) := by decide +kernel
theorem dL_law_1675 : decode code 1675 = .ok (.aload_n 0, 1) := by decide +kernel
theorem dL_law_1676 : decode code 1676 = .ok (.iload_n 3, 1) := by decide +kernel
theorem dL_law_1677 : decode code 1677 = .ok (.iconst 1, 1) := by decide +kernel
theorem dL_law_1678 : decode code 1678 = .ok (.iadd, 1) := by decide +kernel
theorem dL_law_1679 : decode code 1679 = .ok (.iaload, 1) := by decide +kernel
theorem dL_law_1680 : decode code 1680 = .ok (.invokevirtual 163, 3) := by decide +kernel
theorem dL_law_1683 : decode code 1683 = .ok (.if_icmp .eq 468, 3) := by decide +kernel
theorem dL_law_1686 : decode code 1686 = .ok (.iconst 0, 1) := by decide +kernel
theorem dL_law_1687 : decode code 1687 = .ok (.ireturn, 1) := by decide +kernel
set_option maxRecDepth 100000 in
theorem law_c34 {z : ZZ} {x : XX} {Q : State → Prop} {k n : Nat} {ad : Nat → Nat} {b L i x0 m0 : Nat} {xs : Nat → Int32} {σ σ1 : MS} {τ τ1 : XS} {r : Int32} (hC : CX z ad x code RL 4 ret) (hR : x.2.2.1 = room_1) (hX : SX z x b L xs) (hx0 : ad 36 = x0) (hm0 : ad 0 = m0) (hi : i + 4 < L) (hk : k + 0 ≤ 600000 ∧ n + 0 ≤ 7302250) (eτ : τ1 = τ) (eσ : σ1 = σ) (hW : W_expect τ (xs (i + 1)) = some r) (hM : M_expect σ (xs (i + 1)) = some r) (kk : ∀ ad2, exL ad ad2 → AL z x 4 Q (k + 0 + 0) (n + 0 + 0) 2151 [(3, .int (Int32.ofNat i)), (1, .ref x0), (2, .ref m0), (0, .ref b)] [] (wX z σ1 ad2 τ1)) : AL z x 4 Q k n 1665 [(3, .int (Int32.ofNat i)), (1, .ref x0), (2, .ref m0), (0, .ref b)] [] (wX z σ ad τ) := by
  subst eτ
  subst eσ
  refine al_aload_n (j := 1) hC rfl rfl dL_law_1665 ?_
  refine al_aload_n (j := 3) hC rfl rfl dL_law_1666 ?_
  refine al_iload_n (j := 0) hC rfl rfl dL_law_1667 ?_
  refine al_iconst (v := 1) hC rfl dL_law_1668 ?_
  refine al_iadd hC dL_law_1669 ?_
  refine al_sld (j := i + 1) hC hX (Int32.ofNat_add i 1).symm (by omega) dL_law_1670 ?_
  refine al_callL (w := wX z σ) (As := [.int (xs (i + 1))]) (rest := []) (s0 := τ) (s1 := τ) (r0 := r) (q := 36) hC hR lkl_160 (c_W_expect τ (xs (i + 1))) (by rw [hW]; rfl) (fun _ _ h => eqA.L h) dL_law_1671 recX10 rfl rfl hx0 rfl ⟨by decide, by decide⟩ (Nat.le_of_ble_eq_true rfl) ⟨by omega, by omega⟩ ⟨_, rfl, fun _ => rfl⟩ (fun ad1 hE1 hC => ?_)
  have hm0 := (hE1 0 (by omega)).trans hm0
  show AL z x 4 Q (k + 0) (n + 0) _ _ _ (wM z τ1 ad1 σ)
  refine al_aload_n (j := 2) hC rfl rfl dL_law_1674 ?_
  refine al_aload_n (j := 3) hC rfl rfl dL_law_1675 ?_
  refine al_iload_n (j := 0) hC rfl rfl dL_law_1676 ?_
  refine al_iconst (v := 1) hC rfl dL_law_1677 ?_
  refine al_iadd hC dL_law_1678 ?_
  refine al_sld (j := i + 1) hC hX (Int32.ofNat_add i 1).symm (by omega) dL_law_1679 ?_
  refine al_callL (w := wM z τ1) (As := [.int (xs (i + 1))]) (rest := [.int r]) (s0 := σ) (s1 := σ) (r0 := r) (q := 0) hC hR lkl_163 (c_M_expect σ (xs (i + 1))) (by rw [hM]; rfl) (fun _ _ h => eqA.L h) dL_law_1680 recX11 rfl rfl hm0 rfl ⟨by decide, by decide⟩ (Nat.le_of_ble_eq_true rfl) ⟨by omega, by omega⟩ ⟨_, rfl, fun _ => rfl⟩ (fun ad2 hE2 hC => ?_)
  show AL z x 4 Q _ _ _ _ _ (wX z σ1 ad2 τ1)
  refine al_icmp_eq (tgt := 2151) hC dL_law_1683 rfl (fun _ => ?_) (fun g => absurd rfl g)
  exact kk ad2 (hE1.trans hE2)
theorem dL_law_1688 : decode code 1688 = .ok (.aload_n 1, 1) := by decide +kernel
theorem dL_law_1689 : decode code 1689 = .ok (.aload_n 0, 1) := by decide +kernel
theorem dL_law_1690 : decode code 1690 = .ok (.iload_n 3, 1) := by decide +kernel
theorem dL_law_1691 : decode code 1691 = .ok (.iconst 1, 1) := by decide +kernel
theorem dL_law_1692 : decode code 1692 = .ok (.iadd, 1) := by decide +kernel
theorem dL_law_1693 : decode code 1693 = .ok (.iaload, 1) := by decide +kernel
theorem dL_law_1694 : decode code 1694 = .ok (.invokevirtual 164, 3) := by decide +kernel
theorem dL_law_1697 : decode code 1697 = .ok (.aload_n 2, 1) := by decide +kernel
theorem dL_law_1698 : decode code 1698 = .ok (.aload_n 0, 1) := by decide +kernel
theorem dL_law_1699 : decode code 1699 = .ok (.iload_n 3, 1) := by decide +kernel
theorem dL_law_1700 : decode code 1700 = .ok (.iconst 1, 1) := by decide +kernel
theorem dL_law_1701 : decode code 1701 = .ok (.iadd, 1) := by decide +kernel
theorem dL_law_1702 : decode code 1702 = .ok (.iaload, 1) := by decide +kernel
theorem dL_law_1703 : decode code 1703 = .ok (.invokevirtual 167, 3) := by decide +kernel
theorem dL_law_1706 : decode code 1706 = .ok (.if_icmp .eq 445, 3) := by decide +kernel
theorem dL_law_1709 : decode code 1709 = .ok (.iconst 0, 1) := by decide +kernel
theorem dL_law_1710 : decode code 1710 = .ok (.ireturn, 1) := by decide +kernel
set_option maxRecDepth 100000 in
theorem law_c35 {z : ZZ} {x : XX} {Q : State → Prop} {k n : Nat} {ad : Nat → Nat} {b L i x0 m0 : Nat} {xs : Nat → Int32} {σ σ1 : MS} {τ τ1 : XS} {r : Int32} (hC : CX z ad x code RL 4 ret) (hR : x.2.2.1 = room_1) (hX : SX z x b L xs) (hx0 : ad 36 = x0) (hm0 : ad 0 = m0) (hi : i + 4 < L) (hk : k + 0 ≤ 600000 ∧ n + 0 ≤ 7302250) (hW : W_interest τ (xs (i + 1)) = some (r, τ1)) (hM : M_interest σ (xs (i + 1)) = some (r, σ1)) (kk : ∀ ad2, exL ad ad2 → AL z x 4 Q (k + 0 + 0) (n + 0 + 0) 2151 [(3, .int (Int32.ofNat i)), (1, .ref x0), (2, .ref m0), (0, .ref b)] [] (wX z σ1 ad2 τ1)) : AL z x 4 Q k n 1688 [(3, .int (Int32.ofNat i)), (1, .ref x0), (2, .ref m0), (0, .ref b)] [] (wX z σ ad τ) := by
  refine al_aload_n (j := 1) hC rfl rfl dL_law_1688 ?_
  refine al_aload_n (j := 3) hC rfl rfl dL_law_1689 ?_
  refine al_iload_n (j := 0) hC rfl rfl dL_law_1690 ?_
  refine al_iconst (v := 1) hC rfl dL_law_1691 ?_
  refine al_iadd hC dL_law_1692 ?_
  refine al_sld (j := i + 1) hC hX (Int32.ofNat_add i 1).symm (by omega) dL_law_1693 ?_
  refine al_callL (w := wX z σ) (As := [.int (xs (i + 1))]) (rest := []) (s0 := τ) (s1 := τ1) (r0 := r) (q := 36) hC hR lkl_164 (c_W_interest τ (xs (i + 1))) hW (fun _ _ h => eqA.L h) dL_law_1694 recX10 rfl rfl hx0 rfl ⟨by decide, by decide⟩ (Nat.le_of_ble_eq_true rfl) ⟨by omega, by omega⟩ ⟨_, rfl, fun _ => rfl⟩ (fun ad1 hE1 hC => ?_)
  have hm0 := (hE1 0 (by omega)).trans hm0
  show AL z x 4 Q (k + 0) (n + 0) _ _ _ (wM z τ1 ad1 σ)
  refine al_aload_n (j := 2) hC rfl rfl dL_law_1697 ?_
  refine al_aload_n (j := 3) hC rfl rfl dL_law_1698 ?_
  refine al_iload_n (j := 0) hC rfl rfl dL_law_1699 ?_
  refine al_iconst (v := 1) hC rfl dL_law_1700 ?_
  refine al_iadd hC dL_law_1701 ?_
  refine al_sld (j := i + 1) hC hX (Int32.ofNat_add i 1).symm (by omega) dL_law_1702 ?_
  refine al_callL (w := wM z τ1) (As := [.int (xs (i + 1))]) (rest := [.int r]) (s0 := σ) (s1 := σ1) (r0 := r) (q := 0) hC hR lkl_167 (c_M_interest σ (xs (i + 1))) hM (fun _ _ h => eqA.L h) dL_law_1703 recX11 rfl rfl hm0 rfl ⟨by decide, by decide⟩ (Nat.le_of_ble_eq_true rfl) ⟨by omega, by omega⟩ ⟨_, rfl, fun _ => rfl⟩ (fun ad2 hE2 hC => ?_)
  show AL z x 4 Q _ _ _ _ _ (wX z σ1 ad2 τ1)
  refine al_icmp_eq (tgt := 2151) hC dL_law_1706 rfl (fun _ => ?_) (fun g => absurd rfl g)
  exact kk ad2 (hE1.trans hE2)
theorem dL_law_1711 : decode code 1711 = .ok (.aload_n 1, 1) := by decide +kernel
theorem dL_law_1712 : decode code 1712 = .ok (.aload_n 0, 1) := by decide +kernel
theorem dL_law_1713 : decode code 1713 = .ok (.iload_n 3, 1) := by decide +kernel
theorem dL_law_1714 : decode code 1714 = .ok (.iconst 1, 1) := by decide +kernel
theorem dL_law_1715 : decode code 1715 = .ok (.iadd, 1) := by decide +kernel
theorem dL_law_1716 : decode code 1716 = .ok (.iaload, 1) := by decide +kernel
theorem dL_law_1717 : decode code 1717 = .ok (.aload_n 0, 1) := by decide +kernel
theorem dL_law_1718 : decode code 1718 = .ok (.iload_n 3, 1) := by decide +kernel
theorem dL_law_1719 : decode code 1719 = .ok (.iconst 2, 1) := by decide +kernel
theorem dL_law_1720 : decode code 1720 = .ok (.iadd, 1) := by decide +kernel
theorem dL_law_1721 : decode code 1721 = .ok (.iaload, 1) := by decide +kernel
theorem dL_law_1722 : decode code 1722 = .ok (.invokevirtual 168, 3) := by decide +kernel
theorem dL_law_1725 : decode code 1725 = .ok (.aload_n 2, 1) := by decide +kernel
theorem dL_law_1726 : decode code 1726 = .ok (.aload_n 0, 1) := by decide +kernel
theorem dL_law_1727 : decode code 1727 = .ok (.iload_n 3, 1) := by decide +kernel
theorem dL_law_1728 : decode code 1728 = .ok (.iconst 1, 1) := by decide +kernel
theorem dL_law_1729 : decode code 1729 = .ok (.iadd, 1) := by decide +kernel
theorem dL_law_1730 : decode code 1730 = .ok (.iaload, 1) := by decide +kernel
theorem dL_law_1731 : decode code 1731 = .ok (.aload_n 0, 1) := by decide +kernel
theorem dL_law_1732 : decode code 1732 = .ok (.iload_n 3, 1) := by decide +kernel
theorem dL_law_1733 : decode code 1733 = .ok (.iconst 2, 1) := by decide +kernel
theorem dL_law_1734 : decode code 1734 = .ok (.iadd, 1) := by decide +kernel
theorem dL_law_1735 : decode code 1735 = .ok (.iaload, 1) := by decide +kernel
theorem dL_law_1736 : decode code 1736 = .ok (.invokevirtual 171, 3) := by decide +kernel
theorem dL_law_1739 : decode code 1739 = .ok (.lcmp, 1) := by decide +kernel
theorem dL_law_1740 : decode code 1740 = .ok (.ifCond .eq 411, 3) := by decide +kernel
theorem dL_law_1743 : decode code 1743 = .ok (.iconst 0, 1) := by decide +kernel
theorem dL_law_1744 : decode code 1744 = .ok (.ireturn, 1) := by decide +kernel
set_option maxRecDepth 100000 in
theorem law_c36 {z : ZZ} {x : XX} {Q : State → Prop} {k n : Nat} {ad : Nat → Nat} {b L i x0 m0 : Nat} {xs : Nat → Int32} {σ σ1 : MS} {τ τ1 : XS} {r : Int64} (hC : CX z ad x code RL 4 ret) (hR : x.2.2.1 = room_1) (hX : SX z x b L xs) (hx0 : ad 36 = x0) (hm0 : ad 0 = m0) (hi : i + 4 < L) (hk : k + 0 ≤ 600000 ∧ n + 0 ≤ 7302250) (eτ : τ1 = τ) (eσ : σ1 = σ) (hW : W_worth τ (xs (i + 1)) (xs (i + 2)) = some r) (hM : M_worth σ (xs (i + 1)) (xs (i + 2)) = some r) (kk : ∀ ad2, exL ad ad2 → AL z x 4 Q (k + 0 + 0) (n + 0 + 0) 2151 [(3, .int (Int32.ofNat i)), (1, .ref x0), (2, .ref m0), (0, .ref b)] [] (wX z σ1 ad2 τ1)) : AL z x 4 Q k n 1711 [(3, .int (Int32.ofNat i)), (1, .ref x0), (2, .ref m0), (0, .ref b)] [] (wX z σ ad τ) := by
  subst eτ
  subst eσ
  refine al_aload_n (j := 1) hC rfl rfl dL_law_1711 ?_
  refine al_aload_n (j := 3) hC rfl rfl dL_law_1712 ?_
  refine al_iload_n (j := 0) hC rfl rfl dL_law_1713 ?_
  refine al_iconst (v := 1) hC rfl dL_law_1714 ?_
  refine al_iadd hC dL_law_1715 ?_
  refine al_sld (j := i + 1) hC hX (Int32.ofNat_add i 1).symm (by omega) dL_law_1716 ?_
  refine al_aload_n (j := 3) hC rfl rfl dL_law_1717 ?_
  refine al_iload_n (j := 0) hC rfl rfl dL_law_1718 ?_
  refine al_iconst (v := 2) hC rfl dL_law_1719 ?_
  refine al_iadd hC dL_law_1720 ?_
  refine al_sld (j := i + 2) hC hX (Int32.ofNat_add i 2).symm (by omega) dL_law_1721 ?_
  refine al_callL (w := wX z σ) (As := [.int (xs (i + 1)), .int (xs (i + 2))]) (rest := []) (s0 := τ) (s1 := τ) (r0 := r) (q := 36) hC hR lkl_168 (c_W_worth τ (xs (i + 1)) (xs (i + 2))) (by rw [hW]; rfl) (fun _ _ h => eqA.L h) dL_law_1722 recX10 rfl rfl hx0 rfl ⟨by decide, by decide⟩ (Nat.le_of_ble_eq_true rfl) ⟨by omega, by omega⟩ ⟨_, rfl, fun _ => rfl⟩ (fun ad1 hE1 hC => ?_)
  have hm0 := (hE1 0 (by omega)).trans hm0
  show AL z x 4 Q (k + 0) (n + 0) _ _ _ (wM z τ1 ad1 σ)
  refine al_aload_n (j := 2) hC rfl rfl dL_law_1725 ?_
  refine al_aload_n (j := 3) hC rfl rfl dL_law_1726 ?_
  refine al_iload_n (j := 0) hC rfl rfl dL_law_1727 ?_
  refine al_iconst (v := 1) hC rfl dL_law_1728 ?_
  refine al_iadd hC dL_law_1729 ?_
  refine al_sld (j := i + 1) hC hX (Int32.ofNat_add i 1).symm (by omega) dL_law_1730 ?_
  refine al_aload_n (j := 3) hC rfl rfl dL_law_1731 ?_
  refine al_iload_n (j := 0) hC rfl rfl dL_law_1732 ?_
  refine al_iconst (v := 2) hC rfl dL_law_1733 ?_
  refine al_iadd hC dL_law_1734 ?_
  refine al_sld (j := i + 2) hC hX (Int32.ofNat_add i 2).symm (by omega) dL_law_1735 ?_
  refine al_callL (w := wM z τ1) (As := [.int (xs (i + 1)), .int (xs (i + 2))]) (rest := [.long r]) (s0 := σ) (s1 := σ) (r0 := r) (q := 0) hC hR lkl_171 (c_M_worth σ (xs (i + 1)) (xs (i + 2))) (by rw [hM]; rfl) (fun _ _ h => eqA.L h) dL_law_1736 recX11 rfl rfl hm0 rfl ⟨by decide, by decide⟩ (Nat.le_of_ble_eq_true rfl) ⟨by omega, by omega⟩ ⟨_, rfl, fun _ => rfl⟩ (fun ad2 hE2 hC => ?_)
  show AL z x 4 Q _ _ _ _ _ (wX z σ1 ad2 τ1)
  refine al_lcmp hC dL_law_1739 ?_
  rw [ict_eq]
  refine al_if_eq (tgt := 2151) hC dL_law_1740 rfl (fun _ => ?_) (fun g => absurd rfl g)
  exact kk ad2 (hE1.trans hE2)
theorem dL_law_1745 : decode code 1745 = .ok (.aload_n 1, 1) := by decide +kernel
theorem dL_law_1746 : decode code 1746 = .ok (.aload_n 0, 1) := by decide +kernel
theorem dL_law_1747 : decode code 1747 = .ok (.iload_n 3, 1) := by decide +kernel
theorem dL_law_1748 : decode code 1748 = .ok (.iconst 1, 1) := by decide +kernel
theorem dL_law_1749 : decode code 1749 = .ok (.iadd, 1) := by decide +kernel
theorem dL_law_1750 : decode code 1750 = .ok (.iaload, 1) := by decide +kernel
theorem dL_law_1751 : decode code 1751 = .ok (.aload_n 0, 1) := by decide +kernel
theorem dL_law_1752 : decode code 1752 = .ok (.iload_n 3, 1) := by decide +kernel
theorem dL_law_1753 : decode code 1753 = .ok (.iconst 2, 1) := by decide +kernel
theorem dL_law_1754 : decode code 1754 = .ok (.iadd, 1) := by decide +kernel
theorem dL_law_1755 : decode code 1755 = .ok (.iaload, 1) := by decide +kernel
theorem dL_law_1756 : decode code 1756 = .ok (.invokevirtual 172, 3) := by decide +kernel
theorem dL_law_1759 : decode code 1759 = .ok (.aload_n 2, 1) := by decide +kernel
theorem dL_law_1760 : decode code 1760 = .ok (.aload_n 0, 1) := by decide +kernel
theorem dL_law_1761 : decode code 1761 = .ok (.iload_n 3, 1) := by decide +kernel
theorem dL_law_1762 : decode code 1762 = .ok (.iconst 1, 1) := by decide +kernel
theorem dL_law_1763 : decode code 1763 = .ok (.iadd, 1) := by decide +kernel
theorem dL_law_1764 : decode code 1764 = .ok (.iaload, 1) := by decide +kernel
theorem dL_law_1765 : decode code 1765 = .ok (.aload_n 0, 1) := by decide +kernel
theorem dL_law_1766 : decode code 1766 = .ok (.iload_n 3, 1) := by decide +kernel
theorem dL_law_1767 : decode code 1767 = .ok (.iconst 2, 1) := by decide +kernel
theorem dL_law_1768 : decode code 1768 = .ok (.iadd, 1) := by decide +kernel
theorem dL_law_1769 : decode code 1769 = .ok (.iaload, 1) := by decide +kernel
theorem dL_law_1770 : decode code 1770 = .ok (.invokevirtual 175, 3) := by decide +kernel
theorem dL_law_1773 : decode code 1773 = .ok (.lcmp, 1) := by decide +kernel
theorem dL_law_1774 : decode code 1774 = .ok (.ifCond .eq 377, 3) := by decide +kernel
theorem dL_law_1777 : decode code 1777 = .ok (.iconst 0, 1) := by decide +kernel
theorem dL_law_1778 : decode code 1778 = .ok (.ireturn, 1) := by decide +kernel
set_option maxRecDepth 100000 in
theorem law_c37 {z : ZZ} {x : XX} {Q : State → Prop} {k n : Nat} {ad : Nat → Nat} {b L i x0 m0 : Nat} {xs : Nat → Int32} {σ σ1 : MS} {τ τ1 : XS} {r : Int64} (hC : CX z ad x code RL 4 ret) (hR : x.2.2.1 = room_1) (hX : SX z x b L xs) (hx0 : ad 36 = x0) (hm0 : ad 0 = m0) (hi : i + 4 < L) (hk : k + 0 ≤ 600000 ∧ n + 0 ≤ 7302250) (hW : W_value τ (xs (i + 1)) (xs (i + 2)) = some (r, τ1)) (hM : M_value σ (xs (i + 1)) (xs (i + 2)) = some (r, σ1)) (kk : ∀ ad2, exL ad ad2 → AL z x 4 Q (k + 0 + 0) (n + 0 + 0) 2151 [(3, .int (Int32.ofNat i)), (1, .ref x0), (2, .ref m0), (0, .ref b)] [] (wX z σ1 ad2 τ1)) : AL z x 4 Q k n 1745 [(3, .int (Int32.ofNat i)), (1, .ref x0), (2, .ref m0), (0, .ref b)] [] (wX z σ ad τ) := by
  refine al_aload_n (j := 1) hC rfl rfl dL_law_1745 ?_
  refine al_aload_n (j := 3) hC rfl rfl dL_law_1746 ?_
  refine al_iload_n (j := 0) hC rfl rfl dL_law_1747 ?_
  refine al_iconst (v := 1) hC rfl dL_law_1748 ?_
  refine al_iadd hC dL_law_1749 ?_
  refine al_sld (j := i + 1) hC hX (Int32.ofNat_add i 1).symm (by omega) dL_law_1750 ?_
  refine al_aload_n (j := 3) hC rfl rfl dL_law_1751 ?_
  refine al_iload_n (j := 0) hC rfl rfl dL_law_1752 ?_
  refine al_iconst (v := 2) hC rfl dL_law_1753 ?_
  refine al_iadd hC dL_law_1754 ?_
  refine al_sld (j := i + 2) hC hX (Int32.ofNat_add i 2).symm (by omega) dL_law_1755 ?_
  refine al_callL (w := wX z σ) (As := [.int (xs (i + 1)), .int (xs (i + 2))]) (rest := []) (s0 := τ) (s1 := τ1) (r0 := r) (q := 36) hC hR lkl_172 (c_W_value τ (xs (i + 1)) (xs (i + 2))) hW (fun _ _ h => eqA.L h) dL_law_1756 recX10 rfl rfl hx0 rfl ⟨by decide, by decide⟩ (Nat.le_of_ble_eq_true rfl) ⟨by omega, by omega⟩ ⟨_, rfl, fun _ => rfl⟩ (fun ad1 hE1 hC => ?_)
  have hm0 := (hE1 0 (by omega)).trans hm0
  show AL z x 4 Q (k + 0) (n + 0) _ _ _ (wM z τ1 ad1 σ)
  refine al_aload_n (j := 2) hC rfl rfl dL_law_1759 ?_
  refine al_aload_n (j := 3) hC rfl rfl dL_law_1760 ?_
  refine al_iload_n (j := 0) hC rfl rfl dL_law_1761 ?_
  refine al_iconst (v := 1) hC rfl dL_law_1762 ?_
  refine al_iadd hC dL_law_1763 ?_
  refine al_sld (j := i + 1) hC hX (Int32.ofNat_add i 1).symm (by omega) dL_law_1764 ?_
  refine al_aload_n (j := 3) hC rfl rfl dL_law_1765 ?_
  refine al_iload_n (j := 0) hC rfl rfl dL_law_1766 ?_
  refine al_iconst (v := 2) hC rfl dL_law_1767 ?_
  refine al_iadd hC dL_law_1768 ?_
  refine al_sld (j := i + 2) hC hX (Int32.ofNat_add i 2).symm (by omega) dL_law_1769 ?_
  refine al_callL (w := wM z τ1) (As := [.int (xs (i + 1)), .int (xs (i + 2))]) (rest := [.long r]) (s0 := σ) (s1 := σ1) (r0 := r) (q := 0) hC hR lkl_175 (c_M_value σ (xs (i + 1)) (xs (i + 2))) hM (fun _ _ h => eqA.L h) dL_law_1770 recX11 rfl rfl hm0 rfl ⟨by decide, by decide⟩ (Nat.le_of_ble_eq_true rfl) ⟨by omega, by omega⟩ ⟨_, rfl, fun _ => rfl⟩ (fun ad2 hE2 hC => ?_)
  show AL z x 4 Q _ _ _ _ _ (wX z σ1 ad2 τ1)
  refine al_lcmp hC dL_law_1773 ?_
  rw [ict_eq]
  refine al_if_eq (tgt := 2151) hC dL_law_1774 rfl (fun _ => ?_) (fun g => absurd rfl g)
  exact kk ad2 (hE1.trans hE2)
theorem dL_law_1779 : decode code 1779 = .ok (.aload_n 1, 1) := by decide +kernel
theorem dL_law_1780 : decode code 1780 = .ok (.invokevirtual 176, 3) := by decide +kernel
theorem dL_law_1783 : decode code 1783 = .ok (.aload_n 2, 1) := by decide +kernel
theorem dL_law_1784 : decode code 1784 = .ok (.invokevirtual 180, 3) := by decide +kernel
theorem dL_law_1787 : decode code 1787 = .ok (.if_icmp .eq 364, 3) := by decide +kernel
theorem dL_law_1790 : decode code 1790 = .ok (.iconst 0, 1) := by decide +kernel
theorem dL_law_1791 : decode code 1791 = .ok (.ireturn, 1) := by decide +kernel
set_option maxRecDepth 100000 in
theorem law_c38 {z : ZZ} {x : XX} {Q : State → Prop} {k n : Nat} {ad : Nat → Nat} {b L i x0 m0 : Nat} {xs : Nat → Int32} {σ σ1 : MS} {τ τ1 : XS} {r : Int32} (hC : CX z ad x code RL 4 ret) (hR : x.2.2.1 = room_1) (hX : SX z x b L xs) (hx0 : ad 36 = x0) (hm0 : ad 0 = m0) (hi : i + 4 < L) (hk : k + 0 ≤ 600000 ∧ n + 0 ≤ 7302250) (hW : W_row τ = some (r, τ1)) (hM : M_row σ = some (r, σ1)) (kk : ∀ ad2, exL ad ad2 → AL z x 4 Q (k + 0 + 0) (n + 0 + 0) 2151 [(3, .int (Int32.ofNat i)), (1, .ref x0), (2, .ref m0), (0, .ref b)] [] (wX z σ1 ad2 τ1)) : AL z x 4 Q k n 1779 [(3, .int (Int32.ofNat i)), (1, .ref x0), (2, .ref m0), (0, .ref b)] [] (wX z σ ad τ) := by
  refine al_aload_n (j := 1) hC rfl rfl dL_law_1779 ?_
  refine al_callL (w := wX z σ) (As := []) (rest := []) (s0 := τ) (s1 := τ1) (r0 := r) (q := 36) hC hR lkl_176 (c_W_row τ) hW (fun _ _ h => eqA.L h) dL_law_1780 recX10 rfl rfl hx0 rfl ⟨by decide, by decide⟩ (Nat.le_of_ble_eq_true rfl) ⟨by omega, by omega⟩ ⟨_, rfl, fun _ => rfl⟩ (fun ad1 hE1 hC => ?_)
  have hm0 := (hE1 0 (by omega)).trans hm0
  show AL z x 4 Q (k + 0) (n + 0) _ _ _ (wM z τ1 ad1 σ)
  refine al_aload_n (j := 2) hC rfl rfl dL_law_1783 ?_
  refine al_callL (w := wM z τ1) (As := []) (rest := [.int r]) (s0 := σ) (s1 := σ1) (r0 := r) (q := 0) hC hR lkl_180 (c_M_row σ) hM (fun _ _ h => eqA.L h) dL_law_1784 recX11 rfl rfl hm0 rfl ⟨by decide, by decide⟩ (Nat.le_of_ble_eq_true rfl) ⟨by omega, by omega⟩ ⟨_, rfl, fun _ => rfl⟩ (fun ad2 hE2 hC => ?_)
  show AL z x 4 Q _ _ _ _ _ (wX z σ1 ad2 τ1)
  refine al_icmp_eq (tgt := 2151) hC dL_law_1787 rfl (fun _ => ?_) (fun g => absurd rfl g)
  exact kk ad2 (hE1.trans hE2)
theorem dL_law_1792 : decode code 1792 = .ok (.aload_n 1, 1) := by decide +kernel
theorem dL_law_1793 : decode code 1793 = .ok (.aload_n 0, 1) := by decide +kernel
theorem dL_law_1794 : decode code 1794 = .ok (.iload_n 3, 1) := by decide +kernel
theorem dL_law_1795 : decode code 1795 = .ok (.iconst 1, 1) := by decide +kernel
theorem dL_law_1796 : decode code 1796 = .ok (.iadd, 1) := by decide +kernel
theorem dL_law_1797 : decode code 1797 = .ok (.iaload, 1) := by decide +kernel
theorem dL_law_1798 : decode code 1798 = .ok (.aload_n 0, 1) := by decide +kernel
theorem dL_law_1799 : decode code 1799 = .ok (.iload_n 3, 1) := by decide +kernel
theorem dL_law_1800 : decode code 1800 = .ok (.iconst 2, 1) := by decide +kernel
theorem dL_law_1801 : decode code 1801 = .ok (.iadd, 1) := by decide +kernel
theorem dL_law_1802 : decode code 1802 = .ok (.iaload, 1) := by decide +kernel
theorem dL_law_1803 : decode code 1803 = .ok (.aload_n 0, 1) := by decide +kernel
theorem dL_law_1804 : decode code 1804 = .ok (.iload_n 3, 1) := by decide +kernel
theorem dL_law_1805 : decode code 1805 = .ok (.iconst 3, 1) := by decide +kernel
theorem dL_law_1806 : decode code 1806 = .ok (.iadd, 1) := by decide +kernel
theorem dL_law_1807 : decode code 1807 = .ok (.iaload, 1) := by decide +kernel
theorem dL_law_1808 : decode code 1808 = .ok (.invokevirtual 181, 3) := by decide +kernel
theorem dL_law_1811 : decode code 1811 = .ok (.aload_n 2, 1) := by decide +kernel
theorem dL_law_1812 : decode code 1812 = .ok (.aload_n 0, 1) := by decide +kernel
theorem dL_law_1813 : decode code 1813 = .ok (.iload_n 3, 1) := by decide +kernel
theorem dL_law_1814 : decode code 1814 = .ok (.iconst 1, 1) := by decide +kernel
theorem dL_law_1815 : decode code 1815 = .ok (.iadd, 1) := by decide +kernel
theorem dL_law_1816 : decode code 1816 = .ok (.iaload, 1) := by decide +kernel
theorem dL_law_1817 : decode code 1817 = .ok (.aload_n 0, 1) := by decide +kernel
theorem dL_law_1818 : decode code 1818 = .ok (.iload_n 3, 1) := by decide +kernel
theorem dL_law_1819 : decode code 1819 = .ok (.iconst 2, 1) := by decide +kernel
theorem dL_law_1820 : decode code 1820 = .ok (.iadd, 1) := by decide +kernel
theorem dL_law_1821 : decode code 1821 = .ok (.iaload, 1) := by decide +kernel
theorem dL_law_1822 : decode code 1822 = .ok (.aload_n 0, 1) := by decide +kernel
theorem dL_law_1823 : decode code 1823 = .ok (.iload_n 3, 1) := by decide +kernel
theorem dL_law_1824 : decode code 1824 = .ok (.iconst 3, 1) := by decide +kernel
theorem dL_law_1825 : decode code 1825 = .ok (.iadd, 1) := by decide +kernel
theorem dL_law_1826 : decode code 1826 = .ok (.iaload, 1) := by decide +kernel
theorem dL_law_1827 : decode code 1827 = .ok (.invokevirtual 184, 3) := by decide +kernel
theorem dL_law_1830 : decode code 1830 = .ok (.if_icmp .eq 321, 3) := by decide +kernel
theorem dL_law_1833 : decode code 1833 = .ok (.iconst 0, 1) := by decide +kernel
theorem dL_law_1834 : decode code 1834 = .ok (.ireturn, 1) := by decide +kernel
set_option maxRecDepth 100000 in
theorem law_c39 {z : ZZ} {x : XX} {Q : State → Prop} {k n : Nat} {ad : Nat → Nat} {b L i x0 m0 : Nat} {xs : Nat → Int32} {σ σ1 : MS} {τ τ1 : XS} {r : Int32} (hC : CX z ad x code RL 4 ret) (hR : x.2.2.1 = room_1) (hX : SX z x b L xs) (hx0 : ad 36 = x0) (hm0 : ad 0 = m0) (hi : i + 4 < L) (hk : k + 0 ≤ 600000 ∧ n + 0 ≤ 7302250) (hW : W_rows τ (xs (i + 1)) (xs (i + 2)) (xs (i + 3)) = some (r, τ1)) (hM : M_rows σ (xs (i + 1)) (xs (i + 2)) (xs (i + 3)) = some (r, σ1)) (kk : ∀ ad2, exL ad ad2 → AL z x 4 Q (k + 0 + 0) (n + 0 + 0) 2151 [(3, .int (Int32.ofNat i)), (1, .ref x0), (2, .ref m0), (0, .ref b)] [] (wX z σ1 ad2 τ1)) : AL z x 4 Q k n 1792 [(3, .int (Int32.ofNat i)), (1, .ref x0), (2, .ref m0), (0, .ref b)] [] (wX z σ ad τ) := by
  refine al_aload_n (j := 1) hC rfl rfl dL_law_1792 ?_
  refine al_aload_n (j := 3) hC rfl rfl dL_law_1793 ?_
  refine al_iload_n (j := 0) hC rfl rfl dL_law_1794 ?_
  refine al_iconst (v := 1) hC rfl dL_law_1795 ?_
  refine al_iadd hC dL_law_1796 ?_
  refine al_sld (j := i + 1) hC hX (Int32.ofNat_add i 1).symm (by omega) dL_law_1797 ?_
  refine al_aload_n (j := 3) hC rfl rfl dL_law_1798 ?_
  refine al_iload_n (j := 0) hC rfl rfl dL_law_1799 ?_
  refine al_iconst (v := 2) hC rfl dL_law_1800 ?_
  refine al_iadd hC dL_law_1801 ?_
  refine al_sld (j := i + 2) hC hX (Int32.ofNat_add i 2).symm (by omega) dL_law_1802 ?_
  refine al_aload_n (j := 3) hC rfl rfl dL_law_1803 ?_
  refine al_iload_n (j := 0) hC rfl rfl dL_law_1804 ?_
  refine al_iconst (v := 3) hC rfl dL_law_1805 ?_
  refine al_iadd hC dL_law_1806 ?_
  refine al_sld (j := i + 3) hC hX (Int32.ofNat_add i 3).symm (by omega) dL_law_1807 ?_
  refine al_callL (w := wX z σ) (As := [.int (xs (i + 1)), .int (xs (i + 2)), .int (xs (i + 3))]) (rest := []) (s0 := τ) (s1 := τ1) (r0 := r) (q := 36) hC hR lkl_181 (c_W_rows τ (xs (i + 1)) (xs (i + 2)) (xs (i + 3))) hW (fun _ _ h => eqA.L h) dL_law_1808 recX10 rfl rfl hx0 rfl ⟨by decide, by decide⟩ (Nat.le_of_ble_eq_true rfl) ⟨by omega, by omega⟩ ⟨_, rfl, fun _ => rfl⟩ (fun ad1 hE1 hC => ?_)
  have hm0 := (hE1 0 (by omega)).trans hm0
  show AL z x 4 Q (k + 0) (n + 0) _ _ _ (wM z τ1 ad1 σ)
  refine al_aload_n (j := 2) hC rfl rfl dL_law_1811 ?_
  refine al_aload_n (j := 3) hC rfl rfl dL_law_1812 ?_
  refine al_iload_n (j := 0) hC rfl rfl dL_law_1813 ?_
  refine al_iconst (v := 1) hC rfl dL_law_1814 ?_
  refine al_iadd hC dL_law_1815 ?_
  refine al_sld (j := i + 1) hC hX (Int32.ofNat_add i 1).symm (by omega) dL_law_1816 ?_
  refine al_aload_n (j := 3) hC rfl rfl dL_law_1817 ?_
  refine al_iload_n (j := 0) hC rfl rfl dL_law_1818 ?_
  refine al_iconst (v := 2) hC rfl dL_law_1819 ?_
  refine al_iadd hC dL_law_1820 ?_
  refine al_sld (j := i + 2) hC hX (Int32.ofNat_add i 2).symm (by omega) dL_law_1821 ?_
  refine al_aload_n (j := 3) hC rfl rfl dL_law_1822 ?_
  refine al_iload_n (j := 0) hC rfl rfl dL_law_1823 ?_
  refine al_iconst (v := 3) hC rfl dL_law_1824 ?_
  refine al_iadd hC dL_law_1825 ?_
  refine al_sld (j := i + 3) hC hX (Int32.ofNat_add i 3).symm (by omega) dL_law_1826 ?_
  refine al_callL (w := wM z τ1) (As := [.int (xs (i + 1)), .int (xs (i + 2)), .int (xs (i + 3))]) (rest := [.int r]) (s0 := σ) (s1 := σ1) (r0 := r) (q := 0) hC hR lkl_184 (c_M_rows σ (xs (i + 1)) (xs (i + 2)) (xs (i + 3))) hM (fun _ _ h => eqA.L h) dL_law_1827 recX11 rfl rfl hm0 rfl ⟨by decide, by decide⟩ (Nat.le_of_ble_eq_true rfl) ⟨by omega, by omega⟩ ⟨_, rfl, fun _ => rfl⟩ (fun ad2 hE2 hC => ?_)
  show AL z x 4 Q _ _ _ _ _ (wX z σ1 ad2 τ1)
  refine al_icmp_eq (tgt := 2151) hC dL_law_1830 rfl (fun _ => ?_) (fun g => absurd rfl g)
  exact kk ad2 (hE1.trans hE2)
theorem dL_law_1835 : decode code 1835 = .ok (.aload_n 1, 1) := by decide +kernel
theorem dL_law_1836 : decode code 1836 = .ok (.aload_n 0, 1) := by decide +kernel
theorem dL_law_1837 : decode code 1837 = .ok (.iload_n 3, 1) := by decide +kernel
theorem dL_law_1838 : decode code 1838 = .ok (.iconst 1, 1) := by decide +kernel
theorem dL_law_1839 : decode code 1839 = .ok (.iadd, 1) := by decide +kernel
theorem dL_law_1840 : decode code 1840 = .ok (.iaload, 1) := by decide +kernel
theorem dL_law_1841 : decode code 1841 = .ok (.aload_n 0, 1) := by decide +kernel
theorem dL_law_1842 : decode code 1842 = .ok (.iload_n 3, 1) := by decide +kernel
theorem dL_law_1843 : decode code 1843 = .ok (.iconst 2, 1) := by decide +kernel
theorem dL_law_1844 : decode code 1844 = .ok (.iadd, 1) := by decide +kernel
theorem dL_law_1845 : decode code 1845 = .ok (.iaload, 1) := by decide +kernel
theorem dL_law_1846 : decode code 1846 = .ok (.aload_n 0, 1) := by decide +kernel
theorem dL_law_1847 : decode code 1847 = .ok (.iload_n 3, 1) := by decide +kernel
theorem dL_law_1848 : decode code 1848 = .ok (.iconst 3, 1) := by decide +kernel
theorem dL_law_1849 : decode code 1849 = .ok (.iadd, 1) := by decide +kernel
theorem dL_law_1850 : decode code 1850 = .ok (.iaload, 1) := by decide +kernel
theorem dL_law_1851 : decode code 1851 = .ok (.invokevirtual 185, 3) := by decide +kernel
theorem dL_law_1854 : decode code 1854 = .ok (.aload_n 2, 1) := by decide +kernel
theorem dL_law_1855 : decode code 1855 = .ok (.aload_n 0, 1) := by decide +kernel
theorem dL_law_1856 : decode code 1856 = .ok (.iload_n 3, 1) := by decide +kernel
theorem dL_law_1857 : decode code 1857 = .ok (.iconst 1, 1) := by decide +kernel
theorem dL_law_1858 : decode code 1858 = .ok (.iadd, 1) := by decide +kernel
theorem dL_law_1859 : decode code 1859 = .ok (.iaload, 1) := by decide +kernel
theorem dL_law_1860 : decode code 1860 = .ok (.aload_n 0, 1) := by decide +kernel
theorem dL_law_1861 : decode code 1861 = .ok (.iload_n 3, 1) := by decide +kernel
theorem dL_law_1862 : decode code 1862 = .ok (.iconst 2, 1) := by decide +kernel
theorem dL_law_1863 : decode code 1863 = .ok (.iadd, 1) := by decide +kernel
theorem dL_law_1864 : decode code 1864 = .ok (.iaload, 1) := by decide +kernel
theorem dL_law_1865 : decode code 1865 = .ok (.aload_n 0, 1) := by decide +kernel
theorem dL_law_1866 : decode code 1866 = .ok (.iload_n 3, 1) := by decide +kernel
theorem dL_law_1867 : decode code 1867 = .ok (.iconst 3, 1) := by decide +kernel
theorem dL_law_1868 : decode code 1868 = .ok (.iadd, 1) := by decide +kernel
theorem dL_law_1869 : decode code 1869 = .ok (.iaload, 1) := by decide +kernel
theorem dL_law_1870 : decode code 1870 = .ok (.invokevirtual 188, 3) := by decide +kernel
theorem dL_law_1873 : decode code 1873 = .ok (.if_icmp .eq 278, 3) := by decide +kernel
theorem dL_law_1876 : decode code 1876 = .ok (.iconst 0, 1) := by decide +kernel
theorem dL_law_1877 : decode code 1877 = .ok (.ireturn, 1) := by decide +kernel
set_option maxRecDepth 100000 in
theorem law_c40 {z : ZZ} {x : XX} {Q : State → Prop} {k n : Nat} {ad : Nat → Nat} {b L i x0 m0 : Nat} {xs : Nat → Int32} {σ σ1 : MS} {τ τ1 : XS} {r : Int32} (hC : CX z ad x code RL 4 ret) (hR : x.2.2.1 = room_1) (hX : SX z x b L xs) (hx0 : ad 36 = x0) (hm0 : ad 0 = m0) (hi : i + 4 < L) (hk : k + 0 ≤ 600000 ∧ n + 0 ≤ 7302250) (hW : W_shortBy τ (xs (i + 1)) (xs (i + 2)) (xs (i + 3)) = some (r, τ1)) (hM : M_shortBy σ (xs (i + 1)) (xs (i + 2)) (xs (i + 3)) = some (r, σ1)) (kk : ∀ ad2, exL ad ad2 → AL z x 4 Q (k + 0 + 0) (n + 0 + 0) 2151 [(3, .int (Int32.ofNat i)), (1, .ref x0), (2, .ref m0), (0, .ref b)] [] (wX z σ1 ad2 τ1)) : AL z x 4 Q k n 1835 [(3, .int (Int32.ofNat i)), (1, .ref x0), (2, .ref m0), (0, .ref b)] [] (wX z σ ad τ) := by
  refine al_aload_n (j := 1) hC rfl rfl dL_law_1835 ?_
  refine al_aload_n (j := 3) hC rfl rfl dL_law_1836 ?_
  refine al_iload_n (j := 0) hC rfl rfl dL_law_1837 ?_
  refine al_iconst (v := 1) hC rfl dL_law_1838 ?_
  refine al_iadd hC dL_law_1839 ?_
  refine al_sld (j := i + 1) hC hX (Int32.ofNat_add i 1).symm (by omega) dL_law_1840 ?_
  refine al_aload_n (j := 3) hC rfl rfl dL_law_1841 ?_
  refine al_iload_n (j := 0) hC rfl rfl dL_law_1842 ?_
  refine al_iconst (v := 2) hC rfl dL_law_1843 ?_
  refine al_iadd hC dL_law_1844 ?_
  refine al_sld (j := i + 2) hC hX (Int32.ofNat_add i 2).symm (by omega) dL_law_1845 ?_
  refine al_aload_n (j := 3) hC rfl rfl dL_law_1846 ?_
  refine al_iload_n (j := 0) hC rfl rfl dL_law_1847 ?_
  refine al_iconst (v := 3) hC rfl dL_law_1848 ?_
  refine al_iadd hC dL_law_1849 ?_
  refine al_sld (j := i + 3) hC hX (Int32.ofNat_add i 3).symm (by omega) dL_law_1850 ?_
  refine al_callL (w := wX z σ) (As := [.int (xs (i + 1)), .int (xs (i + 2)), .int (xs (i + 3))]) (rest := []) (s0 := τ) (s1 := τ1) (r0 := r) (q := 36) hC hR lkl_185 (c_W_shortBy τ (xs (i + 1)) (xs (i + 2)) (xs (i + 3))) hW (fun _ _ h => eqA.L h) dL_law_1851 recX10 rfl rfl hx0 rfl ⟨by decide, by decide⟩ (Nat.le_of_ble_eq_true rfl) ⟨by omega, by omega⟩ ⟨_, rfl, fun _ => rfl⟩ (fun ad1 hE1 hC => ?_)
  have hm0 := (hE1 0 (by omega)).trans hm0
  show AL z x 4 Q (k + 0) (n + 0) _ _ _ (wM z τ1 ad1 σ)
  refine al_aload_n (j := 2) hC rfl rfl dL_law_1854 ?_
  refine al_aload_n (j := 3) hC rfl rfl dL_law_1855 ?_
  refine al_iload_n (j := 0) hC rfl rfl dL_law_1856 ?_
  refine al_iconst (v := 1) hC rfl dL_law_1857 ?_
  refine al_iadd hC dL_law_1858 ?_
  refine al_sld (j := i + 1) hC hX (Int32.ofNat_add i 1).symm (by omega) dL_law_1859 ?_
  refine al_aload_n (j := 3) hC rfl rfl dL_law_1860 ?_
  refine al_iload_n (j := 0) hC rfl rfl dL_law_1861 ?_
  refine al_iconst (v := 2) hC rfl dL_law_1862 ?_
  refine al_iadd hC dL_law_1863 ?_
  refine al_sld (j := i + 2) hC hX (Int32.ofNat_add i 2).symm (by omega) dL_law_1864 ?_
  refine al_aload_n (j := 3) hC rfl rfl dL_law_1865 ?_
  refine al_iload_n (j := 0) hC rfl rfl dL_law_1866 ?_
  refine al_iconst (v := 3) hC rfl dL_law_1867 ?_
  refine al_iadd hC dL_law_1868 ?_
  refine al_sld (j := i + 3) hC hX (Int32.ofNat_add i 3).symm (by omega) dL_law_1869 ?_
  refine al_callL (w := wM z τ1) (As := [.int (xs (i + 1)), .int (xs (i + 2)), .int (xs (i + 3))]) (rest := [.int r]) (s0 := σ) (s1 := σ1) (r0 := r) (q := 0) hC hR lkl_188 (c_M_shortBy σ (xs (i + 1)) (xs (i + 2)) (xs (i + 3))) hM (fun _ _ h => eqA.L h) dL_law_1870 recX11 rfl rfl hm0 rfl ⟨by decide, by decide⟩ (Nat.le_of_ble_eq_true rfl) ⟨by omega, by omega⟩ ⟨_, rfl, fun _ => rfl⟩ (fun ad2 hE2 hC => ?_)
  show AL z x 4 Q _ _ _ _ _ (wX z σ1 ad2 τ1)
  refine al_icmp_eq (tgt := 2151) hC dL_law_1873 rfl (fun _ => ?_) (fun g => absurd rfl g)
  exact kk ad2 (hE1.trans hE2)
theorem dL_law_1878 : decode code 1878 = .ok (.aload_n 1, 1) := by decide +kernel
theorem dL_law_1879 : decode code 1879 = .ok (.aload_n 0, 1) := by decide +kernel
theorem dL_law_1880 : decode code 1880 = .ok (.iload_n 3, 1) := by decide +kernel
theorem dL_law_1881 : decode code 1881 = .ok (.iconst 1, 1) := by decide +kernel
theorem dL_law_1882 : decode code 1882 = .ok (.iadd, 1) := by decide +kernel
theorem dL_law_1883 : decode code 1883 = .ok (.iaload, 1) := by decide +kernel
theorem dL_law_1884 : decode code 1884 = .ok (.aload_n 0, 1) := by decide +kernel
theorem dL_law_1885 : decode code 1885 = .ok (.iload_n 3, 1) := by decide +kernel
theorem dL_law_1886 : decode code 1886 = .ok (.iconst 2, 1) := by decide +kernel
theorem dL_law_1887 : decode code 1887 = .ok (.iadd, 1) := by decide +kernel
theorem dL_law_1888 : decode code 1888 = .ok (.iaload, 1) := by decide +kernel
theorem dL_law_1889 : decode code 1889 = .ok (.invokevirtual 189, 3) := by decide +kernel
theorem dL_law_1892 : decode code 1892 = .ok (.aload_n 2, 1) := by decide +kernel
theorem dL_law_1893 : decode code 1893 = .ok (.aload_n 0, 1) := by decide +kernel
theorem dL_law_1894 : decode code 1894 = .ok (.iload_n 3, 1) := by decide +kernel
theorem dL_law_1895 : decode code 1895 = .ok (.iconst 1, 1) := by decide +kernel
theorem dL_law_1896 : decode code 1896 = .ok (.iadd, 1) := by decide +kernel
theorem dL_law_1897 : decode code 1897 = .ok (.iaload, 1) := by decide +kernel
theorem dL_law_1898 : decode code 1898 = .ok (.aload_n 0, 1) := by decide +kernel
theorem dL_law_1899 : decode code 1899 = .ok (.iload_n 3, 1) := by decide +kernel
theorem dL_law_1900 : decode code 1900 = .ok (.iconst 2, 1) := by decide +kernel
theorem dL_law_1901 : decode code 1901 = .ok (.iadd, 1) := by decide +kernel
theorem dL_law_1902 : decode code 1902 = .ok (.iaload, 1) := by decide +kernel
theorem dL_law_1903 : decode code 1903 = .ok (.invokevirtual 192, 3) := by decide +kernel
theorem dL_law_1906 : decode code 1906 = .ok (.if_icmp .eq 245, 3) := by decide +kernel
theorem dL_law_1909 : decode code 1909 = .ok (.iconst 0, 1) := by decide +kernel
theorem dL_law_1910 : decode code 1910 = .ok (.ireturn, 1) := by decide +kernel
set_option maxRecDepth 100000 in
theorem law_c41 {z : ZZ} {x : XX} {Q : State → Prop} {k n : Nat} {ad : Nat → Nat} {b L i x0 m0 : Nat} {xs : Nat → Int32} {σ σ1 : MS} {τ τ1 : XS} {r : Int32} (hC : CX z ad x code RL 4 ret) (hR : x.2.2.1 = room_1) (hX : SX z x b L xs) (hx0 : ad 36 = x0) (hm0 : ad 0 = m0) (hi : i + 4 < L) (hk : k + 0 ≤ 600000 ∧ n + 0 ≤ 7302250) (hW : W_step τ (xs (i + 1)) (xs (i + 2)) = some (r, τ1)) (hM : M_step σ (xs (i + 1)) (xs (i + 2)) = some (r, σ1)) (kk : ∀ ad2, exL ad ad2 → AL z x 4 Q (k + 0 + 0) (n + 0 + 0) 2151 [(3, .int (Int32.ofNat i)), (1, .ref x0), (2, .ref m0), (0, .ref b)] [] (wX z σ1 ad2 τ1)) : AL z x 4 Q k n 1878 [(3, .int (Int32.ofNat i)), (1, .ref x0), (2, .ref m0), (0, .ref b)] [] (wX z σ ad τ) := by
  refine al_aload_n (j := 1) hC rfl rfl dL_law_1878 ?_
  refine al_aload_n (j := 3) hC rfl rfl dL_law_1879 ?_
  refine al_iload_n (j := 0) hC rfl rfl dL_law_1880 ?_
  refine al_iconst (v := 1) hC rfl dL_law_1881 ?_
  refine al_iadd hC dL_law_1882 ?_
  refine al_sld (j := i + 1) hC hX (Int32.ofNat_add i 1).symm (by omega) dL_law_1883 ?_
  refine al_aload_n (j := 3) hC rfl rfl dL_law_1884 ?_
  refine al_iload_n (j := 0) hC rfl rfl dL_law_1885 ?_
  refine al_iconst (v := 2) hC rfl dL_law_1886 ?_
  refine al_iadd hC dL_law_1887 ?_
  refine al_sld (j := i + 2) hC hX (Int32.ofNat_add i 2).symm (by omega) dL_law_1888 ?_
  refine al_callL (w := wX z σ) (As := [.int (xs (i + 1)), .int (xs (i + 2))]) (rest := []) (s0 := τ) (s1 := τ1) (r0 := r) (q := 36) hC hR lkl_189 (c_W_step τ (xs (i + 1)) (xs (i + 2))) hW (fun _ _ h => eqA.L h) dL_law_1889 recX10 rfl rfl hx0 rfl ⟨by decide, by decide⟩ (Nat.le_of_ble_eq_true rfl) ⟨by omega, by omega⟩ ⟨_, rfl, fun _ => rfl⟩ (fun ad1 hE1 hC => ?_)
  have hm0 := (hE1 0 (by omega)).trans hm0
  show AL z x 4 Q (k + 0) (n + 0) _ _ _ (wM z τ1 ad1 σ)
  refine al_aload_n (j := 2) hC rfl rfl dL_law_1892 ?_
  refine al_aload_n (j := 3) hC rfl rfl dL_law_1893 ?_
  refine al_iload_n (j := 0) hC rfl rfl dL_law_1894 ?_
  refine al_iconst (v := 1) hC rfl dL_law_1895 ?_
  refine al_iadd hC dL_law_1896 ?_
  refine al_sld (j := i + 1) hC hX (Int32.ofNat_add i 1).symm (by omega) dL_law_1897 ?_
  refine al_aload_n (j := 3) hC rfl rfl dL_law_1898 ?_
  refine al_iload_n (j := 0) hC rfl rfl dL_law_1899 ?_
  refine al_iconst (v := 2) hC rfl dL_law_1900 ?_
  refine al_iadd hC dL_law_1901 ?_
  refine al_sld (j := i + 2) hC hX (Int32.ofNat_add i 2).symm (by omega) dL_law_1902 ?_
  refine al_callL (w := wM z τ1) (As := [.int (xs (i + 1)), .int (xs (i + 2))]) (rest := [.int r]) (s0 := σ) (s1 := σ1) (r0 := r) (q := 0) hC hR lkl_192 (c_M_step σ (xs (i + 1)) (xs (i + 2))) hM (fun _ _ h => eqA.L h) dL_law_1903 recX11 rfl rfl hm0 rfl ⟨by decide, by decide⟩ (Nat.le_of_ble_eq_true rfl) ⟨by omega, by omega⟩ ⟨_, rfl, fun _ => rfl⟩ (fun ad2 hE2 hC => ?_)
  show AL z x 4 Q _ _ _ _ _ (wX z σ1 ad2 τ1)
  refine al_icmp_eq (tgt := 2151) hC dL_law_1906 rfl (fun _ => ?_) (fun g => absurd rfl g)
  exact kk ad2 (hE1.trans hE2)
theorem dL_law_1911 : decode code 1911 = .ok (.aload_n 1, 1) := by decide +kernel
theorem dL_law_1912 : decode code 1912 = .ok (.aload_n 0, 1) := by decide +kernel
theorem dL_law_1913 : decode code 1913 = .ok (.iload_n 3, 1) := by decide +kernel
theorem dL_law_1914 : decode code 1914 = .ok (.iconst 1, 1) := by decide +kernel
theorem dL_law_1915 : decode code 1915 = .ok (.iadd, 1) := by decide +kernel
theorem dL_law_1916 : decode code 1916 = .ok (.iaload, 1) := by decide +kernel
theorem dL_law_1917 : decode code 1917 = .ok (.aload_n 0, 1) := by decide +kernel
theorem dL_law_1918 : decode code 1918 = .ok (.iload_n 3, 1) := by decide +kernel
theorem dL_law_1919 : decode code 1919 = .ok (.iconst 2, 1) := by decide +kernel
theorem dL_law_1920 : decode code 1920 = .ok (.iadd, 1) := by decide +kernel
theorem dL_law_1921 : decode code 1921 = .ok (.iaload, 1) := by decide +kernel
theorem dL_law_1922 : decode code 1922 = .ok (.aload_n 0, 1) := by decide +kernel
theorem dL_law_1923 : decode code 1923 = .ok (.iload_n 3, 1) := by decide +kernel
theorem dL_law_1924 : decode code 1924 = .ok (.iconst 3, 1) := by decide +kernel
theorem dL_law_1925 : decode code 1925 = .ok (.iadd, 1) := by decide +kernel
theorem dL_law_1926 : decode code 1926 = .ok (.iaload, 1) := by decide +kernel
theorem dL_law_1927 : decode code 1927 = .ok (.invokevirtual 193, 3) := by decide +kernel
theorem dL_law_1930 : decode code 1930 = .ok (.aload_n 2, 1) := by decide +kernel
theorem dL_law_1931 : decode code 1931 = .ok (.aload_n 0, 1) := by decide +kernel
theorem dL_law_1932 : decode code 1932 = .ok (.iload_n 3, 1) := by decide +kernel
theorem dL_law_1933 : decode code 1933 = .ok (.iconst 1, 1) := by decide +kernel
theorem dL_law_1934 : decode code 1934 = .ok (.iadd, 1) := by decide +kernel
theorem dL_law_1935 : decode code 1935 = .ok (.iaload, 1) := by decide +kernel
theorem dL_law_1936 : decode code 1936 = .ok (.aload_n 0, 1) := by decide +kernel
theorem dL_law_1937 : decode code 1937 = .ok (.iload_n 3, 1) := by decide +kernel
theorem dL_law_1938 : decode code 1938 = .ok (.iconst 2, 1) := by decide +kernel
theorem dL_law_1939 : decode code 1939 = .ok (.iadd, 1) := by decide +kernel
theorem dL_law_1940 : decode code 1940 = .ok (.iaload, 1) := by decide +kernel
theorem dL_law_1941 : decode code 1941 = .ok (.aload_n 0, 1) := by decide +kernel
theorem dL_law_1942 : decode code 1942 = .ok (.iload_n 3, 1) := by decide +kernel
theorem dL_law_1943 : decode code 1943 = .ok (.iconst 3, 1) := by decide +kernel
theorem dL_law_1944 : decode code 1944 = .ok (.iadd, 1) := by decide +kernel
theorem dL_law_1945 : decode code 1945 = .ok (.iaload, 1) := by decide +kernel
theorem dL_law_1946 : decode code 1946 = .ok (.invokevirtual 196, 3) := by decide +kernel
theorem dL_law_1949 : decode code 1949 = .ok (.if_icmp .eq 202, 3) := by decide +kernel
theorem dL_law_1952 : decode code 1952 = .ok (.iconst 0, 1) := by decide +kernel
theorem dL_law_1953 : decode code 1953 = .ok (.ireturn, 1) := by decide +kernel
set_option maxRecDepth 100000 in
theorem law_c42 {z : ZZ} {x : XX} {Q : State → Prop} {k n : Nat} {ad : Nat → Nat} {b L i x0 m0 : Nat} {xs : Nat → Int32} {σ σ1 : MS} {τ τ1 : XS} {r : Int32} (hC : CX z ad x code RL 4 ret) (hR : x.2.2.1 = room_1) (hX : SX z x b L xs) (hx0 : ad 36 = x0) (hm0 : ad 0 = m0) (hi : i + 4 < L) (hk : k + 0 ≤ 600000 ∧ n + 0 ≤ 7302250) (hW : W_plan τ (xs (i + 1)) (xs (i + 2)) (xs (i + 3)) = some (r, τ1)) (hM : M_plan σ (xs (i + 1)) (xs (i + 2)) (xs (i + 3)) = some (r, σ1)) (kk : ∀ ad2, exL ad ad2 → AL z x 4 Q (k + 0 + 0) (n + 0 + 0) 2151 [(3, .int (Int32.ofNat i)), (1, .ref x0), (2, .ref m0), (0, .ref b)] [] (wX z σ1 ad2 τ1)) : AL z x 4 Q k n 1911 [(3, .int (Int32.ofNat i)), (1, .ref x0), (2, .ref m0), (0, .ref b)] [] (wX z σ ad τ) := by
  refine al_aload_n (j := 1) hC rfl rfl dL_law_1911 ?_
  refine al_aload_n (j := 3) hC rfl rfl dL_law_1912 ?_
  refine al_iload_n (j := 0) hC rfl rfl dL_law_1913 ?_
  refine al_iconst (v := 1) hC rfl dL_law_1914 ?_
  refine al_iadd hC dL_law_1915 ?_
  refine al_sld (j := i + 1) hC hX (Int32.ofNat_add i 1).symm (by omega) dL_law_1916 ?_
  refine al_aload_n (j := 3) hC rfl rfl dL_law_1917 ?_
  refine al_iload_n (j := 0) hC rfl rfl dL_law_1918 ?_
  refine al_iconst (v := 2) hC rfl dL_law_1919 ?_
  refine al_iadd hC dL_law_1920 ?_
  refine al_sld (j := i + 2) hC hX (Int32.ofNat_add i 2).symm (by omega) dL_law_1921 ?_
  refine al_aload_n (j := 3) hC rfl rfl dL_law_1922 ?_
  refine al_iload_n (j := 0) hC rfl rfl dL_law_1923 ?_
  refine al_iconst (v := 3) hC rfl dL_law_1924 ?_
  refine al_iadd hC dL_law_1925 ?_
  refine al_sld (j := i + 3) hC hX (Int32.ofNat_add i 3).symm (by omega) dL_law_1926 ?_
  refine al_callL (w := wX z σ) (As := [.int (xs (i + 1)), .int (xs (i + 2)), .int (xs (i + 3))]) (rest := []) (s0 := τ) (s1 := τ1) (r0 := r) (q := 36) hC hR lkl_193 (c_W_plan τ (xs (i + 1)) (xs (i + 2)) (xs (i + 3))) hW (fun _ _ h => eqA.L h) dL_law_1927 recX10 rfl rfl hx0 rfl ⟨by decide, by decide⟩ (Nat.le_of_ble_eq_true rfl) ⟨by omega, by omega⟩ ⟨_, rfl, fun _ => rfl⟩ (fun ad1 hE1 hC => ?_)
  have hm0 := (hE1 0 (by omega)).trans hm0
  show AL z x 4 Q (k + 0) (n + 0) _ _ _ (wM z τ1 ad1 σ)
  refine al_aload_n (j := 2) hC rfl rfl dL_law_1930 ?_
  refine al_aload_n (j := 3) hC rfl rfl dL_law_1931 ?_
  refine al_iload_n (j := 0) hC rfl rfl dL_law_1932 ?_
  refine al_iconst (v := 1) hC rfl dL_law_1933 ?_
  refine al_iadd hC dL_law_1934 ?_
  refine al_sld (j := i + 1) hC hX (Int32.ofNat_add i 1).symm (by omega) dL_law_1935 ?_
  refine al_aload_n (j := 3) hC rfl rfl dL_law_1936 ?_
  refine al_iload_n (j := 0) hC rfl rfl dL_law_1937 ?_
  refine al_iconst (v := 2) hC rfl dL_law_1938 ?_
  refine al_iadd hC dL_law_1939 ?_
  refine al_sld (j := i + 2) hC hX (Int32.ofNat_add i 2).symm (by omega) dL_law_1940 ?_
  refine al_aload_n (j := 3) hC rfl rfl dL_law_1941 ?_
  refine al_iload_n (j := 0) hC rfl rfl dL_law_1942 ?_
  refine al_iconst (v := 3) hC rfl dL_law_1943 ?_
  refine al_iadd hC dL_law_1944 ?_
  refine al_sld (j := i + 3) hC hX (Int32.ofNat_add i 3).symm (by omega) dL_law_1945 ?_
  refine al_callL (w := wM z τ1) (As := [.int (xs (i + 1)), .int (xs (i + 2)), .int (xs (i + 3))]) (rest := [.int r]) (s0 := σ) (s1 := σ1) (r0 := r) (q := 0) hC hR lkl_196 (c_M_plan σ (xs (i + 1)) (xs (i + 2)) (xs (i + 3))) hM (fun _ _ h => eqA.L h) dL_law_1946 recX11 rfl rfl hm0 rfl ⟨by decide, by decide⟩ (Nat.le_of_ble_eq_true rfl) ⟨by omega, by omega⟩ ⟨_, rfl, fun _ => rfl⟩ (fun ad2 hE2 hC => ?_)
  show AL z x 4 Q _ _ _ _ _ (wX z σ1 ad2 τ1)
  refine al_icmp_eq (tgt := 2151) hC dL_law_1949 rfl (fun _ => ?_) (fun g => absurd rfl g)
  exact kk ad2 (hE1.trans hE2)
theorem dL_law_1954 : decode code 1954 = .ok (.aload_n 1, 1) := by decide +kernel
theorem dL_law_1955 : decode code 1955 = .ok (.aload_n 0, 1) := by decide +kernel
theorem dL_law_1956 : decode code 1956 = .ok (.iload_n 3, 1) := by decide +kernel
theorem dL_law_1957 : decode code 1957 = .ok (.iconst 1, 1) := by decide +kernel
theorem dL_law_1958 : decode code 1958 = .ok (.iadd, 1) := by decide +kernel
theorem dL_law_1959 : decode code 1959 = .ok (.iaload, 1) := by decide +kernel
theorem dL_law_1960 : decode code 1960 = .ok (.aload_n 0, 1) := by decide +kernel
theorem dL_law_1961 : decode code 1961 = .ok (.iload_n 3, 1) := by decide +kernel
theorem dL_law_1962 : decode code 1962 = .ok (.iconst 2, 1) := by decide +kernel
theorem dL_law_1963 : decode code 1963 = .ok (.iadd, 1) := by decide +kernel
theorem dL_law_1964 : decode code 1964 = .ok (.iaload, 1) := by decide +kernel
theorem dL_law_1965 : decode code 1965 = .ok (.invokevirtual 197, 3) := by decide +kernel
theorem dL_law_1968 : decode code 1968 = .ok (.aload_n 2, 1) := by decide +kernel
theorem dL_law_1969 : decode code 1969 = .ok (.aload_n 0, 1) := by decide +kernel
theorem dL_law_1970 : decode code 1970 = .ok (.iload_n 3, 1) := by decide +kernel
theorem dL_law_1971 : decode code 1971 = .ok (.iconst 1, 1) := by decide +kernel
theorem dL_law_1972 : decode code 1972 = .ok (.iadd, 1) := by decide +kernel
theorem dL_law_1973 : decode code 1973 = .ok (.iaload, 1) := by decide +kernel
theorem dL_law_1974 : decode code 1974 = .ok (.aload_n 0, 1) := by decide +kernel
theorem dL_law_1975 : decode code 1975 = .ok (.iload_n 3, 1) := by decide +kernel
theorem dL_law_1976 : decode code 1976 = .ok (.iconst 2, 1) := by decide +kernel
theorem dL_law_1977 : decode code 1977 = .ok (.iadd, 1) := by decide +kernel
theorem dL_law_1978 : decode code 1978 = .ok (.iaload, 1) := by decide +kernel
theorem dL_law_1979 : decode code 1979 = .ok (.invokevirtual 200, 3) := by decide +kernel
theorem dL_law_1982 : decode code 1982 = .ok (.lcmp, 1) := by decide +kernel
theorem dL_law_1983 : decode code 1983 = .ok (.ifCond .eq 168, 3) := by decide +kernel
theorem dL_law_1986 : decode code 1986 = .ok (.iconst 0, 1) := by decide +kernel
theorem dL_law_1987 : decode code 1987 = .ok (.ireturn, 1) := by decide +kernel
set_option maxRecDepth 100000 in
theorem law_c43 {z : ZZ} {x : XX} {Q : State → Prop} {k n : Nat} {ad : Nat → Nat} {b L i x0 m0 : Nat} {xs : Nat → Int32} {σ σ1 : MS} {τ τ1 : XS} {r : Int64} (hC : CX z ad x code RL 4 ret) (hR : x.2.2.1 = room_1) (hX : SX z x b L xs) (hx0 : ad 36 = x0) (hm0 : ad 0 = m0) (hi : i + 4 < L) (hk : k + 7 ≤ 600000 ∧ n + 250 ≤ 7302250) (hW : W_tried τ (xs (i + 1)) (xs (i + 2)) = some (r, τ1)) (hM : M_tried σ (xs (i + 1)) (xs (i + 2)) = some (r, σ1)) (kk : ∀ ad2, exL ad ad2 → AL z x 4 Q (k + 7 + 0) (n + 250 + 0) 2151 [(3, .int (Int32.ofNat i)), (1, .ref x0), (2, .ref m0), (0, .ref b)] [] (wX z σ1 ad2 τ1)) : AL z x 4 Q k n 1954 [(3, .int (Int32.ofNat i)), (1, .ref x0), (2, .ref m0), (0, .ref b)] [] (wX z σ ad τ) := by
  refine al_aload_n (j := 1) hC rfl rfl dL_law_1954 ?_
  refine al_aload_n (j := 3) hC rfl rfl dL_law_1955 ?_
  refine al_iload_n (j := 0) hC rfl rfl dL_law_1956 ?_
  refine al_iconst (v := 1) hC rfl dL_law_1957 ?_
  refine al_iadd hC dL_law_1958 ?_
  refine al_sld (j := i + 1) hC hX (Int32.ofNat_add i 1).symm (by omega) dL_law_1959 ?_
  refine al_aload_n (j := 3) hC rfl rfl dL_law_1960 ?_
  refine al_iload_n (j := 0) hC rfl rfl dL_law_1961 ?_
  refine al_iconst (v := 2) hC rfl dL_law_1962 ?_
  refine al_iadd hC dL_law_1963 ?_
  refine al_sld (j := i + 2) hC hX (Int32.ofNat_add i 2).symm (by omega) dL_law_1964 ?_
  refine al_callL (w := wX z σ) (As := [.int (xs (i + 1)), .int (xs (i + 2))]) (rest := []) (s0 := τ) (s1 := τ1) (r0 := r) (q := 36) hC hR lkl_197 (c_W_tried τ (xs (i + 1)) (xs (i + 2))) hW (fun _ _ h => h.L) dL_law_1965 recX10 rfl rfl hx0 rfl ⟨by decide, by decide⟩ (Nat.le_of_ble_eq_true rfl) ⟨by omega, by omega⟩ ⟨_, rfl, fun _ => rfl⟩ (fun ad1 hE1 hC => ?_)
  have hm0 := (hE1 0 (by omega)).trans hm0
  show AL z x 4 Q (k + 7) (n + 250) _ _ _ (wM z τ1 ad1 σ)
  refine al_aload_n (j := 2) hC rfl rfl dL_law_1968 ?_
  refine al_aload_n (j := 3) hC rfl rfl dL_law_1969 ?_
  refine al_iload_n (j := 0) hC rfl rfl dL_law_1970 ?_
  refine al_iconst (v := 1) hC rfl dL_law_1971 ?_
  refine al_iadd hC dL_law_1972 ?_
  refine al_sld (j := i + 1) hC hX (Int32.ofNat_add i 1).symm (by omega) dL_law_1973 ?_
  refine al_aload_n (j := 3) hC rfl rfl dL_law_1974 ?_
  refine al_iload_n (j := 0) hC rfl rfl dL_law_1975 ?_
  refine al_iconst (v := 2) hC rfl dL_law_1976 ?_
  refine al_iadd hC dL_law_1977 ?_
  refine al_sld (j := i + 2) hC hX (Int32.ofNat_add i 2).symm (by omega) dL_law_1978 ?_
  refine al_callL (w := wM z τ1) (As := [.int (xs (i + 1)), .int (xs (i + 2))]) (rest := [.long r]) (s0 := σ) (s1 := σ1) (r0 := r) (q := 0) hC hR lkl_200 (c_M_tried σ (xs (i + 1)) (xs (i + 2))) hM (fun _ _ h => eqA.L h) dL_law_1979 recX11 rfl rfl hm0 rfl ⟨by decide, by decide⟩ (Nat.le_of_ble_eq_true rfl) ⟨by omega, by omega⟩ ⟨_, rfl, fun _ => rfl⟩ (fun ad2 hE2 hC => ?_)
  show AL z x 4 Q _ _ _ _ _ (wX z σ1 ad2 τ1)
  refine al_lcmp hC dL_law_1982 ?_
  rw [ict_eq]
  refine al_if_eq (tgt := 2151) hC dL_law_1983 rfl (fun _ => ?_) (fun g => absurd rfl g)
  exact kk ad2 (hE1.trans hE2)
theorem dL_law_1988 : decode code 1988 = .ok (.aload_n 1, 1) := by decide +kernel
theorem dL_law_1989 : decode code 1989 = .ok (.aload_n 0, 1) := by decide +kernel
theorem dL_law_1990 : decode code 1990 = .ok (.iload_n 3, 1) := by decide +kernel
theorem dL_law_1991 : decode code 1991 = .ok (.iconst 1, 1) := by decide +kernel
theorem dL_law_1992 : decode code 1992 = .ok (.iadd, 1) := by decide +kernel
theorem dL_law_1993 : decode code 1993 = .ok (.iaload, 1) := by decide +kernel
theorem dL_law_1994 : decode code 1994 = .ok (.aload_n 0, 1) := by decide +kernel
theorem dL_law_1995 : decode code 1995 = .ok (.iload_n 3, 1) := by decide +kernel
theorem dL_law_1996 : decode code 1996 = .ok (.iconst 2, 1) := by decide +kernel
theorem dL_law_1997 : decode code 1997 = .ok (.iadd, 1) := by decide +kernel
theorem dL_law_1998 : decode code 1998 = .ok (.iaload, 1) := by decide +kernel
theorem dL_law_1999 : decode code 1999 = .ok (.aload_n 0, 1) := by decide +kernel
theorem dL_law_2000 : decode code 2000 = .ok (.iload_n 3, 1) := by decide +kernel
theorem dL_law_2001 : decode code 2001 = .ok (.iconst 3, 1) := by decide +kernel
theorem dL_law_2002 : decode code 2002 = .ok (.iadd, 1) := by decide +kernel
theorem dL_law_2003 : decode code 2003 = .ok (.iaload, 1) := by decide +kernel
theorem dL_law_2004 : decode code 2004 = .ok (.i2l, 1) := by decide +kernel
theorem dL_law_2005 : decode code 2005 = .ok (.bipush 32, 2) := by decide +kernel
theorem dL_law_2007 : decode code 2007 = .ok (.lshl, 1) := by decide +kernel
theorem dL_law_2008 : decode code 2008 = .ok (.aload_n 0, 1) := by decide +kernel
theorem dL_law_2009 : decode code 2009 = .ok (.iload_n 3, 1) := by decide +kernel
theorem dL_law_2010 : decode code 2010 = .ok (.iconst 4, 1) := by decide +kernel
theorem dL_law_2011 : decode code 2011 = .ok (.iadd, 1) := by decide +kernel
theorem dL_law_2012 : decode code 2012 = .ok (.iaload, 1) := by decide +kernel
theorem dL_law_2013 : decode code 2013 = .ok (.i2l, 1) := by decide +kernel
theorem dL_law_2014 : decode code 2014 = .ok (.ldc2_w 74, 3) := by decide +kernel
theorem dL_law_2017 : decode code 2017 = .ok (.land, 1) := by decide +kernel
theorem dL_law_2018 : decode code 2018 = .ok (.lor, 1) := by decide +kernel
theorem dL_law_2019 : decode code 2019 = .ok (.invokevirtual 201, 3) := by decide +kernel
theorem dL_law_2022 : decode code 2022 = .ok (.aload_n 2, 1) := by decide +kernel
theorem dL_law_2023 : decode code 2023 = .ok (.aload_n 0, 1) := by decide +kernel
theorem dL_law_2024 : decode code 2024 = .ok (.iload_n 3, 1) := by decide +kernel
theorem dL_law_2025 : decode code 2025 = .ok (.iconst 1, 1) := by decide +kernel
theorem dL_law_2026 : decode code 2026 = .ok (.iadd, 1) := by decide +kernel
theorem dL_law_2027 : decode code 2027 = .ok (.iaload, 1) := by decide +kernel
theorem dL_law_2028 : decode code 2028 = .ok (.aload_n 0, 1) := by decide +kernel
theorem dL_law_2029 : decode code 2029 = .ok (.iload_n 3, 1) := by decide +kernel
theorem dL_law_2030 : decode code 2030 = .ok (.iconst 2, 1) := by decide +kernel
theorem dL_law_2031 : decode code 2031 = .ok (.iadd, 1) := by decide +kernel
theorem dL_law_2032 : decode code 2032 = .ok (.iaload, 1) := by decide +kernel
theorem dL_law_2033 : decode code 2033 = .ok (.aload_n 0, 1) := by decide +kernel
theorem dL_law_2034 : decode code 2034 = .ok (.iload_n 3, 1) := by decide +kernel
theorem dL_law_2035 : decode code 2035 = .ok (.iconst 3, 1) := by decide +kernel
theorem dL_law_2036 : decode code 2036 = .ok (.iadd, 1) := by decide +kernel
theorem dL_law_2037 : decode code 2037 = .ok (.iaload, 1) := by decide +kernel
theorem dL_law_2038 : decode code 2038 = .ok (.i2l, 1) := by decide +kernel
theorem dL_law_2039 : decode code 2039 = .ok (.bipush 32, 2) := by decide +kernel
theorem dL_law_2041 : decode code 2041 = .ok (.lshl, 1) := by decide +kernel
theorem dL_law_2042 : decode code 2042 = .ok (.aload_n 0, 1) := by decide +kernel
theorem dL_law_2043 : decode code 2043 = .ok (.iload_n 3, 1) := by decide +kernel
theorem dL_law_2044 : decode code 2044 = .ok (.iconst 4, 1) := by decide +kernel
theorem dL_law_2045 : decode code 2045 = .ok (.iadd, 1) := by decide +kernel
theorem dL_law_2046 : decode code 2046 = .ok (.iaload, 1) := by decide +kernel
theorem dL_law_2047 : decode code 2047 = .ok (.i2l, 1) := by decide +kernel
theorem dL_law_2048 : decode code 2048 = .ok (.ldc2_w 74, 3) := by decide +kernel
theorem dL_law_2051 : decode code 2051 = .ok (.land, 1) := by decide +kernel
theorem dL_law_2052 : decode code 2052 = .ok (.lor, 1) := by decide +kernel
theorem dL_law_2053 : decode code 2053 = .ok (.invokevirtual 205, 3) := by decide +kernel
theorem dL_law_2056 : decode code 2056 = .ok (.lcmp, 1) := by decide +kernel
theorem dL_law_2057 : decode code 2057 = .ok (.ifCond .eq 94, 3) := by decide +kernel
theorem dL_law_2060 : decode code 2060 = .ok (.iconst 0, 1) := by decide +kernel
theorem dL_law_2061 : decode code 2061 = .ok (.ireturn, 1) := by decide +kernel
set_option maxRecDepth 100000 in
theorem law_c44 {z : ZZ} {x : XX} {Q : State → Prop} {k n : Nat} {ad : Nat → Nat} {b L i x0 m0 : Nat} {xs : Nat → Int32} {σ σ1 : MS} {τ τ1 : XS} {r : Int64} (hC : CX z ad x code RL 4 ret) (hR : x.2.2.1 = room_1) (hX : SX z x b L xs) (hx0 : ad 36 = x0) (hm0 : ad 0 = m0) (hi : i + 4 < L) (hk : k + 0 ≤ 600000 ∧ n + 0 ≤ 7302250) (hW : W_told τ (xs (i + 1)) (xs (i + 2)) ((((xs (i + 3))).toInt64 <<< ((32 : Int32).toInt64 &&& 63)) ||| (((xs (i + 4))).toInt64 &&& (4294967295))) = some (r, τ1)) (hM : M_told σ (xs (i + 1)) (xs (i + 2)) ((((xs (i + 3))).toInt64 <<< ((32 : Int32).toInt64 &&& 63)) ||| (((xs (i + 4))).toInt64 &&& (4294967295))) = some (r, σ1)) (kk : ∀ ad2, exL ad ad2 → AL z x 4 Q (k + 0 + 0) (n + 0 + 0) 2151 [(3, .int (Int32.ofNat i)), (1, .ref x0), (2, .ref m0), (0, .ref b)] [] (wX z σ1 ad2 τ1)) : AL z x 4 Q k n 1988 [(3, .int (Int32.ofNat i)), (1, .ref x0), (2, .ref m0), (0, .ref b)] [] (wX z σ ad τ) := by
  refine al_aload_n (j := 1) hC rfl rfl dL_law_1988 ?_
  refine al_aload_n (j := 3) hC rfl rfl dL_law_1989 ?_
  refine al_iload_n (j := 0) hC rfl rfl dL_law_1990 ?_
  refine al_iconst (v := 1) hC rfl dL_law_1991 ?_
  refine al_iadd hC dL_law_1992 ?_
  refine al_sld (j := i + 1) hC hX (Int32.ofNat_add i 1).symm (by omega) dL_law_1993 ?_
  refine al_aload_n (j := 3) hC rfl rfl dL_law_1994 ?_
  refine al_iload_n (j := 0) hC rfl rfl dL_law_1995 ?_
  refine al_iconst (v := 2) hC rfl dL_law_1996 ?_
  refine al_iadd hC dL_law_1997 ?_
  refine al_sld (j := i + 2) hC hX (Int32.ofNat_add i 2).symm (by omega) dL_law_1998 ?_
  refine al_aload_n (j := 3) hC rfl rfl dL_law_1999 ?_
  refine al_iload_n (j := 0) hC rfl rfl dL_law_2000 ?_
  refine al_iconst (v := 3) hC rfl dL_law_2001 ?_
  refine al_iadd hC dL_law_2002 ?_
  refine al_sld (j := i + 3) hC hX (Int32.ofNat_add i 3).symm (by omega) dL_law_2003 ?_
  refine al_i2l hC dL_law_2004 ?_
  refine al_bipush (v := 32) hC rfl dL_law_2005 ?_
  refine al_lshl hC dL_law_2007 ?_
  refine al_aload_n (j := 3) hC rfl rfl dL_law_2008 ?_
  refine al_iload_n (j := 0) hC rfl rfl dL_law_2009 ?_
  refine al_iconst (v := 4) hC rfl dL_law_2010 ?_
  refine al_iadd hC dL_law_2011 ?_
  refine al_sld (j := i + 4) hC hX (Int32.ofNat_add i 4).symm (by omega) dL_law_2012 ?_
  refine al_i2l hC dL_law_2013 ?_
  refine al_ldc2 hC kl_L_74 dL_law_2014 ?_
  refine al_land hC dL_law_2017 ?_
  refine al_lor hC dL_law_2018 ?_
  refine al_callL (w := wX z σ) (As := [.int (xs (i + 1)), .int (xs (i + 2)), .long ((((xs (i + 3))).toInt64 <<< ((32 : Int32).toInt64 &&& 63)) ||| (((xs (i + 4))).toInt64 &&& (4294967295)))]) (rest := []) (s0 := τ) (s1 := τ1) (r0 := r) (q := 36) hC hR lkl_201 (c_W_told τ (xs (i + 1)) (xs (i + 2)) ((((xs (i + 3))).toInt64 <<< ((32 : Int32).toInt64 &&& 63)) ||| (((xs (i + 4))).toInt64 &&& (4294967295)))) hW (fun _ _ h => eqA.L h) dL_law_2019 recX10 rfl rfl hx0 rfl ⟨by decide, by decide⟩ (Nat.le_of_ble_eq_true rfl) ⟨by omega, by omega⟩ ⟨_, rfl, fun _ => rfl⟩ (fun ad1 hE1 hC => ?_)
  have hm0 := (hE1 0 (by omega)).trans hm0
  show AL z x 4 Q (k + 0) (n + 0) _ _ _ (wM z τ1 ad1 σ)
  refine al_aload_n (j := 2) hC rfl rfl dL_law_2022 ?_
  refine al_aload_n (j := 3) hC rfl rfl dL_law_2023 ?_
  refine al_iload_n (j := 0) hC rfl rfl dL_law_2024 ?_
  refine al_iconst (v := 1) hC rfl dL_law_2025 ?_
  refine al_iadd hC dL_law_2026 ?_
  refine al_sld (j := i + 1) hC hX (Int32.ofNat_add i 1).symm (by omega) dL_law_2027 ?_
  refine al_aload_n (j := 3) hC rfl rfl dL_law_2028 ?_
  refine al_iload_n (j := 0) hC rfl rfl dL_law_2029 ?_
  refine al_iconst (v := 2) hC rfl dL_law_2030 ?_
  refine al_iadd hC dL_law_2031 ?_
  refine al_sld (j := i + 2) hC hX (Int32.ofNat_add i 2).symm (by omega) dL_law_2032 ?_
  refine al_aload_n (j := 3) hC rfl rfl dL_law_2033 ?_
  refine al_iload_n (j := 0) hC rfl rfl dL_law_2034 ?_
  refine al_iconst (v := 3) hC rfl dL_law_2035 ?_
  refine al_iadd hC dL_law_2036 ?_
  refine al_sld (j := i + 3) hC hX (Int32.ofNat_add i 3).symm (by omega) dL_law_2037 ?_
  refine al_i2l hC dL_law_2038 ?_
  refine al_bipush (v := 32) hC rfl dL_law_2039 ?_
  refine al_lshl hC dL_law_2041 ?_
  refine al_aload_n (j := 3) hC rfl rfl dL_law_2042 ?_
  refine al_iload_n (j := 0) hC rfl rfl dL_law_2043 ?_
  refine al_iconst (v := 4) hC rfl dL_law_2044 ?_
  refine al_iadd hC dL_law_2045 ?_
  refine al_sld (j := i + 4) hC hX (Int32.ofNat_add i 4).symm (by omega) dL_law_2046 ?_
  refine al_i2l hC dL_law_2047 ?_
  refine al_ldc2 hC kl_L_74 dL_law_2048 ?_
  refine al_land hC dL_law_2051 ?_
  refine al_lor hC dL_law_2052 ?_
  refine al_callL (w := wM z τ1) (As := [.int (xs (i + 1)), .int (xs (i + 2)), .long ((((xs (i + 3))).toInt64 <<< ((32 : Int32).toInt64 &&& 63)) ||| (((xs (i + 4))).toInt64 &&& (4294967295)))]) (rest := [.long r]) (s0 := σ) (s1 := σ1) (r0 := r) (q := 0) hC hR lkl_205 (c_M_told σ (xs (i + 1)) (xs (i + 2)) ((((xs (i + 3))).toInt64 <<< ((32 : Int32).toInt64 &&& 63)) ||| (((xs (i + 4))).toInt64 &&& (4294967295)))) hM (fun _ _ h => eqA.L h) dL_law_2053 recX11 rfl rfl hm0 rfl ⟨by decide, by decide⟩ (Nat.le_of_ble_eq_true rfl) ⟨by omega, by omega⟩ ⟨_, rfl, fun _ => rfl⟩ (fun ad2 hE2 hC => ?_)
  show AL z x 4 Q _ _ _ _ _ (wX z σ1 ad2 τ1)
  refine al_lcmp hC dL_law_2056 ?_
  rw [ict_eq]
  refine al_if_eq (tgt := 2151) hC dL_law_2057 rfl (fun _ => ?_) (fun g => absurd rfl g)
  exact kk ad2 (hE1.trans hE2)
theorem dL_law_2062 : decode code 2062 = .ok (.aload_n 1, 1) := by decide +kernel
theorem dL_law_2063 : decode code 2063 = .ok (.aload_n 0, 1) := by decide +kernel
theorem dL_law_2064 : decode code 2064 = .ok (.iload_n 3, 1) := by decide +kernel
theorem dL_law_2065 : decode code 2065 = .ok (.iconst 1, 1) := by decide +kernel
theorem dL_law_2066 : decode code 2066 = .ok (.iadd, 1) := by decide +kernel
theorem dL_law_2067 : decode code 2067 = .ok (.iaload, 1) := by decide +kernel
theorem dL_law_2068 : decode code 2068 = .ok (.aload_n 0, 1) := by decide +kernel
theorem dL_law_2069 : decode code 2069 = .ok (.iload_n 3, 1) := by decide +kernel
theorem dL_law_2070 : decode code 2070 = .ok (.iconst 2, 1) := by decide +kernel
theorem dL_law_2071 : decode code 2071 = .ok (.iadd, 1) := by decide +kernel
theorem dL_law_2072 : decode code 2072 = .ok (.iaload, 1) := by decide +kernel
theorem dL_law_2073 : decode code 2073 = .ok (.invokevirtual 206, 3) := by decide +kernel
theorem dL_law_2076 : decode code 2076 = .ok (.aload_n 2, 1) := by decide +kernel
theorem dL_law_2077 : decode code 2077 = .ok (.aload_n 0, 1) := by decide +kernel
theorem dL_law_2078 : decode code 2078 = .ok (.iload_n 3, 1) := by decide +kernel
theorem dL_law_2079 : decode code 2079 = .ok (.iconst 1, 1) := by decide +kernel
theorem dL_law_2080 : decode code 2080 = .ok (.iadd, 1) := by decide +kernel
theorem dL_law_2081 : decode code 2081 = .ok (.iaload, 1) := by decide +kernel
theorem dL_law_2082 : decode code 2082 = .ok (.aload_n 0, 1) := by decide +kernel
theorem dL_law_2083 : decode code 2083 = .ok (.iload_n 3, 1) := by decide +kernel
theorem dL_law_2084 : decode code 2084 = .ok (.iconst 2, 1) := by decide +kernel
theorem dL_law_2085 : decode code 2085 = .ok (.iadd, 1) := by decide +kernel
theorem dL_law_2086 : decode code 2086 = .ok (.iaload, 1) := by decide +kernel
theorem dL_law_2087 : decode code 2087 = .ok (.invokevirtual 209, 3) := by decide +kernel
theorem dL_law_2090 : decode code 2090 = .ok (.if_icmp .eq 61, 3) := by decide +kernel
theorem dL_law_2093 : decode code 2093 = .ok (.iconst 0, 1) := by decide +kernel
theorem dL_law_2094 : decode code 2094 = .ok (.ireturn, 1) := by decide +kernel
set_option maxRecDepth 100000 in
theorem law_c45 {z : ZZ} {x : XX} {Q : State → Prop} {k n : Nat} {ad : Nat → Nat} {b L i x0 m0 : Nat} {xs : Nat → Int32} {σ σ1 : MS} {τ τ1 : XS} {r : Int32} (hC : CX z ad x code RL 4 ret) (hR : x.2.2.1 = room_1) (hX : SX z x b L xs) (hx0 : ad 36 = x0) (hm0 : ad 0 = m0) (hi : i + 4 < L) (hk : k + 0 ≤ 600000 ∧ n + 0 ≤ 7302250) (hW : W_check τ (xs (i + 1)) (xs (i + 2)) = some (r, τ1)) (hM : M_check σ (xs (i + 1)) (xs (i + 2)) = some (r, σ1)) (kk : ∀ ad2, exL ad ad2 → AL z x 4 Q (k + 0 + 0) (n + 0 + 0) 2151 [(3, .int (Int32.ofNat i)), (1, .ref x0), (2, .ref m0), (0, .ref b)] [] (wX z σ1 ad2 τ1)) : AL z x 4 Q k n 2062 [(3, .int (Int32.ofNat i)), (1, .ref x0), (2, .ref m0), (0, .ref b)] [] (wX z σ ad τ) := by
  refine al_aload_n (j := 1) hC rfl rfl dL_law_2062 ?_
  refine al_aload_n (j := 3) hC rfl rfl dL_law_2063 ?_
  refine al_iload_n (j := 0) hC rfl rfl dL_law_2064 ?_
  refine al_iconst (v := 1) hC rfl dL_law_2065 ?_
  refine al_iadd hC dL_law_2066 ?_
  refine al_sld (j := i + 1) hC hX (Int32.ofNat_add i 1).symm (by omega) dL_law_2067 ?_
  refine al_aload_n (j := 3) hC rfl rfl dL_law_2068 ?_
  refine al_iload_n (j := 0) hC rfl rfl dL_law_2069 ?_
  refine al_iconst (v := 2) hC rfl dL_law_2070 ?_
  refine al_iadd hC dL_law_2071 ?_
  refine al_sld (j := i + 2) hC hX (Int32.ofNat_add i 2).symm (by omega) dL_law_2072 ?_
  refine al_callL (w := wX z σ) (As := [.int (xs (i + 1)), .int (xs (i + 2))]) (rest := []) (s0 := τ) (s1 := τ1) (r0 := r) (q := 36) hC hR lkl_206 (c_W_check τ (xs (i + 1)) (xs (i + 2))) hW (fun _ _ h => eqA.L h) dL_law_2073 recX10 rfl rfl hx0 rfl ⟨by decide, by decide⟩ (Nat.le_of_ble_eq_true rfl) ⟨by omega, by omega⟩ ⟨_, rfl, fun _ => rfl⟩ (fun ad1 hE1 hC => ?_)
  have hm0 := (hE1 0 (by omega)).trans hm0
  show AL z x 4 Q (k + 0) (n + 0) _ _ _ (wM z τ1 ad1 σ)
  refine al_aload_n (j := 2) hC rfl rfl dL_law_2076 ?_
  refine al_aload_n (j := 3) hC rfl rfl dL_law_2077 ?_
  refine al_iload_n (j := 0) hC rfl rfl dL_law_2078 ?_
  refine al_iconst (v := 1) hC rfl dL_law_2079 ?_
  refine al_iadd hC dL_law_2080 ?_
  refine al_sld (j := i + 1) hC hX (Int32.ofNat_add i 1).symm (by omega) dL_law_2081 ?_
  refine al_aload_n (j := 3) hC rfl rfl dL_law_2082 ?_
  refine al_iload_n (j := 0) hC rfl rfl dL_law_2083 ?_
  refine al_iconst (v := 2) hC rfl dL_law_2084 ?_
  refine al_iadd hC dL_law_2085 ?_
  refine al_sld (j := i + 2) hC hX (Int32.ofNat_add i 2).symm (by omega) dL_law_2086 ?_
  refine al_callL (w := wM z τ1) (As := [.int (xs (i + 1)), .int (xs (i + 2))]) (rest := [.int r]) (s0 := σ) (s1 := σ1) (r0 := r) (q := 0) hC hR lkl_209 (c_M_check σ (xs (i + 1)) (xs (i + 2))) hM (fun _ _ h => eqA.L h) dL_law_2087 recX11 rfl rfl hm0 rfl ⟨by decide, by decide⟩ (Nat.le_of_ble_eq_true rfl) ⟨by omega, by omega⟩ ⟨_, rfl, fun _ => rfl⟩ (fun ad2 hE2 hC => ?_)
  show AL z x 4 Q _ _ _ _ _ (wX z σ1 ad2 τ1)
  refine al_icmp_eq (tgt := 2151) hC dL_law_2090 rfl (fun _ => ?_) (fun g => absurd rfl g)
  exact kk ad2 (hE1.trans hE2)
theorem dL_law_2095 : decode code 2095 = .ok (.aload_n 1, 1) := by decide +kernel
theorem dL_law_2096 : decode code 2096 = .ok (.aload_n 0, 1) := by decide +kernel
theorem dL_law_2097 : decode code 2097 = .ok (.iload_n 3, 1) := by decide +kernel
theorem dL_law_2098 : decode code 2098 = .ok (.iconst 1, 1) := by decide +kernel
theorem dL_law_2099 : decode code 2099 = .ok (.iadd, 1) := by decide +kernel
theorem dL_law_2100 : decode code 2100 = .ok (.iaload, 1) := by decide +kernel
theorem dL_law_2101 : decode code 2101 = .ok (.aload_n 0, 1) := by decide +kernel
theorem dL_law_2102 : decode code 2102 = .ok (.iload_n 3, 1) := by decide +kernel
theorem dL_law_2103 : decode code 2103 = .ok (.iconst 2, 1) := by decide +kernel
theorem dL_law_2104 : decode code 2104 = .ok (.iadd, 1) := by decide +kernel
theorem dL_law_2105 : decode code 2105 = .ok (.iaload, 1) := by decide +kernel
theorem dL_law_2106 : decode code 2106 = .ok (.invokevirtual 210, 3) := by decide +kernel
theorem dL_law_2109 : decode code 2109 = .ok (.aload_n 2, 1) := by decide +kernel
theorem dL_law_2110 : decode code 2110 = .ok (.aload_n 0, 1) := by decide +kernel
theorem dL_law_2111 : decode code 2111 = .ok (.iload_n 3, 1) := by decide +kernel
theorem dL_law_2112 : decode code 2112 = .ok (.iconst 1, 1) := by decide +kernel
theorem dL_law_2113 : decode code 2113 = .ok (.iadd, 1) := by decide +kernel
theorem dL_law_2114 : decode code 2114 = .ok (.iaload, 1) := by decide +kernel
theorem dL_law_2115 : decode code 2115 = .ok (.aload_n 0, 1) := by decide +kernel
theorem dL_law_2116 : decode code 2116 = .ok (.iload_n 3, 1) := by decide +kernel
theorem dL_law_2117 : decode code 2117 = .ok (.iconst 2, 1) := by decide +kernel
theorem dL_law_2118 : decode code 2118 = .ok (.iadd, 1) := by decide +kernel
theorem dL_law_2119 : decode code 2119 = .ok (.iaload, 1) := by decide +kernel
theorem dL_law_2120 : decode code 2120 = .ok (.invokevirtual 213, 3) := by decide +kernel
theorem dL_law_2123 : decode code 2123 = .ok (.if_icmp .eq 28, 3) := by decide +kernel
theorem dL_law_2126 : decode code 2126 = .ok (.iconst 0, 1) := by decide +kernel
theorem dL_law_2127 : decode code 2127 = .ok (.ireturn, 1) := by decide +kernel
set_option maxRecDepth 100000 in
theorem law_c46 {z : ZZ} {x : XX} {Q : State → Prop} {k n : Nat} {ad : Nat → Nat} {b L i x0 m0 : Nat} {xs : Nat → Int32} {σ σ1 : MS} {τ τ1 : XS} {r : Int32} (hC : CX z ad x code RL 4 ret) (hR : x.2.2.1 = room_1) (hX : SX z x b L xs) (hx0 : ad 36 = x0) (hm0 : ad 0 = m0) (hi : i + 4 < L) (hk : k + 0 ≤ 600000 ∧ n + 0 ≤ 7302250) (hW : W_judge τ (xs (i + 1)) (xs (i + 2)) = some (r, τ1)) (hM : M_judge σ (xs (i + 1)) (xs (i + 2)) = some (r, σ1)) (kk : ∀ ad2, exL ad ad2 → AL z x 4 Q (k + 0 + 0) (n + 0 + 0) 2151 [(3, .int (Int32.ofNat i)), (1, .ref x0), (2, .ref m0), (0, .ref b)] [] (wX z σ1 ad2 τ1)) : AL z x 4 Q k n 2095 [(3, .int (Int32.ofNat i)), (1, .ref x0), (2, .ref m0), (0, .ref b)] [] (wX z σ ad τ) := by
  refine al_aload_n (j := 1) hC rfl rfl dL_law_2095 ?_
  refine al_aload_n (j := 3) hC rfl rfl dL_law_2096 ?_
  refine al_iload_n (j := 0) hC rfl rfl dL_law_2097 ?_
  refine al_iconst (v := 1) hC rfl dL_law_2098 ?_
  refine al_iadd hC dL_law_2099 ?_
  refine al_sld (j := i + 1) hC hX (Int32.ofNat_add i 1).symm (by omega) dL_law_2100 ?_
  refine al_aload_n (j := 3) hC rfl rfl dL_law_2101 ?_
  refine al_iload_n (j := 0) hC rfl rfl dL_law_2102 ?_
  refine al_iconst (v := 2) hC rfl dL_law_2103 ?_
  refine al_iadd hC dL_law_2104 ?_
  refine al_sld (j := i + 2) hC hX (Int32.ofNat_add i 2).symm (by omega) dL_law_2105 ?_
  refine al_callL (w := wX z σ) (As := [.int (xs (i + 1)), .int (xs (i + 2))]) (rest := []) (s0 := τ) (s1 := τ1) (r0 := r) (q := 36) hC hR lkl_210 (c_W_judge τ (xs (i + 1)) (xs (i + 2))) hW (fun _ _ h => eqA.L h) dL_law_2106 recX10 rfl rfl hx0 rfl ⟨by decide, by decide⟩ (Nat.le_of_ble_eq_true rfl) ⟨by omega, by omega⟩ ⟨_, rfl, fun _ => rfl⟩ (fun ad1 hE1 hC => ?_)
  have hm0 := (hE1 0 (by omega)).trans hm0
  show AL z x 4 Q (k + 0) (n + 0) _ _ _ (wM z τ1 ad1 σ)
  refine al_aload_n (j := 2) hC rfl rfl dL_law_2109 ?_
  refine al_aload_n (j := 3) hC rfl rfl dL_law_2110 ?_
  refine al_iload_n (j := 0) hC rfl rfl dL_law_2111 ?_
  refine al_iconst (v := 1) hC rfl dL_law_2112 ?_
  refine al_iadd hC dL_law_2113 ?_
  refine al_sld (j := i + 1) hC hX (Int32.ofNat_add i 1).symm (by omega) dL_law_2114 ?_
  refine al_aload_n (j := 3) hC rfl rfl dL_law_2115 ?_
  refine al_iload_n (j := 0) hC rfl rfl dL_law_2116 ?_
  refine al_iconst (v := 2) hC rfl dL_law_2117 ?_
  refine al_iadd hC dL_law_2118 ?_
  refine al_sld (j := i + 2) hC hX (Int32.ofNat_add i 2).symm (by omega) dL_law_2119 ?_
  refine al_callL (w := wM z τ1) (As := [.int (xs (i + 1)), .int (xs (i + 2))]) (rest := [.int r]) (s0 := σ) (s1 := σ1) (r0 := r) (q := 0) hC hR lkl_213 (c_M_judge σ (xs (i + 1)) (xs (i + 2))) hM (fun _ _ h => eqA.L h) dL_law_2120 recX11 rfl rfl hm0 rfl ⟨by decide, by decide⟩ (Nat.le_of_ble_eq_true rfl) ⟨by omega, by omega⟩ ⟨_, rfl, fun _ => rfl⟩ (fun ad2 hE2 hC => ?_)
  show AL z x 4 Q _ _ _ _ _ (wX z σ1 ad2 τ1)
  refine al_icmp_eq (tgt := 2151) hC dL_law_2123 rfl (fun _ => ?_) (fun g => absurd rfl g)
  exact kk ad2 (hE1.trans hE2)
theorem dL_law_2128 : decode code 2128 = .ok (.aload_n 1, 1) := by decide +kernel
theorem dL_law_2129 : decode code 2129 = .ok (.aload_n 0, 1) := by decide +kernel
theorem dL_law_2130 : decode code 2130 = .ok (.iload_n 3, 1) := by decide +kernel
theorem dL_law_2131 : decode code 2131 = .ok (.iconst 1, 1) := by decide +kernel
theorem dL_law_2132 : decode code 2132 = .ok (.iadd, 1) := by decide +kernel
theorem dL_law_2133 : decode code 2133 = .ok (.iaload, 1) := by decide +kernel
theorem dL_law_2134 : decode code 2134 = .ok (.invokevirtual 214, 3) := by decide +kernel
theorem dL_law_2137 : decode code 2137 = .ok (.aload_n 2, 1) := by decide +kernel
theorem dL_law_2138 : decode code 2138 = .ok (.aload_n 0, 1) := by decide +kernel
theorem dL_law_2139 : decode code 2139 = .ok (.iload_n 3, 1) := by decide +kernel
theorem dL_law_2140 : decode code 2140 = .ok (.iconst 1, 1) := by decide +kernel
theorem dL_law_2141 : decode code 2141 = .ok (.iadd, 1) := by decide +kernel
theorem dL_law_2142 : decode code 2142 = .ok (.iaload, 1) := by decide +kernel
theorem dL_law_2143 : decode code 2143 = .ok (.invokevirtual 217, 3) := by decide +kernel
theorem dL_law_2146 : decode code 2146 = .ok (.if_icmp .eq 5, 3) := by decide +kernel
theorem dL_law_2149 : decode code 2149 = .ok (.iconst 0, 1) := by decide +kernel
theorem dL_law_2150 : decode code 2150 = .ok (.ireturn, 1) := by decide +kernel
set_option maxRecDepth 100000 in
theorem law_c47 {z : ZZ} {x : XX} {Q : State → Prop} {k n : Nat} {ad : Nat → Nat} {b L i x0 m0 : Nat} {xs : Nat → Int32} {σ σ1 : MS} {τ τ1 : XS} {r : Int32} (hC : CX z ad x code RL 4 ret) (hR : x.2.2.1 = room_1) (hX : SX z x b L xs) (hx0 : ad 36 = x0) (hm0 : ad 0 = m0) (hi : i + 4 < L) (hk : k + 0 ≤ 600000 ∧ n + 0 ≤ 7302250) (eτ : τ1 = τ) (eσ : σ1 = σ) (hW : W_count τ (xs (i + 1)) = some r) (hM : M_count σ (xs (i + 1)) = some r) (kk : ∀ ad2, exL ad ad2 → AL z x 4 Q (k + 0 + 0) (n + 0 + 0) 2151 [(3, .int (Int32.ofNat i)), (1, .ref x0), (2, .ref m0), (0, .ref b)] [] (wX z σ1 ad2 τ1)) : AL z x 4 Q k n 2128 [(3, .int (Int32.ofNat i)), (1, .ref x0), (2, .ref m0), (0, .ref b)] [] (wX z σ ad τ) := by
  subst eτ
  subst eσ
  refine al_aload_n (j := 1) hC rfl rfl dL_law_2128 ?_
  refine al_aload_n (j := 3) hC rfl rfl dL_law_2129 ?_
  refine al_iload_n (j := 0) hC rfl rfl dL_law_2130 ?_
  refine al_iconst (v := 1) hC rfl dL_law_2131 ?_
  refine al_iadd hC dL_law_2132 ?_
  refine al_sld (j := i + 1) hC hX (Int32.ofNat_add i 1).symm (by omega) dL_law_2133 ?_
  refine al_callL (w := wX z σ) (As := [.int (xs (i + 1))]) (rest := []) (s0 := τ) (s1 := τ) (r0 := r) (q := 36) hC hR lkl_214 (c_W_count τ (xs (i + 1))) (by rw [hW]; rfl) (fun _ _ h => eqA.L h) dL_law_2134 recX10 rfl rfl hx0 rfl ⟨by decide, by decide⟩ (Nat.le_of_ble_eq_true rfl) ⟨by omega, by omega⟩ ⟨_, rfl, fun _ => rfl⟩ (fun ad1 hE1 hC => ?_)
  have hm0 := (hE1 0 (by omega)).trans hm0
  show AL z x 4 Q (k + 0) (n + 0) _ _ _ (wM z τ1 ad1 σ)
  refine al_aload_n (j := 2) hC rfl rfl dL_law_2137 ?_
  refine al_aload_n (j := 3) hC rfl rfl dL_law_2138 ?_
  refine al_iload_n (j := 0) hC rfl rfl dL_law_2139 ?_
  refine al_iconst (v := 1) hC rfl dL_law_2140 ?_
  refine al_iadd hC dL_law_2141 ?_
  refine al_sld (j := i + 1) hC hX (Int32.ofNat_add i 1).symm (by omega) dL_law_2142 ?_
  refine al_callL (w := wM z τ1) (As := [.int (xs (i + 1))]) (rest := [.int r]) (s0 := σ) (s1 := σ) (r0 := r) (q := 0) hC hR lkl_217 (c_M_count σ (xs (i + 1))) (by rw [hM]; rfl) (fun _ _ h => eqA.L h) dL_law_2143 recX11 rfl rfl hm0 rfl ⟨by decide, by decide⟩ (Nat.le_of_ble_eq_true rfl) ⟨by omega, by omega⟩ ⟨_, rfl, fun _ => rfl⟩ (fun ad2 hE2 hC => ?_)
  show AL z x 4 Q _ _ _ _ _ (wX z σ1 ad2 τ1)
  refine al_icmp_eq (tgt := 2151) hC dL_law_2146 rfl (fun _ => ?_) (fun g => absurd rfl g)
  exact kk ad2 (hE1.trans hE2)
