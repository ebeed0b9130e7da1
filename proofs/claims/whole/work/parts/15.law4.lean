theorem dL_law_1281 : decode code 1281 = .ok (.aload_n 1, 1) := by decide +kernel
theorem dL_law_1282 : decode code 1282 = .ok (.aload_n 0, 1) := by decide +kernel
theorem dL_law_1283 : decode code 1283 = .ok (.iload_n 3, 1) := by decide +kernel
theorem dL_law_1284 : decode code 1284 = .ok (.iconst 1, 1) := by decide +kernel
theorem dL_law_1285 : decode code 1285 = .ok (.iadd, 1) := by decide +kernel
theorem dL_law_1286 : decode code 1286 = .ok (.iaload, 1) := by decide +kernel
theorem dL_law_1287 : decode code 1287 = .ok (.aload_n 0, 1) := by decide +kernel
theorem dL_law_1288 : decode code 1288 = .ok (.iload_n 3, 1) := by decide +kernel
theorem dL_law_1289 : decode code 1289 = .ok (.iconst 2, 1) := by decide +kernel
theorem dL_law_1290 : decode code 1290 = .ok (.iadd, 1) := by decide +kernel
theorem dL_law_1291 : decode code 1291 = .ok (.iaload, 1) := by decide +kernel
theorem dL_law_1292 : decode code 1292 = .ok (.aload_n 0, 1) := by decide +kernel
theorem dL_law_1293 : decode code 1293 = .ok (.iload_n 3, 1) := by decide +kernel
theorem dL_law_1294 : decode code 1294 = .ok (.iconst 3, 1) := by decide +kernel
theorem dL_law_1295 : decode code 1295 = .ok (.iadd, 1) := by decide +kernel
theorem dL_law_1296 : decode code 1296 = .ok (.iaload, 1) := by decide +kernel
theorem dL_law_1297 : decode code 1297 = .ok (.invokevirtual 120, 3) := by decide +kernel
theorem dL_law_1300 : decode code 1300 = .ok (.aload_n 2, 1) := by decide +kernel
theorem dL_law_1301 : decode code 1301 = .ok (.aload_n 0, 1) := by decide +kernel
theorem dL_law_1302 : decode code 1302 = .ok (.iload_n 3, 1) := by decide +kernel
theorem dL_law_1303 : decode code 1303 = .ok (.iconst 1, 1) := by decide +kernel
theorem dL_law_1304 : decode code 1304 = .ok (.iadd, 1) := by decide +kernel
theorem dL_law_1305 : decode code 1305 = .ok (.iaload, 1) := by decide +kernel
theorem dL_law_1306 : decode code 1306 = .ok (.aload_n 0, 1) := by decide +kernel
theorem dL_law_1307 : decode code 1307 = .ok (.iload_n 3, 1) := by decide +kernel
theorem dL_law_1308 : decode code 1308 = .ok (.iconst 2, 1) := by decide +kernel
theorem dL_law_1309 : decode code 1309 = .ok (.iadd, 1) := by decide +kernel
theorem dL_law_1310 : decode code 1310 = .ok (.iaload, 1) := by decide +kernel
theorem dL_law_1311 : decode code 1311 = .ok (.aload_n 0, 1) := by decide +kernel
theorem dL_law_1312 : decode code 1312 = .ok (.iload_n 3, 1) := by decide +kernel
theorem dL_law_1313 : decode code 1313 = .ok (.iconst 3, 1) := by decide +kernel
theorem dL_law_1314 : decode code 1314 = .ok (.iadd, 1) := by decide +kernel
theorem dL_law_1315 : decode code 1315 = .ok (.iaload, 1) := by decide +kernel
theorem dL_law_1316 : decode code 1316 = .ok (.invokevirtual 123, 3) := by decide +kernel
theorem dL_law_1319 : decode code 1319 = .ok (.lcmp, 1) := by decide +kernel
theorem dL_law_1320 : decode code 1320 = .ok (.ifCond .eq 831, 3) := by decide +kernel
theorem dL_law_1323 : decode code 1323 = .ok (.iconst 0, 1) := by decide +kernel
theorem dL_law_1324 : decode code 1324 = .ok (.ireturn, 1) := by decide +kernel
set_option maxRecDepth 100000 in
theorem law_c24 {z : ZZ} {x : XX} {Q : State → Prop} {k n : Nat} {ad : Nat → Nat} {b L i x0 m0 : Nat} {xs : Nat → Int32} {σ σ1 : MS} {τ τ1 : XS} {r : Int64} (hC : CX z ad x code RL 4 ret) (hR : x.2.2.1 = room_1) (hX : SX z x b L xs) (hx0 : ad 36 = x0) (hm0 : ad 0 = m0) (hi : i + 4 < L) (hk : k + 0 ≤ 600000 ∧ n + 0 ≤ 7302250) (hW : W_widow τ (xs (i + 1)) (xs (i + 2)) (xs (i + 3)) = some (r, τ1)) (hM : M_widow σ (xs (i + 1)) (xs (i + 2)) (xs (i + 3)) = some (r, σ1)) (kk : ∀ ad2, exL ad ad2 → AL z x 4 Q (k + 0 + 0) (n + 0 + 0) 2151 [(3, .int (Int32.ofNat i)), (1, .ref x0), (2, .ref m0), (0, .ref b)] [] (wX z σ1 ad2 τ1)) : AL z x 4 Q k n 1281 [(3, .int (Int32.ofNat i)), (1, .ref x0), (2, .ref m0), (0, .ref b)] [] (wX z σ ad τ) := by
  refine al_aload_n (j := 1) hC rfl rfl dL_law_1281 ?_
  refine al_aload_n (j := 3) hC rfl rfl dL_law_1282 ?_
  refine al_iload_n (j := 0) hC rfl rfl dL_law_1283 ?_
  refine al_iconst (v := 1) hC rfl dL_law_1284 ?_
  refine al_iadd hC dL_law_1285 ?_
  refine al_sld (j := i + 1) hC hX (Int32.ofNat_add i 1).symm (by omega) dL_law_1286 ?_
  refine al_aload_n (j := 3) hC rfl rfl dL_law_1287 ?_
  refine al_iload_n (j := 0) hC rfl rfl dL_law_1288 ?_
  refine al_iconst (v := 2) hC rfl dL_law_1289 ?_
  refine al_iadd hC dL_law_1290 ?_
  refine al_sld (j := i + 2) hC hX (Int32.ofNat_add i 2).symm (by omega) dL_law_1291 ?_
  refine al_aload_n (j := 3) hC rfl rfl dL_law_1292 ?_
  refine al_iload_n (j := 0) hC rfl rfl dL_law_1293 ?_
  refine al_iconst (v := 3) hC rfl dL_law_1294 ?_
  refine al_iadd hC dL_law_1295 ?_
  refine al_sld (j := i + 3) hC hX (Int32.ofNat_add i 3).symm (by omega) dL_law_1296 ?_
  refine al_callL (w := wX z σ) (As := [.int (xs (i + 1)), .int (xs (i + 2)), .int (xs (i + 3))]) (rest := []) (s0 := τ) (s1 := τ1) (r0 := r) (q := 36) hC hR lkl_120 (c_W_widow τ (xs (i + 1)) (xs (i + 2)) (xs (i + 3))) hW (fun _ _ h => eqA.L h) dL_law_1297 recX10 rfl rfl hx0 rfl ⟨by decide, by decide⟩ (Nat.le_of_ble_eq_true rfl) ⟨by omega, by omega⟩ ⟨_, rfl, fun _ => rfl⟩ (fun ad1 hE1 hC => ?_)
  have hm0 := (hE1 0 (by omega)).trans hm0
  show AL z x 4 Q (k + 0) (n + 0) _ _ _ (wM z τ1 ad1 σ)
  refine al_aload_n (j := 2) hC rfl rfl dL_law_1300 ?_
  refine al_aload_n (j := 3) hC rfl rfl dL_law_1301 ?_
  refine al_iload_n (j := 0) hC rfl rfl dL_law_1302 ?_
  refine al_iconst (v := 1) hC rfl dL_law_1303 ?_
  refine al_iadd hC dL_law_1304 ?_
  refine al_sld (j := i + 1) hC hX (Int32.ofNat_add i 1).symm (by omega) dL_law_1305 ?_
  refine al_aload_n (j := 3) hC rfl rfl dL_law_1306 ?_
  refine al_iload_n (j := 0) hC rfl rfl dL_law_1307 ?_
  refine al_iconst (v := 2) hC rfl dL_law_1308 ?_
  refine al_iadd hC dL_law_1309 ?_
  refine al_sld (j := i + 2) hC hX (Int32.ofNat_add i 2).symm (by omega) dL_law_1310 ?_
  refine al_aload_n (j := 3) hC rfl rfl dL_law_1311 ?_
  refine al_iload_n (j := 0) hC rfl rfl dL_law_1312 ?_
  refine al_iconst (v := 3) hC rfl dL_law_1313 ?_
  refine al_iadd hC dL_law_1314 ?_
  refine al_sld (j := i + 3) hC hX (Int32.ofNat_add i 3).symm (by omega) dL_law_1315 ?_
  refine al_callL (w := wM z τ1) (As := [.int (xs (i + 1)), .int (xs (i + 2)), .int (xs (i + 3))]) (rest := [.long r]) (s0 := σ) (s1 := σ1) (r0 := r) (q := 0) hC hR lkl_123 (c_M_widow σ (xs (i + 1)) (xs (i + 2)) (xs (i + 3))) hM (fun _ _ h => eqA.L h) dL_law_1316 recX11 rfl rfl hm0 rfl ⟨by decide, by decide⟩ (Nat.le_of_ble_eq_true rfl) ⟨by omega, by omega⟩ ⟨_, rfl, fun _ => rfl⟩ (fun ad2 hE2 hC => ?_)
  show AL z x 4 Q _ _ _ _ _ (wX z σ1 ad2 τ1)
  refine al_lcmp hC dL_law_1319 ?_
  rw [ict_eq]
  refine al_if_eq (tgt := 2151) hC dL_law_1320 rfl (fun _ => ?_) (fun g => absurd rfl g)
  exact kk ad2 (hE1.trans hE2)
theorem dL_law_1325 : decode code 1325 = .ok (.aload_n 1, 1) := by decide +kernel
theorem dL_law_1326 : decode code 1326 = .ok (.aload_n 0, 1) := by decide +kernel
theorem dL_law_1327 : decode code 1327 = .ok (.iload_n 3, 1) := by decide +kernel
theorem dL_law_1328 : decode code 1328 = .ok (.iconst 1, 1) := by decide +kernel
theorem dL_law_1329 : decode code 1329 = .ok (.iadd, 1) := by decide +kernel
theorem dL_law_1330 : decode code 1330 = .ok (.iaload, 1) := by decide +kernel
theorem dL_law_1331 : decode code 1331 = .ok (.aload_n 0, 1) := by decide +kernel
theorem dL_law_1332 : decode code 1332 = .ok (.iload_n 3, 1) := by decide +kernel
theorem dL_law_1333 : decode code 1333 = .ok (.iconst 2, 1) := by decide +kernel
theorem dL_law_1334 : decode code 1334 = .ok (.iadd, 1) := by decide +kernel
theorem dL_law_1335 : decode code 1335 = .ok (.iaload, 1) := by decide +kernel
theorem dL_law_1336 : decode code 1336 = .ok (.aload_n 0, 1) := by decide +kernel
theorem dL_law_1337 : decode code 1337 = .ok (.iload_n 3, 1) := by decide +kernel
theorem dL_law_1338 : decode code 1338 = .ok (.iconst 3, 1) := by decide +kernel
theorem dL_law_1339 : decode code 1339 = .ok (.iadd, 1) := by decide +kernel
theorem dL_law_1340 : decode code 1340 = .ok (.iaload, 1) := by decide +kernel
theorem dL_law_1341 : decode code 1341 = .ok (.invokevirtual 124, 3) := by decide +kernel
theorem dL_law_1344 : decode code 1344 = .ok (.aload_n 2, 1) := by decide +kernel
theorem dL_law_1345 : decode code 1345 = .ok (.aload_n 0, 1) := by decide +kernel
theorem dL_law_1346 : decode code 1346 = .ok (.iload_n 3, 1) := by decide +kernel
theorem dL_law_1347 : decode code 1347 = .ok (.iconst 1, 1) := by decide +kernel
theorem dL_law_1348 : decode code 1348 = .ok (.iadd, 1) := by decide +kernel
theorem dL_law_1349 : decode code 1349 = .ok (.iaload, 1) := by decide +kernel
theorem dL_law_1350 : decode code 1350 = .ok (.aload_n 0, 1) := by decide +kernel
theorem dL_law_1351 : decode code 1351 = .ok (.iload_n 3, 1) := by decide +kernel
theorem dL_law_1352 : decode code 1352 = .ok (.iconst 2, 1) := by decide +kernel
theorem dL_law_1353 : decode code 1353 = .ok (.iadd, 1) := by decide +kernel
theorem dL_law_1354 : decode code 1354 = .ok (.iaload, 1) := by decide +kernel
theorem dL_law_1355 : decode code 1355 = .ok (.aload_n 0, 1) := by decide +kernel
theorem dL_law_1356 : decode code 1356 = .ok (.iload_n 3, 1) := by decide +kernel
theorem dL_law_1357 : decode code 1357 = .ok (.iconst 3, 1) := by decide +kernel
theorem dL_law_1358 : decode code 1358 = .ok (.iadd, 1) := by decide +kernel
theorem dL_law_1359 : decode code 1359 = .ok (.iaload, 1) := by decide +kernel
theorem dL_law_1360 : decode code 1360 = .ok (.invokevirtual 127, 3) := by decide +kernel
theorem dL_law_1363 : decode code 1363 = .ok (.lcmp, 1) := by decide +kernel
theorem dL_law_1364 : decode code 1364 = .ok (.ifCond .eq 787, 3) := by decide +kernel
theorem dL_law_1367 : decode code 1367 = .ok (.iconst 0, 1) := by decide +kernel
theorem dL_law_1368 : decode code 1368 = .ok (.ireturn, 1) := by decide +kernel
set_option maxRecDepth 100000 in
theorem law_c25 {z : ZZ} {x : XX} {Q : State → Prop} {k n : Nat} {ad : Nat → Nat} {b L i x0 m0 : Nat} {xs : Nat → Int32} {σ σ1 : MS} {τ τ1 : XS} {r : Int64} (hC : CX z ad x code RL 4 ret) (hR : x.2.2.1 = room_1) (hX : SX z x b L xs) (hx0 : ad 36 = x0) (hm0 : ad 0 = m0) (hi : i + 4 < L) (hk : k + 0 ≤ 600000 ∧ n + 0 ≤ 7302250) (hW : W_sum τ (xs (i + 1)) (xs (i + 2)) (xs (i + 3)) = some (r, τ1)) (hM : M_sum σ (xs (i + 1)) (xs (i + 2)) (xs (i + 3)) = some (r, σ1)) (kk : ∀ ad2, exL ad ad2 → AL z x 4 Q (k + 0 + 0) (n + 0 + 0) 2151 [(3, .int (Int32.ofNat i)), (1, .ref x0), (2, .ref m0), (0, .ref b)] [] (wX z σ1 ad2 τ1)) : AL z x 4 Q k n 1325 [(3, .int (Int32.ofNat i)), (1, .ref x0), (2, .ref m0), (0, .ref b)] [] (wX z σ ad τ) := by
  refine al_aload_n (j := 1) hC rfl rfl dL_law_1325 ?_
  refine al_aload_n (j := 3) hC rfl rfl dL_law_1326 ?_
  refine al_iload_n (j := 0) hC rfl rfl dL_law_1327 ?_
  refine al_iconst (v := 1) hC rfl dL_law_1328 ?_
  refine al_iadd hC dL_law_1329 ?_
  refine al_sld (j := i + 1) hC hX (Int32.ofNat_add i 1).symm (by omega) dL_law_1330 ?_
  refine al_aload_n (j := 3) hC rfl rfl dL_law_1331 ?_
  refine al_iload_n (j := 0) hC rfl rfl dL_law_1332 ?_
  refine al_iconst (v := 2) hC rfl dL_law_1333 ?_
  refine al_iadd hC dL_law_1334 ?_
  refine al_sld (j := i + 2) hC hX (Int32.ofNat_add i 2).symm (by omega) dL_law_1335 ?_
  refine al_aload_n (j := 3) hC rfl rfl dL_law_1336 ?_
  refine al_iload_n (j := 0) hC rfl rfl dL_law_1337 ?_
  refine al_iconst (v := 3) hC rfl dL_law_1338 ?_
  refine al_iadd hC dL_law_1339 ?_
  refine al_sld (j := i + 3) hC hX (Int32.ofNat_add i 3).symm (by omega) dL_law_1340 ?_
  refine al_callL (w := wX z σ) (As := [.int (xs (i + 1)), .int (xs (i + 2)), .int (xs (i + 3))]) (rest := []) (s0 := τ) (s1 := τ1) (r0 := r) (q := 36) hC hR lkl_124 (c_W_sum τ (xs (i + 1)) (xs (i + 2)) (xs (i + 3))) hW (fun _ _ h => eqA.L h) dL_law_1341 recX10 rfl rfl hx0 rfl ⟨by decide, by decide⟩ (Nat.le_of_ble_eq_true rfl) ⟨by omega, by omega⟩ ⟨_, rfl, fun _ => rfl⟩ (fun ad1 hE1 hC => ?_)
  have hm0 := (hE1 0 (by omega)).trans hm0
  show AL z x 4 Q (k + 0) (n + 0) _ _ _ (wM z τ1 ad1 σ)
  refine al_aload_n (j := 2) hC rfl rfl dL_law_1344 ?_
  refine al_aload_n (j := 3) hC rfl rfl dL_law_1345 ?_
  refine al_iload_n (j := 0) hC rfl rfl dL_law_1346 ?_
  refine al_iconst (v := 1) hC rfl dL_law_1347 ?_
  refine al_iadd hC dL_law_1348 ?_
  refine al_sld (j := i + 1) hC hX (Int32.ofNat_add i 1).symm (by omega) dL_law_1349 ?_
  refine al_aload_n (j := 3) hC rfl rfl dL_law_1350 ?_
  refine al_iload_n (j := 0) hC rfl rfl dL_law_1351 ?_
  refine al_iconst (v := 2) hC rfl dL_law_1352 ?_
  refine al_iadd hC dL_law_1353 ?_
  refine al_sld (j := i + 2) hC hX (Int32.ofNat_add i 2).symm (by omega) dL_law_1354 ?_
  refine al_aload_n (j := 3) hC rfl rfl dL_law_1355 ?_
  refine al_iload_n (j := 0) hC rfl rfl dL_law_1356 ?_
  refine al_iconst (v := 3) hC rfl dL_law_1357 ?_
  refine al_iadd hC dL_law_1358 ?_
  refine al_sld (j := i + 3) hC hX (Int32.ofNat_add i 3).symm (by omega) dL_law_1359 ?_
  refine al_callL (w := wM z τ1) (As := [.int (xs (i + 1)), .int (xs (i + 2)), .int (xs (i + 3))]) (rest := [.long r]) (s0 := σ) (s1 := σ1) (r0 := r) (q := 0) hC hR lkl_127 (c_M_sum σ (xs (i + 1)) (xs (i + 2)) (xs (i + 3))) hM (fun _ _ h => eqA.L h) dL_law_1360 recX11 rfl rfl hm0 rfl ⟨by decide, by decide⟩ (Nat.le_of_ble_eq_true rfl) ⟨by omega, by omega⟩ ⟨_, rfl, fun _ => rfl⟩ (fun ad2 hE2 hC => ?_)
  show AL z x 4 Q _ _ _ _ _ (wX z σ1 ad2 τ1)
  refine al_lcmp hC dL_law_1363 ?_
  rw [ict_eq]
  refine al_if_eq (tgt := 2151) hC dL_law_1364 rfl (fun _ => ?_) (fun g => absurd rfl g)
  exact kk ad2 (hE1.trans hE2)
theorem dL_law_1369 : decode code 1369 = .ok (.aload_n 1, 1) := by decide +kernel
theorem dL_law_1370 : decode code 1370 = .ok (.aload_n 0, 1) := by decide +kernel
theorem dL_law_1371 : decode code 1371 = .ok (.iload_n 3, 1) := by decide +kernel
theorem dL_law_1372 : decode code 1372 = .ok (.iconst 1, 1) := by decide +kernel
theorem dL_law_1373 : decode code 1373 = .ok (.iadd, 1) := by decide +kernel
theorem dL_law_1374 : decode code 1374 = .ok (.iaload, 1) := by decide +kernel
theorem dL_law_1375 : decode code 1375 = .ok (.invokevirtual 128, 3) := by decide +kernel
theorem dL_law_1378 : decode code 1378 = .ok (.aload_n 2, 1) := by decide +kernel
theorem dL_law_1379 : decode code 1379 = .ok (.aload_n 0, 1) := by decide +kernel
theorem dL_law_1380 : decode code 1380 = .ok (.iload_n 3, 1) := by decide +kernel
theorem dL_law_1381 : decode code 1381 = .ok (.iconst 1, 1) := by decide +kernel
theorem dL_law_1382 : decode code 1382 = .ok (.iadd, 1) := by decide +kernel
theorem dL_law_1383 : decode code 1383 = .ok (.iaload, 1) := by decide +kernel
theorem dL_law_1384 : decode code 1384 = .ok (.invokevirtual 131, 3) := by decide +kernel
theorem dL_law_1387 : decode code 1387 = .ok (.if_icmp .eq 764, 3) := by decide +kernel
theorem dL_law_1390 : decode code 1390 = .ok (.iconst 0, 1) := by decide +kernel
theorem dL_law_1391 : decode code 1391 = .ok (.ireturn, 1) := by decide +kernel
set_option maxRecDepth 100000 in
theorem law_c26 {z : ZZ} {x : XX} {Q : State → Prop} {k n : Nat} {ad : Nat → Nat} {b L i x0 m0 : Nat} {xs : Nat → Int32} {σ σ1 : MS} {τ τ1 : XS} {r : Int32} (hC : CX z ad x code RL 4 ret) (hR : x.2.2.1 = room_1) (hX : SX z x b L xs) (hx0 : ad 36 = x0) (hm0 : ad 0 = m0) (hi : i + 4 < L) (hk : k + 0 ≤ 600000 ∧ n + 0 ≤ 7302250) (hW : W_begin τ (xs (i + 1)) = some (r, τ1)) (hM : M_begin σ (xs (i + 1)) = some (r, σ1)) (kk : ∀ ad2, exL ad ad2 → AL z x 4 Q (k + 0 + 0) (n + 0 + 0) 2151 [(3, .int (Int32.ofNat i)), (1, .ref x0), (2, .ref m0), (0, .ref b)] [] (wX z σ1 ad2 τ1)) : AL z x 4 Q k n 1369 [(3, .int (Int32.ofNat i)), (1, .ref x0), (2, .ref m0), (0, .ref b)] [] (wX z σ ad τ) := by
  refine al_aload_n (j := 1) hC rfl rfl dL_law_1369 ?_
  refine al_aload_n (j := 3) hC rfl rfl dL_law_1370 ?_
  refine al_iload_n (j := 0) hC rfl rfl dL_law_1371 ?_
  refine al_iconst (v := 1) hC rfl dL_law_1372 ?_
  refine al_iadd hC dL_law_1373 ?_
  refine al_sld (j := i + 1) hC hX (Int32.ofNat_add i 1).symm (by omega) dL_law_1374 ?_
  refine al_callL (w := wX z σ) (As := [.int (xs (i + 1))]) (rest := []) (s0 := τ) (s1 := τ1) (r0 := r) (q := 36) hC hR lkl_128 (c_W_begin τ (xs (i + 1))) hW (fun _ _ h => eqA.L h) dL_law_1375 recX10 rfl rfl hx0 rfl ⟨by decide, by decide⟩ (Nat.le_of_ble_eq_true rfl) ⟨by omega, by omega⟩ ⟨_, rfl, fun _ => rfl⟩ (fun ad1 hE1 hC => ?_)
  have hm0 := (hE1 0 (by omega)).trans hm0
  show AL z x 4 Q (k + 0) (n + 0) _ _ _ (wM z τ1 ad1 σ)
  refine al_aload_n (j := 2) hC rfl rfl dL_law_1378 ?_
  refine al_aload_n (j := 3) hC rfl rfl dL_law_1379 ?_
  refine al_iload_n (j := 0) hC rfl rfl dL_law_1380 ?_
  refine al_iconst (v := 1) hC rfl dL_law_1381 ?_
  refine al_iadd hC dL_law_1382 ?_
  refine al_sld (j := i + 1) hC hX (Int32.ofNat_add i 1).symm (by omega) dL_law_1383 ?_
  refine al_callL (w := wM z τ1) (As := [.int (xs (i + 1))]) (rest := [.int r]) (s0 := σ) (s1 := σ1) (r0 := r) (q := 0) hC hR lkl_131 (c_M_begin σ (xs (i + 1))) hM (fun _ _ h => eqA.L h) dL_law_1384 recX11 rfl rfl hm0 rfl ⟨by decide, by decide⟩ (Nat.le_of_ble_eq_true rfl) ⟨by omega, by omega⟩ ⟨_, rfl, fun _ => rfl⟩ (fun ad2 hE2 hC => ?_)
  show AL z x 4 Q _ _ _ _ _ (wX z σ1 ad2 τ1)
  refine al_icmp_eq (tgt := 2151) hC dL_law_1387 rfl (fun _ => ?_) (fun g => absurd rfl g)
  exact kk ad2 (hE1.trans hE2)
theorem dL_law_1392 : decode code 1392 = .ok (.aload_n 1, 1) := by decide +kernel
theorem dL_law_1393 : decode code 1393 = .ok (.aload_n 0, 1) := by decide +kernel
theorem dL_law_1394 : decode code 1394 = .ok (.iload_n 3, 1) := by decide +kernel
theorem dL_law_1395 : decode code 1395 = .ok (.iconst 1, 1) := by decide +kernel
theorem dL_law_1396 : decode code 1396 = .ok (.iadd, 1) := by decide +kernel
theorem dL_law_1397 : decode code 1397 = .ok (.iaload, 1) := by decide +kernel
theorem dL_law_1398 : decode code 1398 = .ok (.aload_n 0, 1) := by decide +kernel
theorem dL_law_1399 : decode code 1399 = .ok (.iload_n 3, 1) := by decide +kernel
theorem dL_law_1400 : decode code 1400 = .ok (.iconst 2, 1) := by decide +kernel
theorem dL_law_1401 : decode code 1401 = .ok (.iadd, 1) := by decide +kernel
theorem dL_law_1402 : decode code 1402 = .ok (.iaload, 1) := by decide +kernel
theorem dL_law_1403 : decode code 1403 = .ok (.invokevirtual 132, 3) := by decide +kernel
theorem dL_law_1406 : decode code 1406 = .ok (.aload_n 2, 1) := by decide +kernel
theorem dL_law_1407 : decode code 1407 = .ok (.aload_n 0, 1) := by decide +kernel
theorem dL_law_1408 : decode code 1408 = .ok (.iload_n 3, 1) := by decide +kernel
theorem dL_law_1409 : decode code 1409 = .ok (.iconst 1, 1) := by decide +kernel
theorem dL_law_1410 : decode code 1410 = .ok (.iadd, 1) := by decide +kernel
theorem dL_law_1411 : decode code 1411 = .ok (.iaload, 1) := by decide +kernel
theorem dL_law_1412 : decode code 1412 = .ok (.aload_n 0, 1) := by decide +kernel
theorem dL_law_1413 : decode code 1413 = .ok (.iload_n 3, 1) := by decide +kernel
theorem dL_law_1414 : decode code 1414 = .ok (.iconst 2, 1) := by decide +kernel
theorem dL_law_1415 : decode code 1415 = .ok (.iadd, 1) := by decide +kernel
theorem dL_law_1416 : decode code 1416 = .ok (.iaload, 1) := by decide +kernel
theorem dL_law_1417 : decode code 1417 = .ok (.invokevirtual 135, 3) := by decide +kernel
theorem dL_law_1420 : decode code 1420 = .ok (.lcmp, 1) := by decide +kernel
theorem dL_law_1421 : decode code 1421 = .ok (.ifCond .eq 730, 3) := by decide +kernel
theorem dL_law_1424 : decode code 1424 = .ok (.iconst 0, 1) := by decide +kernel
theorem dL_law_1425 : decode code 1425 = .ok (.ireturn, 1) := by decide +kernel
set_option maxRecDepth 100000 in
theorem law_c27 {z : ZZ} {x : XX} {Q : State → Prop} {k n : Nat} {ad : Nat → Nat} {b L i x0 m0 : Nat} {xs : Nat → Int32} {σ σ1 : MS} {τ τ1 : XS} {r : Int64} (hC : CX z ad x code RL 4 ret) (hR : x.2.2.1 = room_1) (hX : SX z x b L xs) (hx0 : ad 36 = x0) (hm0 : ad 0 = m0) (hi : i + 4 < L) (hk : k + 0 ≤ 600000 ∧ n + 0 ≤ 7302250) (hW : W_chest τ (xs (i + 1)) (xs (i + 2)) = some (r, τ1)) (hM : M_chest σ (xs (i + 1)) (xs (i + 2)) = some (r, σ1)) (kk : ∀ ad2, exL ad ad2 → AL z x 4 Q (k + 0 + 0) (n + 0 + 0) 2151 [(3, .int (Int32.ofNat i)), (1, .ref x0), (2, .ref m0), (0, .ref b)] [] (wX z σ1 ad2 τ1)) : AL z x 4 Q k n 1392 [(3, .int (Int32.ofNat i)), (1, .ref x0), (2, .ref m0), (0, .ref b)] [] (wX z σ ad τ) := by
  refine al_aload_n (j := 1) hC rfl rfl dL_law_1392 ?_
  refine al_aload_n (j := 3) hC rfl rfl dL_law_1393 ?_
  refine al_iload_n (j := 0) hC rfl rfl dL_law_1394 ?_
  refine al_iconst (v := 1) hC rfl dL_law_1395 ?_
  refine al_iadd hC dL_law_1396 ?_
  refine al_sld (j := i + 1) hC hX (Int32.ofNat_add i 1).symm (by omega) dL_law_1397 ?_
  refine al_aload_n (j := 3) hC rfl rfl dL_law_1398 ?_
  refine al_iload_n (j := 0) hC rfl rfl dL_law_1399 ?_
  refine al_iconst (v := 2) hC rfl dL_law_1400 ?_
  refine al_iadd hC dL_law_1401 ?_
  refine al_sld (j := i + 2) hC hX (Int32.ofNat_add i 2).symm (by omega) dL_law_1402 ?_
  refine al_callL (w := wX z σ) (As := [.int (xs (i + 1)), .int (xs (i + 2))]) (rest := []) (s0 := τ) (s1 := τ1) (r0 := r) (q := 36) hC hR lkl_132 (c_W_chest τ (xs (i + 1)) (xs (i + 2))) hW (fun _ _ h => eqA.L h) dL_law_1403 recX10 rfl rfl hx0 rfl ⟨by decide, by decide⟩ (Nat.le_of_ble_eq_true rfl) ⟨by omega, by omega⟩ ⟨_, rfl, fun _ => rfl⟩ (fun ad1 hE1 hC => ?_)
  have hm0 := (hE1 0 (by omega)).trans hm0
  show AL z x 4 Q (k + 0) (n + 0) _ _ _ (wM z τ1 ad1 σ)
  refine al_aload_n (j := 2) hC rfl rfl dL_law_1406 ?_
  refine al_aload_n (j := 3) hC rfl rfl dL_law_1407 ?_
  refine al_iload_n (j := 0) hC rfl rfl dL_law_1408 ?_
  refine al_iconst (v := 1) hC rfl dL_law_1409 ?_
  refine al_iadd hC dL_law_1410 ?_
  refine al_sld (j := i + 1) hC hX (Int32.ofNat_add i 1).symm (by omega) dL_law_1411 ?_
  refine al_aload_n (j := 3) hC rfl rfl dL_law_1412 ?_
  refine al_iload_n (j := 0) hC rfl rfl dL_law_1413 ?_
  refine al_iconst (v := 2) hC rfl dL_law_1414 ?_
  refine al_iadd hC dL_law_1415 ?_
  refine al_sld (j := i + 2) hC hX (Int32.ofNat_add i 2).symm (by omega) dL_law_1416 ?_
  refine al_callL (w := wM z τ1) (As := [.int (xs (i + 1)), .int (xs (i + 2))]) (rest := [.long r]) (s0 := σ) (s1 := σ1) (r0 := r) (q := 0) hC hR lkl_135 (c_M_chest σ (xs (i + 1)) (xs (i + 2))) hM (fun _ _ h => eqA.L h) dL_law_1417 recX11 rfl rfl hm0 rfl ⟨by decide, by decide⟩ (Nat.le_of_ble_eq_true rfl) ⟨by omega, by omega⟩ ⟨_, rfl, fun _ => rfl⟩ (fun ad2 hE2 hC => ?_)
  show AL z x 4 Q _ _ _ _ _ (wX z σ1 ad2 τ1)
  refine al_lcmp hC dL_law_1420 ?_
  rw [ict_eq]
  refine al_if_eq (tgt := 2151) hC dL_law_1421 rfl (fun _ => ?_) (fun g => absurd rfl g)
  exact kk ad2 (hE1.trans hE2)
theorem dL_law_1426 : decode code 1426 = .ok (.aload_n 1, 1) := by decide +kernel
theorem dL_law_1427 : decode code 1427 = .ok (.aload_n 0, 1) := by decide +kernel
theorem dL_law_1428 : decode code 1428 = .ok (.iload_n 3, 1) := by decide +kernel
theorem dL_law_1429 : decode code 1429 = .ok (.iconst 1, 1) := by decide +kernel
theorem dL_law_1430 : decode code 1430 = .ok (.iadd, 1) := by decide +kernel
theorem dL_law_1431 : decode code 1431 = .ok (.iaload, 1) := by decide +kernel
theorem dL_law_1432 : decode code 1432 = .ok (.aload_n 0, 1) := by decide +kernel
theorem dL_law_1433 : decode code 1433 = .ok (.iload_n 3, 1) := by decide +kernel
theorem dL_law_1434 : decode code 1434 = .ok (.iconst 2, 1) := by decide +kernel
theorem dL_law_1435 : decode code 1435 = .ok (.iadd, 1) := by decide +kernel
theorem dL_law_1436 : decode code 1436 = .ok (.iaload, 1) := by decide +kernel
theorem dL_law_1437 : decode code 1437 = .ok (.aload_n 0, 1) := by decide +kernel
theorem dL_law_1438 : decode code 1438 = .ok (.iload_n 3, 1) := by decide +kernel
theorem dL_law_1439 : decode code 1439 = .ok (.iconst 3, 1) := by decide +kernel
theorem dL_law_1440 : decode code 1440 = .ok (.iadd, 1) := by decide +kernel
theorem dL_law_1441 : decode code 1441 = .ok (.iaload, 1) := by decide +kernel
theorem dL_law_1442 : decode code 1442 = .ok (.aload_n 0, 1) := by decide +kernel
theorem dL_law_1443 : decode code 1443 = .ok (.iload_n 3, 1) := by decide +kernel
theorem dL_law_1444 : decode code 1444 = .ok (.iconst 4, 1) := by decide +kernel
theorem dL_law_1445 : decode code 1445 = .ok (.iadd, 1) := by decide +kernel
theorem dL_law_1446 : decode code 1446 = .ok (.iaload, 1) := by decide +kernel
theorem dL_law_1447 : decode code 1447 = .ok (.invokevirtual 136, 3) := by decide +kernel
theorem dL_law_1450 : decode code 1450 = .ok (.aload_n 2, 1) := by decide +kernel
theorem dL_law_1451 : decode code 1451 = .ok (.aload_n 0, 1) := by decide +kernel
theorem dL_law_1452 : decode code 1452 = .ok (.iload_n 3, 1) := by decide +kernel
theorem dL_law_1453 : decode code 1453 = .ok (.iconst 1, 1) := by decide +kernel
theorem dL_law_1454 : decode code 1454 = .ok (.iadd, 1) := by decide +kernel
theorem dL_law_1455 : decode code 1455 = .ok (.iaload, 1) := by decide +kernel
theorem dL_law_1456 : decode code 1456 = .ok (.aload_n 0, 1) := by decide +kernel
theorem dL_law_1457 : decode code 1457 = .ok (.iload_n 3, 1) := by decide +kernel
theorem dL_law_1458 : decode code 1458 = .ok (.iconst 2, 1) := by decide +kernel
theorem dL_law_1459 : decode code 1459 = .ok (.iadd, 1) := by decide +kernel
theorem dL_law_1460 : decode code 1460 = .ok (.iaload, 1) := by decide +kernel
theorem dL_law_1461 : decode code 1461 = .ok (.aload_n 0, 1) := by decide +kernel
theorem dL_law_1462 : decode code 1462 = .ok (.iload_n 3, 1) := by decide +kernel
theorem dL_law_1463 : decode code 1463 = .ok (.iconst 3, 1) := by decide +kernel
theorem dL_law_1464 : decode code 1464 = .ok (.iadd, 1) := by decide +kernel
theorem dL_law_1465 : decode code 1465 = .ok (.iaload, 1) := by decide +kernel
theorem dL_law_1466 : decode code 1466 = .ok (.aload_n 0, 1) := by decide +kernel
theorem dL_law_1467 : decode code 1467 = .ok (.iload_n 3, 1) := by decide +kernel
theorem dL_law_1468 : decode code 1468 = .ok (.iconst 4, 1) := by decide +kernel
theorem dL_law_1469 : decode code 1469 = .ok (.iadd, 1) := by decide +kernel
theorem dL_law_1470 : decode code 1470 = .ok (.iaload, 1) := by decide +kernel
theorem dL_law_1471 : decode code 1471 = .ok (.invokevirtual 139, 3) := by decide +kernel
theorem dL_law_1474 : decode code 1474 = .ok (.if_icmp .eq 677, 3) := by decide +kernel
theorem dL_law_1477 : decode code 1477 = .ok (.iconst 0, 1) := by decide +kernel
theorem dL_law_1478 : decode code 1478 = .ok (.ireturn, 1) := by decide +kernel
set_option maxRecDepth 100000 in
theorem law_c28 {z : ZZ} {x : XX} {Q : State → Prop} {k n : Nat} {ad : Nat → Nat} {b L i x0 m0 : Nat} {xs : Nat → Int32} {σ σ1 : MS} {τ τ1 : XS} {r : Int32} (hC : CX z ad x code RL 4 ret) (hR : x.2.2.1 = room_1) (hX : SX z x b L xs) (hx0 : ad 36 = x0) (hm0 : ad 0 = m0) (hi : i + 4 < L) (hk : k + 0 ≤ 600000 ∧ n + 0 ≤ 7302250) (hW : W_loan τ (xs (i + 1)) (xs (i + 2)) (xs (i + 3)) (xs (i + 4)) = some (r, τ1)) (hM : M_loan σ (xs (i + 1)) (xs (i + 2)) (xs (i + 3)) (xs (i + 4)) = some (r, σ1)) (kk : ∀ ad2, exL ad ad2 → AL z x 4 Q (k + 0 + 0) (n + 0 + 0) 2151 [(3, .int (Int32.ofNat i)), (1, .ref x0), (2, .ref m0), (0, .ref b)] [] (wX z σ1 ad2 τ1)) : AL z x 4 Q k n 1426 [(3, .int (Int32.ofNat i)), (1, .ref x0), (2, .ref m0), (0, .ref b)] [] (wX z σ ad τ) := by
  refine al_aload_n (j := 1) hC rfl rfl dL_law_1426 ?_
  refine al_aload_n (j := 3) hC rfl rfl dL_law_1427 ?_
  refine al_iload_n (j := 0) hC rfl rfl dL_law_1428 ?_
  refine al_iconst (v := 1) hC rfl dL_law_1429 ?_
  refine al_iadd hC dL_law_1430 ?_
  refine al_sld (j := i + 1) hC hX (Int32.ofNat_add i 1).symm (by omega) dL_law_1431 ?_
  refine al_aload_n (j := 3) hC rfl rfl dL_law_1432 ?_
  refine al_iload_n (j := 0) hC rfl rfl dL_law_1433 ?_
  refine al_iconst (v := 2) hC rfl dL_law_1434 ?_
  refine al_iadd hC dL_law_1435 ?_
  refine al_sld (j := i + 2) hC hX (Int32.ofNat_add i 2).symm (by omega) dL_law_1436 ?_
  refine al_aload_n (j := 3) hC rfl rfl dL_law_1437 ?_
  refine al_iload_n (j := 0) hC rfl rfl dL_law_1438 ?_
  refine al_iconst (v := 3) hC rfl dL_law_1439 ?_
  refine al_iadd hC dL_law_1440 ?_
  refine al_sld (j := i + 3) hC hX (Int32.ofNat_add i 3).symm (by omega) dL_law_1441 ?_
  refine al_aload_n (j := 3) hC rfl rfl dL_law_1442 ?_
  refine al_iload_n (j := 0) hC rfl rfl dL_law_1443 ?_
  refine al_iconst (v := 4) hC rfl dL_law_1444 ?_
  refine al_iadd hC dL_law_1445 ?_
  refine al_sld (j := i + 4) hC hX (Int32.ofNat_add i 4).symm (by omega) dL_law_1446 ?_
  refine al_callL (w := wX z σ) (As := [.int (xs (i + 1)), .int (xs (i + 2)), .int (xs (i + 3)), .int (xs (i + 4))]) (rest := []) (s0 := τ) (s1 := τ1) (r0 := r) (q := 36) hC hR lkl_136 (c_W_loan τ (xs (i + 1)) (xs (i + 2)) (xs (i + 3)) (xs (i + 4))) hW (fun _ _ h => eqA.L h) dL_law_1447 recX10 rfl rfl hx0 rfl ⟨by decide, by decide⟩ (Nat.le_of_ble_eq_true rfl) ⟨by omega, by omega⟩ ⟨_, rfl, fun _ => rfl⟩ (fun ad1 hE1 hC => ?_)
  have hm0 := (hE1 0 (by omega)).trans hm0
  show AL z x 4 Q (k + 0) (n + 0) _ _ _ (wM z τ1 ad1 σ)
  refine al_aload_n (j := 2) hC rfl rfl dL_law_1450 ?_
  refine al_aload_n (j := 3) hC rfl rfl dL_law_1451 ?_
  refine al_iload_n (j := 0) hC rfl rfl dL_law_1452 ?_
  refine al_iconst (v := 1) hC rfl dL_law_1453 ?_
  refine al_iadd hC dL_law_1454 ?_
  refine al_sld (j := i + 1) hC hX (Int32.ofNat_add i 1).symm (by omega) dL_law_1455 ?_
  refine al_aload_n (j := 3) hC rfl rfl dL_law_1456 ?_
  refine al_iload_n (j := 0) hC rfl rfl dL_law_1457 ?_
  refine al_iconst (v := 2) hC rfl dL_law_1458 ?_
  refine al_iadd hC dL_law_1459 ?_
  refine al_sld (j := i + 2) hC hX (Int32.ofNat_add i 2).symm (by omega) dL_law_1460 ?_
  refine al_aload_n (j := 3) hC rfl rfl dL_law_1461 ?_
  refine al_iload_n (j := 0) hC rfl rfl dL_law_1462 ?_
  refine al_iconst (v := 3) hC rfl dL_law_1463 ?_
  refine al_iadd hC dL_law_1464 ?_
  refine al_sld (j := i + 3) hC hX (Int32.ofNat_add i 3).symm (by omega) dL_law_1465 ?_
  refine al_aload_n (j := 3) hC rfl rfl dL_law_1466 ?_
  refine al_iload_n (j := 0) hC rfl rfl dL_law_1467 ?_
  refine al_iconst (v := 4) hC rfl dL_law_1468 ?_
  refine al_iadd hC dL_law_1469 ?_
  refine al_sld (j := i + 4) hC hX (Int32.ofNat_add i 4).symm (by omega) dL_law_1470 ?_
  refine al_callL (w := wM z τ1) (As := [.int (xs (i + 1)), .int (xs (i + 2)), .int (xs (i + 3)), .int (xs (i + 4))]) (rest := [.int r]) (s0 := σ) (s1 := σ1) (r0 := r) (q := 0) hC hR lkl_139 (c_M_loan σ (xs (i + 1)) (xs (i + 2)) (xs (i + 3)) (xs (i + 4))) hM (fun _ _ h => eqA.L h) dL_law_1471 recX11 rfl rfl hm0 rfl ⟨by decide, by decide⟩ (Nat.le_of_ble_eq_true rfl) ⟨by omega, by omega⟩ ⟨_, rfl, fun _ => rfl⟩ (fun ad2 hE2 hC => ?_)
  show AL z x 4 Q _ _ _ _ _ (wX z σ1 ad2 τ1)
  refine al_icmp_eq (tgt := 2151) hC dL_law_1474 rfl (fun _ => ?_) (fun g => absurd rfl g)
  exact kk ad2 (hE1.trans hE2)
theorem dL_law_1479 : decode code 1479 = .ok (.aload_n 1, 1) := by decide +kernel
theorem dL_law_1480 : decode code 1480 = .ok (.aload_n 0, 1) := by decide +kernel
theorem dL_law_1481 : decode code 1481 = .ok (.iload_n 3, 1) := by decide +kernel
theorem dL_law_1482 : decode code 1482 = .ok (.iconst 1, 1) := by decide +kernel
theorem dL_law_1483 : decode code 1483 = .ok (.iadd, 1) := by decide +kernel
theorem dL_law_1484 : decode code 1484 = .ok (.iaload, 1) := by decide +kernel
theorem dL_law_1485 : decode code 1485 = .ok (.aload_n 0, 1) := by decide +kernel
theorem dL_law_1486 : decode code 1486 = .ok (.iload_n 3, 1) := by decide +kernel
theorem dL_law_1487 : decode code 1487 = .ok (.iconst 2, 1) := by decide +kernel
theorem dL_law_1488 : decode code 1488 = .ok (.iadd, 1) := by decide +kernel
theorem dL_law_1489 : decode code 1489 = .ok (.iaload, 1) := by decide +kernel
theorem dL_law_1490 : decode code 1490 = .ok (.invokevirtual 140, 3) := by decide +kernel
theorem dL_law_1493 : decode code 1493 = .ok (.aload_n 2, 1) := by decide +kernel
theorem dL_law_1494 : decode code 1494 = .ok (.aload_n 0, 1) := by decide +kernel
theorem dL_law_1495 : decode code 1495 = .ok (.iload_n 3, 1) := by decide +kernel
theorem dL_law_1496 : decode code 1496 = .ok (.iconst 1, 1) := by decide +kernel
theorem dL_law_1497 : decode code 1497 = .ok (.iadd, 1) := by decide +kernel
theorem dL_law_1498 : decode code 1498 = .ok (.iaload, 1) := by decide +kernel
theorem dL_law_1499 : decode code 1499 = .ok (.aload_n 0, 1) := by decide +kernel
theorem dL_law_1500 : decode code 1500 = .ok (.iload_n 3, 1) := by decide +kernel
theorem dL_law_1501 : decode code 1501 = .ok (.iconst 2, 1) := by decide +kernel
theorem dL_law_1502 : decode code 1502 = .ok (.iadd, 1) := by decide +kernel
theorem dL_law_1503 : decode code 1503 = .ok (.iaload, 1) := by decide +kernel
theorem dL_law_1504 : decode code 1504 = .ok (.invokevirtual 143, 3) := by decide +kernel
theorem dL_law_1507 : decode code 1507 = .ok (.if_icmp .eq 644, 3) := by decide +kernel
theorem dL_law_1510 : decode code 1510 = .ok (.iconst 0, 1) := by decide +kernel
theorem dL_law_1511 : decode code 1511 = .ok (.ireturn, 1) := by decide +kernel
set_option maxRecDepth 100000 in
theorem law_c29 {z : ZZ} {x : XX} {Q : State → Prop} {k n : Nat} {ad : Nat → Nat} {b L i x0 m0 : Nat} {xs : Nat → Int32} {σ σ1 : MS} {τ τ1 : XS} {r : Int32} (hC : CX z ad x code RL 4 ret) (hR : x.2.2.1 = room_1) (hX : SX z x b L xs) (hx0 : ad 36 = x0) (hm0 : ad 0 = m0) (hi : i + 4 < L) (hk : k + 0 ≤ 600000 ∧ n + 0 ≤ 7302250) (hW : W_bad τ (xs (i + 1)) (xs (i + 2)) = some (r, τ1)) (hM : M_bad σ (xs (i + 1)) (xs (i + 2)) = some (r, σ1)) (kk : ∀ ad2, exL ad ad2 → AL z x 4 Q (k + 0 + 0) (n + 0 + 0) 2151 [(3, .int (Int32.ofNat i)), (1, .ref x0), (2, .ref m0), (0, .ref b)] [] (wX z σ1 ad2 τ1)) : AL z x 4 Q k n 1479 [(3, .int (Int32.ofNat i)), (1, .ref x0), (2, .ref m0), (0, .ref b)] [] (wX z σ ad τ) := by
  refine al_aload_n (j := 1) hC rfl rfl dL_law_1479 ?_
  refine al_aload_n (j := 3) hC rfl rfl dL_law_1480 ?_
  refine al_iload_n (j := 0) hC rfl rfl dL_law_1481 ?_
  refine al_iconst (v := 1) hC rfl dL_law_1482 ?_
  refine al_iadd hC dL_law_1483 ?_
  refine al_sld (j := i + 1) hC hX (Int32.ofNat_add i 1).symm (by omega) dL_law_1484 ?_
  refine al_aload_n (j := 3) hC rfl rfl dL_law_1485 ?_
  refine al_iload_n (j := 0) hC rfl rfl dL_law_1486 ?_
  refine al_iconst (v := 2) hC rfl dL_law_1487 ?_
  refine al_iadd hC dL_law_1488 ?_
  refine al_sld (j := i + 2) hC hX (Int32.ofNat_add i 2).symm (by omega) dL_law_1489 ?_
  refine al_callL (w := wX z σ) (As := [.int (xs (i + 1)), .int (xs (i + 2))]) (rest := []) (s0 := τ) (s1 := τ1) (r0 := r) (q := 36) hC hR lkl_140 (c_W_bad τ (xs (i + 1)) (xs (i + 2))) hW (fun _ _ h => eqA.L h) dL_law_1490 recX10 rfl rfl hx0 rfl ⟨by decide, by decide⟩ (Nat.le_of_ble_eq_true rfl) ⟨by omega, by omega⟩ ⟨_, rfl, fun _ => rfl⟩ (fun ad1 hE1 hC => ?_)
  have hm0 := (hE1 0 (by omega)).trans hm0
  show AL z x 4 Q (k + 0) (n + 0) _ _ _ (wM z τ1 ad1 σ)
  refine al_aload_n (j := 2) hC rfl rfl dL_law_1493 ?_
  refine al_aload_n (j := 3) hC rfl rfl dL_law_1494 ?_
  refine al_iload_n (j := 0) hC rfl rfl dL_law_1495 ?_
  refine al_iconst (v := 1) hC rfl dL_law_1496 ?_
  refine al_iadd hC dL_law_1497 ?_
  refine al_sld (j := i + 1) hC hX (Int32.ofNat_add i 1).symm (by omega) dL_law_1498 ?_
  refine al_aload_n (j := 3) hC rfl rfl dL_law_1499 ?_
  refine al_iload_n (j := 0) hC rfl rfl dL_law_1500 ?_
  refine al_iconst (v := 2) hC rfl dL_law_1501 ?_
  refine al_iadd hC dL_law_1502 ?_
  refine al_sld (j := i + 2) hC hX (Int32.ofNat_add i 2).symm (by omega) dL_law_1503 ?_
  refine al_callL (w := wM z τ1) (As := [.int (xs (i + 1)), .int (xs (i + 2))]) (rest := [.int r]) (s0 := σ) (s1 := σ1) (r0 := r) (q := 0) hC hR lkl_143 (c_M_bad σ (xs (i + 1)) (xs (i + 2))) hM (fun _ _ h => eqA.L h) dL_law_1504 recX11 rfl rfl hm0 rfl ⟨by decide, by decide⟩ (Nat.le_of_ble_eq_true rfl) ⟨by omega, by omega⟩ ⟨_, rfl, fun _ => rfl⟩ (fun ad2 hE2 hC => ?_)
  show AL z x 4 Q _ _ _ _ _ (wX z σ1 ad2 τ1)
  refine al_icmp_eq (tgt := 2151) hC dL_law_1507 rfl (fun _ => ?_) (fun g => absurd rfl g)
  exact kk ad2 (hE1.trans hE2)
theorem dL_law_1512 : decode code 1512 = .ok (.aload_n 1, 1) := by decide +kernel
theorem dL_law_1513 : decode code 1513 = .ok (.aload_n 0, 1) := by decide +kernel
theorem dL_law_1514 : decode code 1514 = .ok (.iload_n 3, 1) := by decide +kernel
theorem dL_law_1515 : decode code 1515 = .ok (.iconst 1, 1) := by decide +kernel
theorem dL_law_1516 : decode code 1516 = .ok (.iadd, 1) := by decide +kernel
theorem dL_law_1517 : decode code 1517 = .ok (.iaload, 1) := by decide +kernel
theorem dL_law_1518 : decode code 1518 = .ok (.aload_n 0, 1) := by decide +kernel
theorem dL_law_1519 : decode code 1519 = .ok (.iload_n 3, 1) := by decide +kernel
theorem dL_law_1520 : decode code 1520 = .ok (.iconst 2, 1) := by decide +kernel
theorem dL_law_1521 : decode code 1521 = .ok (.iadd, 1) := by decide +kernel
theorem dL_law_1522 : decode code 1522 = .ok (.iaload, 1) := by decide +kernel
theorem dL_law_1523 : decode code 1523 = .ok (.invokevirtual 144, 3) := by decide +kernel
theorem dL_law_1526 : decode code 1526 = .ok (.aload_n 2, 1) := by decide +kernel
theorem dL_law_1527 : decode code 1527 = .ok (.aload_n 0, 1) := by decide +kernel
theorem dL_law_1528 : decode code 1528 = .ok (.iload_n 3, 1) := by decide +kernel
theorem dL_law_1529 : decode code 1529 = .ok (.iconst 1, 1) := by decide +kernel
theorem dL_law_1530 : decode code 1530 = .ok (.iadd, 1) := by decide +kernel
theorem dL_law_1531 : decode code 1531 = .ok (.iaload, 1) := by decide +kernel
theorem dL_law_1532 : decode code 1532 = .ok (.aload_n 0, 1) := by decide +kernel
theorem dL_law_1533 : decode code 1533 = .ok (.iload_n 3, 1) := by decide +kernel
theorem dL_law_1534 : decode code 1534 = .ok (.iconst 2, 1) := by decide +kernel
theorem dL_law_1535 : decode code 1535 = .ok (.iadd, 1) := by decide +kernel
theorem dL_law_1536 : decode code 1536 = .ok (.iaload, 1) := by decide +kernel
theorem dL_law_1537 : decode code 1537 = .ok (.invokevirtual 147, 3) := by decide +kernel
theorem dL_law_1540 : decode code 1540 = .ok (.lcmp, 1) := by decide +kernel
theorem dL_law_1541 : decode code 1541 = .ok (.ifCond .eq 610, 3) := by decide +kernel
theorem dL_law_1544 : decode code 1544 = .ok (.iconst 0, 1) := by decide +kernel
theorem dL_law_1545 : decode code 1545 = .ok (.ireturn, 1) := by decide +kernel
set_option maxRecDepth 100000 in
theorem law_c30 {z : ZZ} {x : XX} {Q : State → Prop} {k n : Nat} {ad : Nat → Nat} {b L i x0 m0 : Nat} {xs : Nat → Int32} {σ σ1 : MS} {τ τ1 : XS} {r : Int64} (hC : CX z ad x code RL 4 ret) (hR : x.2.2.1 = room_1) (hX : SX z x b L xs) (hx0 : ad 36 = x0) (hm0 : ad 0 = m0) (hi : i + 4 < L) (hk : k + 0 ≤ 600000 ∧ n + 0 ≤ 7302250) (eτ : τ = τ1) (eσ : σ = σ1) (hW : W_due τ (xs (i + 1)) (xs (i + 2)) = some r) (hM : M_due σ (xs (i + 1)) (xs (i + 2)) = some r) (kk : ∀ ad2, exL ad ad2 → AL z x 4 Q (k + 0 + 0) (n + 0 + 0) 2151 [(3, .int (Int32.ofNat i)), (1, .ref x0), (2, .ref m0), (0, .ref b)] [] (wX z σ1 ad2 τ1)) : AL z x 4 Q k n 1512 [(3, .int (Int32.ofNat i)), (1, .ref x0), (2, .ref m0), (0, .ref b)] [] (wX z σ ad τ) := by
  subst eτ
  subst eσ
  refine al_aload_n (j := 1) hC rfl rfl dL_law_1512 ?_
  refine al_aload_n (j := 3) hC rfl rfl dL_law_1513 ?_
  refine al_iload_n (j := 0) hC rfl rfl dL_law_1514 ?_
  refine al_iconst (v := 1) hC rfl dL_law_1515 ?_
  refine al_iadd hC dL_law_1516 ?_
  refine al_sld (j := i + 1) hC hX (Int32.ofNat_add i 1).symm (by omega) dL_law_1517 ?_
  refine al_aload_n (j := 3) hC rfl rfl dL_law_1518 ?_
  refine al_iload_n (j := 0) hC rfl rfl dL_law_1519 ?_
  refine al_iconst (v := 2) hC rfl dL_law_1520 ?_
  refine al_iadd hC dL_law_1521 ?_
  refine al_sld (j := i + 2) hC hX (Int32.ofNat_add i 2).symm (by omega) dL_law_1522 ?_
  refine al_callL (w := wX z σ) (As := [.int (xs (i + 1)), .int (xs (i + 2))]) (rest := []) (s0 := τ) (s1 := τ) (r0 := r) (q := 36) hC hR lkl_144 (c_W_due τ (xs (i + 1)) (xs (i + 2))) (by rw [hW]; rfl) (fun _ _ h => eqA.L h) dL_law_1523 recX10 rfl rfl hx0 rfl ⟨by decide, by decide⟩ (Nat.le_of_ble_eq_true rfl) ⟨by omega, by omega⟩ ⟨_, rfl, fun _ => rfl⟩ (fun ad1 hE1 hC => ?_)
  have hm0 := (hE1 0 (by omega)).trans hm0
  show AL z x 4 Q (k + 0) (n + 0) _ _ _ (wM z τ ad1 σ)
  refine al_aload_n (j := 2) hC rfl rfl dL_law_1526 ?_
  refine al_aload_n (j := 3) hC rfl rfl dL_law_1527 ?_
  refine al_iload_n (j := 0) hC rfl rfl dL_law_1528 ?_
  refine al_iconst (v := 1) hC rfl dL_law_1529 ?_
  refine al_iadd hC dL_law_1530 ?_
  refine al_sld (j := i + 1) hC hX (Int32.ofNat_add i 1).symm (by omega) dL_law_1531 ?_
  refine al_aload_n (j := 3) hC rfl rfl dL_law_1532 ?_
  refine al_iload_n (j := 0) hC rfl rfl dL_law_1533 ?_
  refine al_iconst (v := 2) hC rfl dL_law_1534 ?_
  refine al_iadd hC dL_law_1535 ?_
  refine al_sld (j := i + 2) hC hX (Int32.ofNat_add i 2).symm (by omega) dL_law_1536 ?_
  refine al_callL (w := wM z τ) (As := [.int (xs (i + 1)), .int (xs (i + 2))]) (rest := [.long r]) (s0 := σ) (s1 := σ) (r0 := r) (q := 0) hC hR lkl_147 (c_M_due σ (xs (i + 1)) (xs (i + 2))) (by rw [hM]; rfl) (fun _ _ h => eqA.L h) dL_law_1537 recX11 rfl rfl hm0 rfl ⟨by decide, by decide⟩ (Nat.le_of_ble_eq_true rfl) ⟨by omega, by omega⟩ ⟨_, rfl, fun _ => rfl⟩ (fun ad2 hE2 hC => ?_)
  show AL z x 4 Q _ _ _ _ _ (wX z σ ad2 τ)
  refine al_lcmp hC dL_law_1540 ?_
  rw [ict_eq]
  refine al_if_eq (tgt := 2151) hC dL_law_1541 rfl (fun _ => ?_) (fun g => absurd rfl g)
  exact kk ad2 (hE1.trans hE2)
theorem dL_law_1546 : decode code 1546 = .ok (.aload_n 1, 1) := by decide +kernel
theorem dL_law_1547 : decode code 1547 = .ok (.aload_n 0, 1) := by decide +kernel
theorem dL_law_1548 : decode code 1548 = .ok (.iload_n 3, 1) := by decide +kernel
theorem dL_law_1549 : decode code 1549 = .ok (.iconst 1, 1) := by decide +kernel
theorem dL_law_1550 : decode code 1550 = .ok (.iadd, 1) := by decide +kernel
theorem dL_law_1551 : decode code 1551 = .ok (.iaload, 1) := by decide +kernel
theorem dL_law_1552 : decode code 1552 = .ok (.aload_n 0, 1) := by decide +kernel
theorem dL_law_1553 : decode code 1553 = .ok (.iload_n 3, 1) := by decide +kernel
theorem dL_law_1554 : decode code 1554 = .ok (.iconst 2, 1) := by decide +kernel
theorem dL_law_1555 : decode code 1555 = .ok (.iadd, 1) := by decide +kernel
theorem dL_law_1556 : decode code 1556 = .ok (.iaload, 1) := by decide +kernel
theorem dL_law_1557 : decode code 1557 = .ok (.invokevirtual 148, 3) := by decide +kernel
theorem dL_law_1560 : decode code 1560 = .ok (.aload_n 2, 1) := by decide +kernel
theorem dL_law_1561 : decode code 1561 = .ok (.aload_n 0, 1) := by decide +kernel
theorem dL_law_1562 : decode code 1562 = .ok (.iload_n 3, 1) := by decide +kernel
theorem dL_law_1563 : decode code 1563 = .ok (.iconst 1, 1) := by decide +kernel
theorem dL_law_1564 : decode code 1564 = .ok (.iadd, 1) := by decide +kernel
theorem dL_law_1565 : decode code 1565 = .ok (.iaload, 1) := by decide +kernel
theorem dL_law_1566 : decode code 1566 = .ok (.aload_n 0, 1) := by decide +kernel
theorem dL_law_1567 : decode code 1567 = .ok (.iload_n 3, 1) := by decide +kernel
theorem dL_law_1568 : decode code 1568 = .ok (.iconst 2, 1) := by decide +kernel
theorem dL_law_1569 : decode code 1569 = .ok (.iadd, 1) := by decide +kernel
theorem dL_law_1570 : decode code 1570 = .ok (.iaload, 1) := by decide +kernel
theorem dL_law_1571 : decode code 1571 = .ok (.invokevirtual 151, 3) := by decide +kernel
theorem dL_law_1574 : decode code 1574 = .ok (.if_icmp .eq 577, 3) := by decide +kernel
theorem dL_law_1577 : decode code 1577 = .ok (.iconst 0, 1) := by decide +kernel
theorem dL_law_1578 : decode code 1578 = .ok (.ireturn, 1) := by decide +kernel
set_option maxRecDepth 100000 in
theorem law_c31 {z : ZZ} {x : XX} {Q : State → Prop} {k n : Nat} {ad : Nat → Nat} {b L i x0 m0 : Nat} {xs : Nat → Int32} {σ σ1 : MS} {τ τ1 : XS} {r : Int32} (hC : CX z ad x code RL 4 ret) (hR : x.2.2.1 = room_1) (hX : SX z x b L xs) (hx0 : ad 36 = x0) (hm0 : ad 0 = m0) (hi : i + 4 < L) (hk : k + 0 ≤ 600000 ∧ n + 0 ≤ 7302250) (hW : W_table τ (xs (i + 1)) (xs (i + 2)) = some (r, τ1)) (hM : M_table σ (xs (i + 1)) (xs (i + 2)) = some (r, σ1)) (kk : ∀ ad2, exL ad ad2 → AL z x 4 Q (k + 0 + 0) (n + 0 + 0) 2151 [(3, .int (Int32.ofNat i)), (1, .ref x0), (2, .ref m0), (0, .ref b)] [] (wX z σ1 ad2 τ1)) : AL z x 4 Q k n 1546 [(3, .int (Int32.ofNat i)), (1, .ref x0), (2, .ref m0), (0, .ref b)] [] (wX z σ ad τ) := by
  refine al_aload_n (j := 1) hC rfl rfl dL_law_1546 ?_
  refine al_aload_n (j := 3) hC rfl rfl dL_law_1547 ?_
  refine al_iload_n (j := 0) hC rfl rfl dL_law_1548 ?_
  refine al_iconst (v := 1) hC rfl dL_law_1549 ?_
  refine al_iadd hC dL_law_1550 ?_
  refine al_sld (j := i + 1) hC hX (Int32.ofNat_add i 1).symm (by omega) dL_law_1551 ?_
  refine al_aload_n (j := 3) hC rfl rfl dL_law_1552 ?_
  refine al_iload_n (j := 0) hC rfl rfl dL_law_1553 ?_
  refine al_iconst (v := 2) hC rfl dL_law_1554 ?_
  refine al_iadd hC dL_law_1555 ?_
  refine al_sld (j := i + 2) hC hX (Int32.ofNat_add i 2).symm (by omega) dL_law_1556 ?_
  refine al_callL (w := wX z σ) (As := [.int (xs (i + 1)), .int (xs (i + 2))]) (rest := []) (s0 := τ) (s1 := τ1) (r0 := r) (q := 36) hC hR lkl_148 (c_W_table τ (xs (i + 1)) (xs (i + 2))) hW (fun _ _ h => eqA.L h) dL_law_1557 recX10 rfl rfl hx0 rfl ⟨by decide, by decide⟩ (Nat.le_of_ble_eq_true rfl) ⟨by omega, by omega⟩ ⟨_, rfl, fun _ => rfl⟩ (fun ad1 hE1 hC => ?_)
  have hm0 := (hE1 0 (by omega)).trans hm0
  show AL z x 4 Q (k + 0) (n + 0) _ _ _ (wM z τ1 ad1 σ)
  refine al_aload_n (j := 2) hC rfl rfl dL_law_1560 ?_
  refine al_aload_n (j := 3) hC rfl rfl dL_law_1561 ?_
  refine al_iload_n (j := 0) hC rfl rfl dL_law_1562 ?_
  refine al_iconst (v := 1) hC rfl dL_law_1563 ?_
  refine al_iadd hC dL_law_1564 ?_
  refine al_sld (j := i + 1) hC hX (Int32.ofNat_add i 1).symm (by omega) dL_law_1565 ?_
  refine al_aload_n (j := 3) hC rfl rfl dL_law_1566 ?_
  refine al_iload_n (j := 0) hC rfl rfl dL_law_1567 ?_
  refine al_iconst (v := 2) hC rfl dL_law_1568 ?_
  refine al_iadd hC dL_law_1569 ?_
  refine al_sld (j := i + 2) hC hX (Int32.ofNat_add i 2).symm (by omega) dL_law_1570 ?_
  refine al_callL (w := wM z τ1) (As := [.int (xs (i + 1)), .int (xs (i + 2))]) (rest := [.int r]) (s0 := σ) (s1 := σ1) (r0 := r) (q := 0) hC hR lkl_151 (c_M_table σ (xs (i + 1)) (xs (i + 2))) hM (fun _ _ h => eqA.L h) dL_law_1571 recX11 rfl rfl hm0 rfl ⟨by decide, by decide⟩ (Nat.le_of_ble_eq_true rfl) ⟨by omega, by omega⟩ ⟨_, rfl, fun _ => rfl⟩ (fun ad2 hE2 hC => ?_)
  show AL z x 4 Q _ _ _ _ _ (wX z σ1 ad2 τ1)
  refine al_icmp_eq (tgt := 2151) hC dL_law_1574 rfl (fun _ => ?_) (fun g => absurd rfl g)
  exact kk ad2 (hE1.trans hE2)
