theorem dL_law_240 : decode code 240 = .ok (.aload_n 1, 1) := by decide +kernel
theorem dL_law_241 : decode code 241 = .ok (.aload_n 0, 1) := by decide +kernel
theorem dL_law_242 : decode code 242 = .ok (.iload_n 3, 1) := by decide +kernel
theorem dL_law_243 : decode code 243 = .ok (.iconst 1, 1) := by decide +kernel
theorem dL_law_244 : decode code 244 = .ok (.iadd, 1) := by decide +kernel
theorem dL_law_245 : decode code 245 = .ok (.iaload, 1) := by decide +kernel
theorem dL_law_246 : decode code 246 = .ok (.invokevirtual 13, 3) := by decide +kernel
theorem dL_law_249 : decode code 249 = .ok (.aload_n 2, 1) := by decide +kernel
theorem dL_law_250 : decode code 250 = .ok (.aload_n 0, 1) := by decide +kernel
theorem dL_law_251 : decode code 251 = .ok (.iload_n 3, 1) := by decide +kernel
theorem dL_law_252 : decode code 252 = .ok (.iconst 1, 1) := by decide +kernel
theorem dL_law_253 : decode code 253 = .ok (.iadd, 1) := by decide +kernel
theorem dL_law_254 : decode code 254 = .ok (.iaload, 1) := by decide +kernel
theorem dL_law_255 : decode code 255 = .ok (.invokevirtual 17, 3) := by decide +kernel
theorem dL_law_258 : decode code 258 = .ok (.if_icmp .eq 1893, 3) := by decide +kernel
theorem dL_law_261 : decode code 261 = .ok (.iconst 0, 1) := by decide +kernel
theorem dL_law_262 : decode code 262 = .ok (.ireturn, 1) := by decide +kernel
set_option maxRecDepth 100000 in
theorem law_c0 {z : ZZ} {x : XX} {Q : State → Prop} {k n : Nat} {ad : Nat → Nat} {b L i x0 m0 : Nat} {xs : Nat → Int32} {σ σ1 : MS} {τ τ1 : XS} {r : Int32} (hC : CX z ad x code RL 4 ret) (hR : x.2.2.1 = room_1) (hX : SX z x b L xs) (hx0 : ad 36 = x0) (hm0 : ad 0 = m0) (hi : i + 4 < L) (hk : k + 0 ≤ 600000 ∧ n + 0 ≤ 7302250) (hW : W_seat τ (xs (i + 1)) = some (r, τ1)) (hM : M_seat σ (xs (i + 1)) = some (r, σ1)) (kk : ∀ ad2, exL ad ad2 → AL z x 4 Q (k + 0 + 0) (n + 0 + 0) 2151 [(3, .int (Int32.ofNat i)), (1, .ref x0), (2, .ref m0), (0, .ref b)] [] (wX z σ1 ad2 τ1)) : AL z x 4 Q k n 240 [(3, .int (Int32.ofNat i)), (1, .ref x0), (2, .ref m0), (0, .ref b)] [] (wX z σ ad τ) := by
  refine al_aload_n (j := 1) hC rfl rfl dL_law_240 ?_
  refine al_aload_n (j := 3) hC rfl rfl dL_law_241 ?_
  refine al_iload_n (j := 0) hC rfl rfl dL_law_242 ?_
  refine al_iconst (v := 1) hC rfl dL_law_243 ?_
  refine al_iadd hC dL_law_244 ?_
  refine al_sld (j := i + 1) hC hX (Int32.ofNat_add i 1).symm (by omega) dL_law_245 ?_
  refine al_callL (w := wX z σ) (As := [.int (xs (i + 1))]) (rest := []) (s0 := τ) (s1 := τ1) (r0 := r) (q := 36) hC hR lkl_13 (c_W_seat τ (xs (i + 1))) hW (fun _ _ h => eqA.L h) dL_law_246 recX10 rfl rfl hx0 rfl ⟨by decide, by decide⟩ (Nat.le_of_ble_eq_true rfl) ⟨by omega, by omega⟩ ⟨_, rfl, fun _ => rfl⟩ (fun ad1 hE1 hC => ?_)
  have hm0 := (hE1 0 (by omega)).trans hm0
  show AL z x 4 Q (k + 0) (n + 0) _ _ _ (wM z τ1 ad1 σ)
  refine al_aload_n (j := 2) hC rfl rfl dL_law_249 ?_
  refine al_aload_n (j := 3) hC rfl rfl dL_law_250 ?_
  refine al_iload_n (j := 0) hC rfl rfl dL_law_251 ?_
  refine al_iconst (v := 1) hC rfl dL_law_252 ?_
  refine al_iadd hC dL_law_253 ?_
  refine al_sld (j := i + 1) hC hX (Int32.ofNat_add i 1).symm (by omega) dL_law_254 ?_
  refine al_callL (w := wM z τ1) (As := [.int (xs (i + 1))]) (rest := [.int r]) (s0 := σ) (s1 := σ1) (r0 := r) (q := 0) hC hR lkl_17 (c_M_seat σ (xs (i + 1))) hM (fun _ _ h => eqA.L h) dL_law_255 recX11 rfl rfl hm0 rfl ⟨by decide, by decide⟩ (Nat.le_of_ble_eq_true rfl) ⟨by omega, by omega⟩ ⟨_, rfl, fun _ => rfl⟩ (fun ad2 hE2 hC => ?_)
  show AL z x 4 Q _ _ _ _ _ (wX z σ1 ad2 τ1)
  refine al_icmp_eq (tgt := 2151) hC dL_law_258 rfl (fun _ => ?_) (fun g => absurd rfl g)
  exact kk ad2 (hE1.trans hE2)
theorem dL_law_263 : decode code 263 = .ok (.aload_n 1, 1) := by decide +kernel
theorem dL_law_264 : decode code 264 = .ok (.aload_n 0, 1) := by decide +kernel
theorem dL_law_265 : decode code 265 = .ok (.iload_n 3, 1) := by decide +kernel
theorem dL_law_266 : decode code 266 = .ok (.iconst 1, 1) := by decide +kernel
theorem dL_law_267 : decode code 267 = .ok (.iadd, 1) := by decide +kernel
theorem dL_law_268 : decode code 268 = .ok (.iaload, 1) := by decide +kernel
theorem dL_law_269 : decode code 269 = .ok (.aload_n 0, 1) := by decide +kernel
theorem dL_law_270 : decode code 270 = .ok (.iload_n 3, 1) := by decide +kernel
theorem dL_law_271 : decode code 271 = .ok (.iconst 2, 1) := by decide +kernel
theorem dL_law_272 : decode code 272 = .ok (.iadd, 1) := by decide +kernel
theorem dL_law_273 : decode code 273 = .ok (.iaload, 1) := by decide +kernel
theorem dL_law_274 : decode code 274 = .ok (.aload_n 0, 1) := by decide +kernel
theorem dL_law_275 : decode code 275 = .ok (.iload_n 3, 1) := by decide +kernel
theorem dL_law_276 : decode code 276 = .ok (.iconst 3, 1) := by decide +kernel
theorem dL_law_277 : decode code 277 = .ok (.iadd, 1) := by decide +kernel
theorem dL_law_278 : decode code 278 = .ok (.iaload, 1) := by decide +kernel
theorem dL_law_279 : decode code 279 = .ok (.aload_n 0, 1) := by decide +kernel
theorem dL_law_280 : decode code 280 = .ok (.iload_n 3, 1) := by decide +kernel
theorem dL_law_281 : decode code 281 = .ok (.iconst 4, 1) := by decide +kernel
theorem dL_law_282 : decode code 282 = .ok (.iadd, 1) := by decide +kernel
theorem dL_law_283 : decode code 283 = .ok (.iaload, 1) := by decide +kernel
theorem dL_law_284 : decode code 284 = .ok (.invokevirtual 18, 3) := by decide +kernel
theorem dL_law_287 : decode code 287 = .ok (.aload_n 2, 1) := by decide +kernel
theorem dL_law_288 : decode code 288 = .ok (.aload_n 0, 1) := by decide +kernel
theorem dL_law_289 : decode code 289 = .ok (.iload_n 3, 1) := by decide +kernel
theorem dL_law_290 : decode code 290 = .ok (.iconst 1, 1) := by decide +kernel
theorem dL_law_291 : decode code 291 = .ok (.iadd, 1) := by decide +kernel
theorem dL_law_292 : decode code 292 = .ok (.iaload, 1) := by decide +kernel
theorem dL_law_293 : decode code 293 = .ok (.aload_n 0, 1) := by decide +kernel
theorem dL_law_294 : decode code 294 = .ok (.iload_n 3, 1) := by decide +kernel
theorem dL_law_295 : decode code 295 = .ok (.iconst 2, 1) := by decide +kernel
theorem dL_law_296 : decode code 296 = .ok (.iadd, 1) := by decide +kernel
theorem dL_law_297 : decode code 297 = .ok (.iaload, 1) := by decide +kernel
theorem dL_law_298 : decode code 298 = .ok (.aload_n 0, 1) := by decide +kernel
theorem dL_law_299 : decode code 299 = .ok (.iload_n 3, 1) := by decide +kernel
theorem dL_law_300 : decode code 300 = .ok (.iconst 3, 1) := by decide +kernel
theorem dL_law_301 : decode code 301 = .ok (.iadd, 1) := by decide +kernel
theorem dL_law_302 : decode code 302 = .ok (.iaload, 1) := by decide +kernel
theorem dL_law_303 : decode code 303 = .ok (.aload_n 0, 1) := by decide +kernel
theorem dL_law_304 : decode code 304 = .ok (.iload_n 3, 1) := by decide +kernel
theorem dL_law_305 : decode code 305 = .ok (.iconst 4, 1) := by decide +kernel
theorem dL_law_306 : decode code 306 = .ok (.iadd, 1) := by decide +kernel
theorem dL_law_307 : decode code 307 = .ok (.iaload, 1) := by decide +kernel
theorem dL_law_308 : decode code 308 = .ok (.invokevirtual 22, 3) := by decide +kernel
theorem dL_law_311 : decode code 311 = .ok (.if_icmp .eq 1840, 3) := by decide +kernel
theorem dL_law_314 : decode code 314 = .ok (.iconst 0, 1) := by decide +kernel
theorem dL_law_315 : decode code 315 = .ok (.ireturn, 1) := by decide +kernel
set_option maxRecDepth 100000 in
theorem law_c1 {z : ZZ} {x : XX} {Q : State → Prop} {k n : Nat} {ad : Nat → Nat} {b L i x0 m0 : Nat} {xs : Nat → Int32} {σ σ1 : MS} {τ τ1 : XS} {r : Int32} (hC : CX z ad x code RL 4 ret) (hR : x.2.2.1 = room_1) (hX : SX z x b L xs) (hx0 : ad 36 = x0) (hm0 : ad 0 = m0) (hi : i + 4 < L) (hk : k + 0 ≤ 600000 ∧ n + 0 ≤ 7302250) (hW : W_person τ (xs (i + 1)) (xs (i + 2)) (xs (i + 3)) (xs (i + 4)) = some (r, τ1)) (hM : M_person σ (xs (i + 1)) (xs (i + 2)) (xs (i + 3)) (xs (i + 4)) = some (r, σ1)) (kk : ∀ ad2, exL ad ad2 → AL z x 4 Q (k + 0 + 0) (n + 0 + 0) 2151 [(3, .int (Int32.ofNat i)), (1, .ref x0), (2, .ref m0), (0, .ref b)] [] (wX z σ1 ad2 τ1)) : AL z x 4 Q k n 263 [(3, .int (Int32.ofNat i)), (1, .ref x0), (2, .ref m0), (0, .ref b)] [] (wX z σ ad τ) := by
  refine al_aload_n (j := 1) hC rfl rfl dL_law_263 ?_
  refine al_aload_n (j := 3) hC rfl rfl dL_law_264 ?_
  refine al_iload_n (j := 0) hC rfl rfl dL_law_265 ?_
  refine al_iconst (v := 1) hC rfl dL_law_266 ?_
  refine al_iadd hC dL_law_267 ?_
  refine al_sld (j := i + 1) hC hX (Int32.ofNat_add i 1).symm (by omega) dL_law_268 ?_
  refine al_aload_n (j := 3) hC rfl rfl dL_law_269 ?_
  refine al_iload_n (j := 0) hC rfl rfl dL_law_270 ?_
  refine al_iconst (v := 2) hC rfl dL_law_271 ?_
  refine al_iadd hC dL_law_272 ?_
  refine al_sld (j := i + 2) hC hX (Int32.ofNat_add i 2).symm (by omega) dL_law_273 ?_
  refine al_aload_n (j := 3) hC rfl rfl dL_law_274 ?_
  refine al_iload_n (j := 0) hC rfl rfl dL_law_275 ?_
  refine al_iconst (v := 3) hC rfl dL_law_276 ?_
  refine al_iadd hC dL_law_277 ?_
  refine al_sld (j := i + 3) hC hX (Int32.ofNat_add i 3).symm (by omega) dL_law_278 ?_
  refine al_aload_n (j := 3) hC rfl rfl dL_law_279 ?_
  refine al_iload_n (j := 0) hC rfl rfl dL_law_280 ?_
  refine al_iconst (v := 4) hC rfl dL_law_281 ?_
  refine al_iadd hC dL_law_282 ?_
  refine al_sld (j := i + 4) hC hX (Int32.ofNat_add i 4).symm (by omega) dL_law_283 ?_
  refine al_callL (w := wX z σ) (As := [.int (xs (i + 1)), .int (xs (i + 2)), .int (xs (i + 3)), .int (xs (i + 4))]) (rest := []) (s0 := τ) (s1 := τ1) (r0 := r) (q := 36) hC hR lkl_18 (c_W_person τ (xs (i + 1)) (xs (i + 2)) (xs (i + 3)) (xs (i + 4))) hW (fun _ _ h => eqA.L h) dL_law_284 recX10 rfl rfl hx0 rfl ⟨by decide, by decide⟩ (Nat.le_of_ble_eq_true rfl) ⟨by omega, by omega⟩ ⟨_, rfl, fun _ => rfl⟩ (fun ad1 hE1 hC => ?_)
  have hm0 := (hE1 0 (by omega)).trans hm0
  show AL z x 4 Q (k + 0) (n + 0) _ _ _ (wM z τ1 ad1 σ)
  refine al_aload_n (j := 2) hC rfl rfl dL_law_287 ?_
  refine al_aload_n (j := 3) hC rfl rfl dL_law_288 ?_
  refine al_iload_n (j := 0) hC rfl rfl dL_law_289 ?_
  refine al_iconst (v := 1) hC rfl dL_law_290 ?_
  refine al_iadd hC dL_law_291 ?_
  refine al_sld (j := i + 1) hC hX (Int32.ofNat_add i 1).symm (by omega) dL_law_292 ?_
  refine al_aload_n (j := 3) hC rfl rfl dL_law_293 ?_
  refine al_iload_n (j := 0) hC rfl rfl dL_law_294 ?_
  refine al_iconst (v := 2) hC rfl dL_law_295 ?_
  refine al_iadd hC dL_law_296 ?_
  refine al_sld (j := i + 2) hC hX (Int32.ofNat_add i 2).symm (by omega) dL_law_297 ?_
  refine al_aload_n (j := 3) hC rfl rfl dL_law_298 ?_
  refine al_iload_n (j := 0) hC rfl rfl dL_law_299 ?_
  refine al_iconst (v := 3) hC rfl dL_law_300 ?_
  refine al_iadd hC dL_law_301 ?_
  refine al_sld (j := i + 3) hC hX (Int32.ofNat_add i 3).symm (by omega) dL_law_302 ?_
  refine al_aload_n (j := 3) hC rfl rfl dL_law_303 ?_
  refine al_iload_n (j := 0) hC rfl rfl dL_law_304 ?_
  refine al_iconst (v := 4) hC rfl dL_law_305 ?_
  refine al_iadd hC dL_law_306 ?_
  refine al_sld (j := i + 4) hC hX (Int32.ofNat_add i 4).symm (by omega) dL_law_307 ?_
  refine al_callL (w := wM z τ1) (As := [.int (xs (i + 1)), .int (xs (i + 2)), .int (xs (i + 3)), .int (xs (i + 4))]) (rest := [.int r]) (s0 := σ) (s1 := σ1) (r0 := r) (q := 0) hC hR lkl_22 (c_M_person σ (xs (i + 1)) (xs (i + 2)) (xs (i + 3)) (xs (i + 4))) hM (fun _ _ h => eqA.L h) dL_law_308 recX11 rfl rfl hm0 rfl ⟨by decide, by decide⟩ (Nat.le_of_ble_eq_true rfl) ⟨by omega, by omega⟩ ⟨_, rfl, fun _ => rfl⟩ (fun ad2 hE2 hC => ?_)
  show AL z x 4 Q _ _ _ _ _ (wX z σ1 ad2 τ1)
  refine al_icmp_eq (tgt := 2151) hC dL_law_311 rfl (fun _ => ?_) (fun g => absurd rfl g)
  exact kk ad2 (hE1.trans hE2)
theorem dL_law_316 : decode code 316 = .ok (.aload_n 1, 1) := by decide +kernel
theorem dL_law_317 : decode code 317 = .ok (.aload_n 0, 1) := by decide +kernel
theorem dL_law_318 : decode code 318 = .ok (.iload_n 3, 1) := by decide +kernel
theorem dL_law_319 : decode code 319 = .ok (.iconst 1, 1) := by decide +kernel
theorem dL_law_320 : decode code 320 = .ok (.iadd, 1) := by decide +kernel
theorem dL_law_321 : decode code 321 = .ok (.iaload, 1) := by decide +kernel
theorem dL_law_322 : decode code 322 = .ok (.aload_n 0, 1) := by decide +kernel
theorem dL_law_323 : decode code 323 = .ok (.iload_n 3, 1) := by decide +kernel
theorem dL_law_324 : decode code 324 = .ok (.iconst 2, 1) := by decide +kernel
theorem dL_law_325 : decode code 325 = .ok (.iadd, 1) := by decide +kernel
theorem dL_law_326 : decode code 326 = .ok (.iaload, 1) := by decide +kernel
theorem dL_law_327 : decode code 327 = .ok (.invokevirtual 23, 3) := by decide +kernel
theorem dL_law_330 : decode code 330 = .ok (.aload_n 2, 1) := by decide +kernel
theorem dL_law_331 : decode code 331 = .ok (.aload_n 0, 1) := by decide +kernel
theorem dL_law_332 : decode code 332 = .ok (.iload_n 3, 1) := by decide +kernel
theorem dL_law_333 : decode code 333 = .ok (.iconst 1, 1) := by decide +kernel
theorem dL_law_334 : decode code 334 = .ok (.iadd, 1) := by decide +kernel
theorem dL_law_335 : decode code 335 = .ok (.iaload, 1) := by decide +kernel
theorem dL_law_336 : decode code 336 = .ok (.aload_n 0, 1) := by decide +kernel
theorem dL_law_337 : decode code 337 = .ok (.iload_n 3, 1) := by decide +kernel
theorem dL_law_338 : decode code 338 = .ok (.iconst 2, 1) := by decide +kernel
theorem dL_law_339 : decode code 339 = .ok (.iadd, 1) := by decide +kernel
theorem dL_law_340 : decode code 340 = .ok (.iaload, 1) := by decide +kernel
theorem dL_law_341 : decode code 341 = .ok (.invokevirtual 27, 3) := by decide +kernel
theorem dL_law_344 : decode code 344 = .ok (.if_icmp .eq 1807, 3) := by decide +kernel
theorem dL_law_347 : decode code 347 = .ok (.iconst 0, 1) := by decide +kernel
theorem dL_law_348 : decode code 348 = .ok (.ireturn, 1) := by decide +kernel
set_option maxRecDepth 100000 in
theorem law_c2 {z : ZZ} {x : XX} {Q : State → Prop} {k n : Nat} {ad : Nat → Nat} {b L i x0 m0 : Nat} {xs : Nat → Int32} {σ σ1 : MS} {τ τ1 : XS} {r : Int32} (hC : CX z ad x code RL 4 ret) (hR : x.2.2.1 = room_1) (hX : SX z x b L xs) (hx0 : ad 36 = x0) (hm0 : ad 0 = m0) (hi : i + 4 < L) (hk : k + 0 ≤ 600000 ∧ n + 0 ≤ 7302250) (eτ : τ = τ1) (eσ : σ = σ1) (hW : W_birth τ (xs (i + 1)) (xs (i + 2)) = some r) (hM : M_birth σ (xs (i + 1)) (xs (i + 2)) = some r) (kk : ∀ ad2, exL ad ad2 → AL z x 4 Q (k + 0 + 0) (n + 0 + 0) 2151 [(3, .int (Int32.ofNat i)), (1, .ref x0), (2, .ref m0), (0, .ref b)] [] (wX z σ1 ad2 τ1)) : AL z x 4 Q k n 316 [(3, .int (Int32.ofNat i)), (1, .ref x0), (2, .ref m0), (0, .ref b)] [] (wX z σ ad τ) := by
  subst eτ
  subst eσ
  refine al_aload_n (j := 1) hC rfl rfl dL_law_316 ?_
  refine al_aload_n (j := 3) hC rfl rfl dL_law_317 ?_
  refine al_iload_n (j := 0) hC rfl rfl dL_law_318 ?_
  refine al_iconst (v := 1) hC rfl dL_law_319 ?_
  refine al_iadd hC dL_law_320 ?_
  refine al_sld (j := i + 1) hC hX (Int32.ofNat_add i 1).symm (by omega) dL_law_321 ?_
  refine al_aload_n (j := 3) hC rfl rfl dL_law_322 ?_
  refine al_iload_n (j := 0) hC rfl rfl dL_law_323 ?_
  refine al_iconst (v := 2) hC rfl dL_law_324 ?_
  refine al_iadd hC dL_law_325 ?_
  refine al_sld (j := i + 2) hC hX (Int32.ofNat_add i 2).symm (by omega) dL_law_326 ?_
  refine al_callL (w := wX z σ) (As := [.int (xs (i + 1)), .int (xs (i + 2))]) (rest := []) (s0 := τ) (s1 := τ) (r0 := r) (q := 36) hC hR lkl_23 (c_W_birth τ (xs (i + 1)) (xs (i + 2))) (by rw [hW]; rfl) (fun _ _ h => eqA.L h) dL_law_327 recX10 rfl rfl hx0 rfl ⟨by decide, by decide⟩ (Nat.le_of_ble_eq_true rfl) ⟨by omega, by omega⟩ ⟨_, rfl, fun _ => rfl⟩ (fun ad1 hE1 hC => ?_)
  have hm0 := (hE1 0 (by omega)).trans hm0
  show AL z x 4 Q (k + 0) (n + 0) _ _ _ (wM z τ ad1 σ)
  refine al_aload_n (j := 2) hC rfl rfl dL_law_330 ?_
  refine al_aload_n (j := 3) hC rfl rfl dL_law_331 ?_
  refine al_iload_n (j := 0) hC rfl rfl dL_law_332 ?_
  refine al_iconst (v := 1) hC rfl dL_law_333 ?_
  refine al_iadd hC dL_law_334 ?_
  refine al_sld (j := i + 1) hC hX (Int32.ofNat_add i 1).symm (by omega) dL_law_335 ?_
  refine al_aload_n (j := 3) hC rfl rfl dL_law_336 ?_
  refine al_iload_n (j := 0) hC rfl rfl dL_law_337 ?_
  refine al_iconst (v := 2) hC rfl dL_law_338 ?_
  refine al_iadd hC dL_law_339 ?_
  refine al_sld (j := i + 2) hC hX (Int32.ofNat_add i 2).symm (by omega) dL_law_340 ?_
  refine al_callL (w := wM z τ) (As := [.int (xs (i + 1)), .int (xs (i + 2))]) (rest := [.int r]) (s0 := σ) (s1 := σ) (r0 := r) (q := 0) hC hR lkl_27 (c_M_birth σ (xs (i + 1)) (xs (i + 2))) (by rw [hM]; rfl) (fun _ _ h => eqA.L h) dL_law_341 recX11 rfl rfl hm0 rfl ⟨by decide, by decide⟩ (Nat.le_of_ble_eq_true rfl) ⟨by omega, by omega⟩ ⟨_, rfl, fun _ => rfl⟩ (fun ad2 hE2 hC => ?_)
  show AL z x 4 Q _ _ _ _ _ (wX z σ ad2 τ)
  refine al_icmp_eq (tgt := 2151) hC dL_law_344 rfl (fun _ => ?_) (fun g => absurd rfl g)
  exact kk ad2 (hE1.trans hE2)
theorem dL_law_349 : decode code 349 = .ok (.aload_n 1, 1) := by decide +kernel
theorem dL_law_350 : decode code 350 = .ok (.aload_n 0, 1) := by decide +kernel
theorem dL_law_351 : decode code 351 = .ok (.iload_n 3, 1) := by decide +kernel
theorem dL_law_352 : decode code 352 = .ok (.iconst 1, 1) := by decide +kernel
theorem dL_law_353 : decode code 353 = .ok (.iadd, 1) := by decide +kernel
theorem dL_law_354 : decode code 354 = .ok (.iaload, 1) := by decide +kernel
theorem dL_law_355 : decode code 355 = .ok (.aload_n 0, 1) := by decide +kernel
theorem dL_law_356 : decode code 356 = .ok (.iload_n 3, 1) := by decide +kernel
theorem dL_law_357 : decode code 357 = .ok (.iconst 2, 1) := by decide +kernel
theorem dL_law_358 : decode code 358 = .ok (.iadd, 1) := by decide +kernel
theorem dL_law_359 : decode code 359 = .ok (.iaload, 1) := by decide +kernel
theorem dL_law_360 : decode code 360 = .ok (.aload_n 0, 1) := by decide +kernel
theorem dL_law_361 : decode code 361 = .ok (.iload_n 3, 1) := by decide +kernel
theorem dL_law_362 : decode code 362 = .ok (.iconst 3, 1) := by decide +kernel
theorem dL_law_363 : decode code 363 = .ok (.iadd, 1) := by decide +kernel
theorem dL_law_364 : decode code 364 = .ok (.iaload, 1) := by decide +kernel
theorem dL_law_365 : decode code 365 = .ok (.invokevirtual 28, 3) := by decide +kernel
theorem dL_law_368 : decode code 368 = .ok (.aload_n 2, 1) := by decide +kernel
theorem dL_law_369 : decode code 369 = .ok (.aload_n 0, 1) := by decide +kernel
theorem dL_law_370 : decode code 370 = .ok (.iload_n 3, 1) := by decide +kernel
theorem dL_law_371 : decode code 371 = .ok (.iconst 1, 1) := by decide +kernel
theorem dL_law_372 : decode code 372 = .ok (.iadd, 1) := by decide +kernel
theorem dL_law_373 : decode code 373 = .ok (.iaload, 1) := by decide +kernel
theorem dL_law_374 : decode code 374 = .ok (.aload_n 0, 1) := by decide +kernel
theorem dL_law_375 : decode code 375 = .ok (.iload_n 3, 1) := by decide +kernel
theorem dL_law_376 : decode code 376 = .ok (.iconst 2, 1) := by decide +kernel
theorem dL_law_377 : decode code 377 = .ok (.iadd, 1) := by decide +kernel
theorem dL_law_378 : decode code 378 = .ok (.iaload, 1) := by decide +kernel
theorem dL_law_379 : decode code 379 = .ok (.aload_n 0, 1) := by decide +kernel
theorem dL_law_380 : decode code 380 = .ok (.iload_n 3, 1) := by decide +kernel
theorem dL_law_381 : decode code 381 = .ok (.iconst 3, 1) := by decide +kernel
theorem dL_law_382 : decode code 382 = .ok (.iadd, 1) := by decide +kernel
theorem dL_law_383 : decode code 383 = .ok (.iaload, 1) := by decide +kernel
theorem dL_law_384 : decode code 384 = .ok (.invokevirtual 32, 3) := by decide +kernel
theorem dL_law_387 : decode code 387 = .ok (.if_icmp .eq 1764, 3) := by decide +kernel
theorem dL_law_390 : decode code 390 = .ok (.iconst 0, 1) := by decide +kernel
theorem dL_law_391 : decode code 391 = .ok (.ireturn, 1) := by decide +kernel
set_option maxRecDepth 100000 in
theorem law_c3 {z : ZZ} {x : XX} {Q : State → Prop} {k n : Nat} {ad : Nat → Nat} {b L i x0 m0 : Nat} {xs : Nat → Int32} {σ σ1 : MS} {τ τ1 : XS} {r : Int32} (hC : CX z ad x code RL 4 ret) (hR : x.2.2.1 = room_1) (hX : SX z x b L xs) (hx0 : ad 36 = x0) (hm0 : ad 0 = m0) (hi : i + 4 < L) (hk : k + 0 ≤ 600000 ∧ n + 0 ≤ 7302250) (hW : W_wed τ (xs (i + 1)) (xs (i + 2)) (xs (i + 3)) = some (r, τ1)) (hM : M_wed σ (xs (i + 1)) (xs (i + 2)) (xs (i + 3)) = some (r, σ1)) (kk : ∀ ad2, exL ad ad2 → AL z x 4 Q (k + 0 + 0) (n + 0 + 0) 2151 [(3, .int (Int32.ofNat i)), (1, .ref x0), (2, .ref m0), (0, .ref b)] [] (wX z σ1 ad2 τ1)) : AL z x 4 Q k n 349 [(3, .int (Int32.ofNat i)), (1, .ref x0), (2, .ref m0), (0, .ref b)] [] (wX z σ ad τ) := by
  refine al_aload_n (j := 1) hC rfl rfl dL_law_349 ?_
  refine al_aload_n (j := 3) hC rfl rfl dL_law_350 ?_
  refine al_iload_n (j := 0) hC rfl rfl dL_law_351 ?_
  refine al_iconst (v := 1) hC rfl dL_law_352 ?_
  refine al_iadd hC dL_law_353 ?_
  refine al_sld (j := i + 1) hC hX (Int32.ofNat_add i 1).symm (by omega) dL_law_354 ?_
  refine al_aload_n (j := 3) hC rfl rfl dL_law_355 ?_
  refine al_iload_n (j := 0) hC rfl rfl dL_law_356 ?_
  refine al_iconst (v := 2) hC rfl dL_law_357 ?_
  refine al_iadd hC dL_law_358 ?_
  refine al_sld (j := i + 2) hC hX (Int32.ofNat_add i 2).symm (by omega) dL_law_359 ?_
  refine al_aload_n (j := 3) hC rfl rfl dL_law_360 ?_
  refine al_iload_n (j := 0) hC rfl rfl dL_law_361 ?_
  refine al_iconst (v := 3) hC rfl dL_law_362 ?_
  refine al_iadd hC dL_law_363 ?_
  refine al_sld (j := i + 3) hC hX (Int32.ofNat_add i 3).symm (by omega) dL_law_364 ?_
  refine al_callL (w := wX z σ) (As := [.int (xs (i + 1)), .int (xs (i + 2)), .int (xs (i + 3))]) (rest := []) (s0 := τ) (s1 := τ1) (r0 := r) (q := 36) hC hR lkl_28 (c_W_wed τ (xs (i + 1)) (xs (i + 2)) (xs (i + 3))) hW (fun _ _ h => eqA.L h) dL_law_365 recX10 rfl rfl hx0 rfl ⟨by decide, by decide⟩ (Nat.le_of_ble_eq_true rfl) ⟨by omega, by omega⟩ ⟨_, rfl, fun _ => rfl⟩ (fun ad1 hE1 hC => ?_)
  have hm0 := (hE1 0 (by omega)).trans hm0
  show AL z x 4 Q (k + 0) (n + 0) _ _ _ (wM z τ1 ad1 σ)
  refine al_aload_n (j := 2) hC rfl rfl dL_law_368 ?_
  refine al_aload_n (j := 3) hC rfl rfl dL_law_369 ?_
  refine al_iload_n (j := 0) hC rfl rfl dL_law_370 ?_
  refine al_iconst (v := 1) hC rfl dL_law_371 ?_
  refine al_iadd hC dL_law_372 ?_
  refine al_sld (j := i + 1) hC hX (Int32.ofNat_add i 1).symm (by omega) dL_law_373 ?_
  refine al_aload_n (j := 3) hC rfl rfl dL_law_374 ?_
  refine al_iload_n (j := 0) hC rfl rfl dL_law_375 ?_
  refine al_iconst (v := 2) hC rfl dL_law_376 ?_
  refine al_iadd hC dL_law_377 ?_
  refine al_sld (j := i + 2) hC hX (Int32.ofNat_add i 2).symm (by omega) dL_law_378 ?_
  refine al_aload_n (j := 3) hC rfl rfl dL_law_379 ?_
  refine al_iload_n (j := 0) hC rfl rfl dL_law_380 ?_
  refine al_iconst (v := 3) hC rfl dL_law_381 ?_
  refine al_iadd hC dL_law_382 ?_
  refine al_sld (j := i + 3) hC hX (Int32.ofNat_add i 3).symm (by omega) dL_law_383 ?_
  refine al_callL (w := wM z τ1) (As := [.int (xs (i + 1)), .int (xs (i + 2)), .int (xs (i + 3))]) (rest := [.int r]) (s0 := σ) (s1 := σ1) (r0 := r) (q := 0) hC hR lkl_32 (c_M_wed σ (xs (i + 1)) (xs (i + 2)) (xs (i + 3))) hM (fun _ _ h => eqA.L h) dL_law_384 recX11 rfl rfl hm0 rfl ⟨by decide, by decide⟩ (Nat.le_of_ble_eq_true rfl) ⟨by omega, by omega⟩ ⟨_, rfl, fun _ => rfl⟩ (fun ad2 hE2 hC => ?_)
  show AL z x 4 Q _ _ _ _ _ (wX z σ1 ad2 τ1)
  refine al_icmp_eq (tgt := 2151) hC dL_law_387 rfl (fun _ => ?_) (fun g => absurd rfl g)
  exact kk ad2 (hE1.trans hE2)
theorem dL_law_392 : decode code 392 = .ok (.aload_n 1, 1) := by decide +kernel
theorem dL_law_393 : decode code 393 = .ok (.aload_n 0, 1) := by decide +kernel
theorem dL_law_394 : decode code 394 = .ok (.iload_n 3, 1) := by decide +kernel
theorem dL_law_395 : decode code 395 = .ok (.iconst 1, 1) := by decide +kernel
theorem dL_law_396 : decode code 396 = .ok (.iadd, 1) := by decide +kernel
theorem dL_law_397 : decode code 397 = .ok (.iaload, 1) := by decide +kernel
theorem dL_law_398 : decode code 398 = .ok (.aload_n 0, 1) := by decide +kernel
theorem dL_law_399 : decode code 399 = .ok (.iload_n 3, 1) := by decide +kernel
theorem dL_law_400 : decode code 400 = .ok (.iconst 2, 1) := by decide +kernel
theorem dL_law_401 : decode code 401 = .ok (.iadd, 1) := by decide +kernel
theorem dL_law_402 : decode code 402 = .ok (.iaload, 1) := by decide +kernel
theorem dL_law_403 : decode code 403 = .ok (.invokevirtual 33, 3) := by decide +kernel
theorem dL_law_406 : decode code 406 = .ok (.aload_n 2, 1) := by decide +kernel
theorem dL_law_407 : decode code 407 = .ok (.aload_n 0, 1) := by decide +kernel
theorem dL_law_408 : decode code 408 = .ok (.iload_n 3, 1) := by decide +kernel
theorem dL_law_409 : decode code 409 = .ok (.iconst 1, 1) := by decide +kernel
theorem dL_law_410 : decode code 410 = .ok (.iadd, 1) := by decide +kernel
theorem dL_law_411 : decode code 411 = .ok (.iaload, 1) := by decide +kernel
theorem dL_law_412 : decode code 412 = .ok (.aload_n 0, 1) := by decide +kernel
theorem dL_law_413 : decode code 413 = .ok (.iload_n 3, 1) := by decide +kernel
theorem dL_law_414 : decode code 414 = .ok (.iconst 2, 1) := by decide +kernel
theorem dL_law_415 : decode code 415 = .ok (.iadd, 1) := by decide +kernel
theorem dL_law_416 : decode code 416 = .ok (.iaload, 1) := by decide +kernel
theorem dL_law_417 : decode code 417 = .ok (.invokevirtual 36, 3) := by decide +kernel
theorem dL_law_420 : decode code 420 = .ok (.if_icmp .eq 1731, 3) := by decide +kernel
theorem dL_law_423 : decode code 423 = .ok (.iconst 0, 1) := by decide +kernel
theorem dL_law_424 : decode code 424 = .ok (.ireturn, 1) := by decide +kernel
set_option maxRecDepth 100000 in
theorem law_c4 {z : ZZ} {x : XX} {Q : State → Prop} {k n : Nat} {ad : Nat → Nat} {b L i x0 m0 : Nat} {xs : Nat → Int32} {σ σ1 : MS} {τ τ1 : XS} {r : Int32} (hC : CX z ad x code RL 4 ret) (hR : x.2.2.1 = room_1) (hX : SX z x b L xs) (hx0 : ad 36 = x0) (hm0 : ad 0 = m0) (hi : i + 4 < L) (hk : k + 0 ≤ 600000 ∧ n + 0 ≤ 7302250) (hW : W_death τ (xs (i + 1)) (xs (i + 2)) = some (r, τ1)) (hM : M_death σ (xs (i + 1)) (xs (i + 2)) = some (r, σ1)) (kk : ∀ ad2, exL ad ad2 → AL z x 4 Q (k + 0 + 0) (n + 0 + 0) 2151 [(3, .int (Int32.ofNat i)), (1, .ref x0), (2, .ref m0), (0, .ref b)] [] (wX z σ1 ad2 τ1)) : AL z x 4 Q k n 392 [(3, .int (Int32.ofNat i)), (1, .ref x0), (2, .ref m0), (0, .ref b)] [] (wX z σ ad τ) := by
  refine al_aload_n (j := 1) hC rfl rfl dL_law_392 ?_
  refine al_aload_n (j := 3) hC rfl rfl dL_law_393 ?_
  refine al_iload_n (j := 0) hC rfl rfl dL_law_394 ?_
  refine al_iconst (v := 1) hC rfl dL_law_395 ?_
  refine al_iadd hC dL_law_396 ?_
  refine al_sld (j := i + 1) hC hX (Int32.ofNat_add i 1).symm (by omega) dL_law_397 ?_
  refine al_aload_n (j := 3) hC rfl rfl dL_law_398 ?_
  refine al_iload_n (j := 0) hC rfl rfl dL_law_399 ?_
  refine al_iconst (v := 2) hC rfl dL_law_400 ?_
  refine al_iadd hC dL_law_401 ?_
  refine al_sld (j := i + 2) hC hX (Int32.ofNat_add i 2).symm (by omega) dL_law_402 ?_
  refine al_callL (w := wX z σ) (As := [.int (xs (i + 1)), .int (xs (i + 2))]) (rest := []) (s0 := τ) (s1 := τ1) (r0 := r) (q := 36) hC hR lkl_33 (c_W_death τ (xs (i + 1)) (xs (i + 2))) hW (fun _ _ h => eqA.L h) dL_law_403 recX10 rfl rfl hx0 rfl ⟨by decide, by decide⟩ (Nat.le_of_ble_eq_true rfl) ⟨by omega, by omega⟩ ⟨_, rfl, fun _ => rfl⟩ (fun ad1 hE1 hC => ?_)
  have hm0 := (hE1 0 (by omega)).trans hm0
  show AL z x 4 Q (k + 0) (n + 0) _ _ _ (wM z τ1 ad1 σ)
  refine al_aload_n (j := 2) hC rfl rfl dL_law_406 ?_
  refine al_aload_n (j := 3) hC rfl rfl dL_law_407 ?_
  refine al_iload_n (j := 0) hC rfl rfl dL_law_408 ?_
  refine al_iconst (v := 1) hC rfl dL_law_409 ?_
  refine al_iadd hC dL_law_410 ?_
  refine al_sld (j := i + 1) hC hX (Int32.ofNat_add i 1).symm (by omega) dL_law_411 ?_
  refine al_aload_n (j := 3) hC rfl rfl dL_law_412 ?_
  refine al_iload_n (j := 0) hC rfl rfl dL_law_413 ?_
  refine al_iconst (v := 2) hC rfl dL_law_414 ?_
  refine al_iadd hC dL_law_415 ?_
  refine al_sld (j := i + 2) hC hX (Int32.ofNat_add i 2).symm (by omega) dL_law_416 ?_
  refine al_callL (w := wM z τ1) (As := [.int (xs (i + 1)), .int (xs (i + 2))]) (rest := [.int r]) (s0 := σ) (s1 := σ1) (r0 := r) (q := 0) hC hR lkl_36 (c_M_death σ (xs (i + 1)) (xs (i + 2))) hM (fun _ _ h => eqA.L h) dL_law_417 recX11 rfl rfl hm0 rfl ⟨by decide, by decide⟩ (Nat.le_of_ble_eq_true rfl) ⟨by omega, by omega⟩ ⟨_, rfl, fun _ => rfl⟩ (fun ad2 hE2 hC => ?_)
  show AL z x 4 Q _ _ _ _ _ (wX z σ1 ad2 τ1)
  refine al_icmp_eq (tgt := 2151) hC dL_law_420 rfl (fun _ => ?_) (fun g => absurd rfl g)
  exact kk ad2 (hE1.trans hE2)
theorem dL_law_425 : decode code 425 = .ok (.aload_n 1, 1) := by decide +kernel
theorem dL_law_426 : decode code 426 = .ok (.aload_n 0, 1) := by decide +kernel
theorem dL_law_427 : decode code 427 = .ok (.iload_n 3, 1) := by decide +kernel
theorem dL_law_428 : decode code 428 = .ok (.iconst 1, 1) := by decide +kernel
theorem dL_law_429 : decode code 429 = .ok (.iadd, 1) := by decide +kernel
theorem dL_law_430 : decode code 430 = .ok (.iaload, 1) := by decide +kernel
theorem dL_law_431 : decode code 431 = .ok (.aload_n 0, 1) := by decide +kernel
theorem dL_law_432 : decode code 432 = .ok (.iload_n 3, 1) := by decide +kernel
theorem dL_law_433 : decode code 433 = .ok (.iconst 2, 1) := by decide +kernel
theorem dL_law_434 : decode code 434 = .ok (.iadd, 1) := by decide +kernel
theorem dL_law_435 : decode code 435 = .ok (.iaload, 1) := by decide +kernel
theorem dL_law_436 : decode code 436 = .ok (.aload_n 0, 1) := by decide +kernel
theorem dL_law_437 : decode code 437 = .ok (.iload_n 3, 1) := by decide +kernel
theorem dL_law_438 : decode code 438 = .ok (.iconst 3, 1) := by decide +kernel
theorem dL_law_439 : decode code 439 = .ok (.iadd, 1) := by decide +kernel
theorem dL_law_440 : decode code 440 = .ok (.iaload, 1) := by decide +kernel
theorem dL_law_441 : decode code 441 = .ok (.aload_n 0, 1) := by decide +kernel
theorem dL_law_442 : decode code 442 = .ok (.iload_n 3, 1) := by decide +kernel
theorem dL_law_443 : decode code 443 = .ok (.iconst 4, 1) := by decide +kernel
theorem dL_law_444 : decode code 444 = .ok (.iadd, 1) := by decide +kernel
theorem dL_law_445 : decode code 445 = .ok (.iaload, 1) := by decide +kernel
theorem dL_law_446 : decode code 446 = .ok (.invokevirtual 37, 3) := by decide +kernel
theorem dL_law_449 : decode code 449 = .ok (.aload_n 2, 1) := by decide +kernel
theorem dL_law_450 : decode code 450 = .ok (.aload_n 0, 1) := by decide +kernel
theorem dL_law_451 : decode code 451 = .ok (.iload_n 3, 1) := by decide +kernel
theorem dL_law_452 : decode code 452 = .ok (.iconst 1, 1) := by decide +kernel
theorem dL_law_453 : decode code 453 = .ok (.iadd, 1) := by decide +kernel
theorem dL_law_454 : decode code 454 = .ok (.iaload, 1) := by decide +kernel
theorem dL_law_455 : decode code 455 = .ok (.aload_n 0, 1) := by decide +kernel
theorem dL_law_456 : decode code 456 = .ok (.iload_n 3, 1) := by decide +kernel
theorem dL_law_457 : decode code 457 = .ok (.iconst 2, 1) := by decide +kernel
theorem dL_law_458 : decode code 458 = .ok (.iadd, 1) := by decide +kernel
theorem dL_law_459 : decode code 459 = .ok (.iaload, 1) := by decide +kernel
theorem dL_law_460 : decode code 460 = .ok (.aload_n 0, 1) := by decide +kernel
theorem dL_law_461 : decode code 461 = .ok (.iload_n 3, 1) := by decide +kernel
theorem dL_law_462 : decode code 462 = .ok (.iconst 3, 1) := by decide +kernel
theorem dL_law_463 : decode code 463 = .ok (.iadd, 1) := by decide +kernel
theorem dL_law_464 : decode code 464 = .ok (.iaload, 1) := by decide +kernel
theorem dL_law_465 : decode code 465 = .ok (.aload_n 0, 1) := by decide +kernel
theorem dL_law_466 : decode code 466 = .ok (.iload_n 3, 1) := by decide +kernel
theorem dL_law_467 : decode code 467 = .ok (.iconst 4, 1) := by decide +kernel
theorem dL_law_468 : decode code 468 = .ok (.iadd, 1) := by decide +kernel
theorem dL_law_469 : decode code 469 = .ok (.iaload, 1) := by decide +kernel
theorem dL_law_470 : decode code 470 = .ok (.invokevirtual 40, 3) := by decide +kernel
theorem dL_law_473 : decode code 473 = .ok (.if_icmp .eq 1678, 3) := by decide +kernel
theorem dL_law_476 : decode code 476 = .ok (.iconst 0, 1) := by decide +kernel
theorem dL_law_477 : decode code 477 = .ok (.ireturn, 1) := by decide +kernel
set_option maxRecDepth 100000 in
theorem law_c5 {z : ZZ} {x : XX} {Q : State → Prop} {k n : Nat} {ad : Nat → Nat} {b L i x0 m0 : Nat} {xs : Nat → Int32} {σ σ1 : MS} {τ τ1 : XS} {r : Int32} (hC : CX z ad x code RL 4 ret) (hR : x.2.2.1 = room_1) (hX : SX z x b L xs) (hx0 : ad 36 = x0) (hm0 : ad 0 = m0) (hi : i + 4 < L) (hk : k + 0 ≤ 600000 ∧ n + 0 ≤ 7302250) (hW : W_member τ (xs (i + 1)) (xs (i + 2)) (xs (i + 3)) (xs (i + 4)) = some (r, τ1)) (hM : M_member σ (xs (i + 1)) (xs (i + 2)) (xs (i + 3)) (xs (i + 4)) = some (r, σ1)) (kk : ∀ ad2, exL ad ad2 → AL z x 4 Q (k + 0 + 0) (n + 0 + 0) 2151 [(3, .int (Int32.ofNat i)), (1, .ref x0), (2, .ref m0), (0, .ref b)] [] (wX z σ1 ad2 τ1)) : AL z x 4 Q k n 425 [(3, .int (Int32.ofNat i)), (1, .ref x0), (2, .ref m0), (0, .ref b)] [] (wX z σ ad τ) := by
  refine al_aload_n (j := 1) hC rfl rfl dL_law_425 ?_
  refine al_aload_n (j := 3) hC rfl rfl dL_law_426 ?_
  refine al_iload_n (j := 0) hC rfl rfl dL_law_427 ?_
  refine al_iconst (v := 1) hC rfl dL_law_428 ?_
  refine al_iadd hC dL_law_429 ?_
  refine al_sld (j := i + 1) hC hX (Int32.ofNat_add i 1).symm (by omega) dL_law_430 ?_
  refine al_aload_n (j := 3) hC rfl rfl dL_law_431 ?_
  refine al_iload_n (j := 0) hC rfl rfl dL_law_432 ?_
  refine al_iconst (v := 2) hC rfl dL_law_433 ?_
  refine al_iadd hC dL_law_434 ?_
  refine al_sld (j := i + 2) hC hX (Int32.ofNat_add i 2).symm (by omega) dL_law_435 ?_
  refine al_aload_n (j := 3) hC rfl rfl dL_law_436 ?_
  refine al_iload_n (j := 0) hC rfl rfl dL_law_437 ?_
  refine al_iconst (v := 3) hC rfl dL_law_438 ?_
  refine al_iadd hC dL_law_439 ?_
  refine al_sld (j := i + 3) hC hX (Int32.ofNat_add i 3).symm (by omega) dL_law_440 ?_
  refine al_aload_n (j := 3) hC rfl rfl dL_law_441 ?_
  refine al_iload_n (j := 0) hC rfl rfl dL_law_442 ?_
  refine al_iconst (v := 4) hC rfl dL_law_443 ?_
  refine al_iadd hC dL_law_444 ?_
  refine al_sld (j := i + 4) hC hX (Int32.ofNat_add i 4).symm (by omega) dL_law_445 ?_
  refine al_callL (w := wX z σ) (As := [.int (xs (i + 1)), .int (xs (i + 2)), .int (xs (i + 3)), .int (xs (i + 4))]) (rest := []) (s0 := τ) (s1 := τ1) (r0 := r) (q := 36) hC hR lkl_37 (c_W_member τ (xs (i + 1)) (xs (i + 2)) (xs (i + 3)) (xs (i + 4))) hW (fun _ _ h => eqA.L h) dL_law_446 recX10 rfl rfl hx0 rfl ⟨by decide, by decide⟩ (Nat.le_of_ble_eq_true rfl) ⟨by omega, by omega⟩ ⟨_, rfl, fun _ => rfl⟩ (fun ad1 hE1 hC => ?_)
  have hm0 := (hE1 0 (by omega)).trans hm0
  show AL z x 4 Q (k + 0) (n + 0) _ _ _ (wM z τ1 ad1 σ)
  refine al_aload_n (j := 2) hC rfl rfl dL_law_449 ?_
  refine al_aload_n (j := 3) hC rfl rfl dL_law_450 ?_
  refine al_iload_n (j := 0) hC rfl rfl dL_law_451 ?_
  refine al_iconst (v := 1) hC rfl dL_law_452 ?_
  refine al_iadd hC dL_law_453 ?_
  refine al_sld (j := i + 1) hC hX (Int32.ofNat_add i 1).symm (by omega) dL_law_454 ?_
  refine al_aload_n (j := 3) hC rfl rfl dL_law_455 ?_
  refine al_iload_n (j := 0) hC rfl rfl dL_law_456 ?_
  refine al_iconst (v := 2) hC rfl dL_law_457 ?_
  refine al_iadd hC dL_law_458 ?_
  refine al_sld (j := i + 2) hC hX (Int32.ofNat_add i 2).symm (by omega) dL_law_459 ?_
  refine al_aload_n (j := 3) hC rfl rfl dL_law_460 ?_
  refine al_iload_n (j := 0) hC rfl rfl dL_law_461 ?_
  refine al_iconst (v := 3) hC rfl dL_law_462 ?_
  refine al_iadd hC dL_law_463 ?_
  refine al_sld (j := i + 3) hC hX (Int32.ofNat_add i 3).symm (by omega) dL_law_464 ?_
  refine al_aload_n (j := 3) hC rfl rfl dL_law_465 ?_
  refine al_iload_n (j := 0) hC rfl rfl dL_law_466 ?_
  refine al_iconst (v := 4) hC rfl dL_law_467 ?_
  refine al_iadd hC dL_law_468 ?_
  refine al_sld (j := i + 4) hC hX (Int32.ofNat_add i 4).symm (by omega) dL_law_469 ?_
  refine al_callL (w := wM z τ1) (As := [.int (xs (i + 1)), .int (xs (i + 2)), .int (xs (i + 3)), .int (xs (i + 4))]) (rest := [.int r]) (s0 := σ) (s1 := σ1) (r0 := r) (q := 0) hC hR lkl_40 (c_M_member σ (xs (i + 1)) (xs (i + 2)) (xs (i + 3)) (xs (i + 4))) hM (fun _ _ h => eqA.L h) dL_law_470 recX11 rfl rfl hm0 rfl ⟨by decide, by decide⟩ (Nat.le_of_ble_eq_true rfl) ⟨by omega, by omega⟩ ⟨_, rfl, fun _ => rfl⟩ (fun ad2 hE2 hC => ?_)
  show AL z x 4 Q _ _ _ _ _ (wX z σ1 ad2 τ1)
  refine al_icmp_eq (tgt := 2151) hC dL_law_473 rfl (fun _ => ?_) (fun g => absurd rfl g)
  exact kk ad2 (hE1.trans hE2)
theorem dL_law_478 : decode code 478 = .ok (.aload_n 1, 1) := by decide +kernel
theorem dL_law_479 : decode code 479 = .ok (.aload_n 0, 1) := by decide +kernel
theorem dL_law_480 : decode code 480 = .ok (.iload_n 3, 1) := by decide +kernel
theorem dL_law_481 : decode code 481 = .ok (.iconst 1, 1) := by decide +kernel
theorem dL_law_482 : decode code 482 = .ok (.iadd, 1) := by decide +kernel
theorem dL_law_483 : decode code 483 = .ok (.iaload, 1) := by decide +kernel
theorem dL_law_484 : decode code 484 = .ok (.aload_n 0, 1) := by decide +kernel
theorem dL_law_485 : decode code 485 = .ok (.iload_n 3, 1) := by decide +kernel
theorem dL_law_486 : decode code 486 = .ok (.iconst 2, 1) := by decide +kernel
theorem dL_law_487 : decode code 487 = .ok (.iadd, 1) := by decide +kernel
theorem dL_law_488 : decode code 488 = .ok (.iaload, 1) := by decide +kernel
theorem dL_law_489 : decode code 489 = .ok (.aload_n 0, 1) := by decide +kernel
theorem dL_law_490 : decode code 490 = .ok (.iload_n 3, 1) := by decide +kernel
theorem dL_law_491 : decode code 491 = .ok (.iconst 3, 1) := by decide +kernel
theorem dL_law_492 : decode code 492 = .ok (.iadd, 1) := by decide +kernel
theorem dL_law_493 : decode code 493 = .ok (.iaload, 1) := by decide +kernel
theorem dL_law_494 : decode code 494 = .ok (.invokevirtual 41, 3) := by decide +kernel
theorem dL_law_497 : decode code 497 = .ok (.aload_n 2, 1) := by decide +kernel
theorem dL_law_498 : decode code 498 = .ok (.aload_n 0, 1) := by decide +kernel
theorem dL_law_499 : decode code 499 = .ok (.iload_n 3, 1) := by decide +kernel
theorem dL_law_500 : decode code 500 = .ok (.iconst 1, 1) := by decide +kernel
theorem dL_law_501 : decode code 501 = .ok (.iadd, 1) := by decide +kernel
theorem dL_law_502 : decode code 502 = .ok (.iaload, 1) := by decide +kernel
theorem dL_law_503 : decode code 503 = .ok (.aload_n 0, 1) := by decide +kernel
theorem dL_law_504 : decode code 504 = .ok (.iload_n 3, 1) := by decide +kernel
theorem dL_law_505 : decode code 505 = .ok (.iconst 2, 1) := by decide +kernel
theorem dL_law_506 : decode code 506 = .ok (.iadd, 1) := by decide +kernel
theorem dL_law_507 : decode code 507 = .ok (.iaload, 1) := by decide +kernel
theorem dL_law_508 : decode code 508 = .ok (.aload_n 0, 1) := by decide +kernel
theorem dL_law_509 : decode code 509 = .ok (.iload_n 3, 1) := by decide +kernel
theorem dL_law_510 : decode code 510 = .ok (.iconst 3, 1) := by decide +kernel
theorem dL_law_511 : decode code 511 = .ok (.iadd, 1) := by decide +kernel
theorem dL_law_512 : decode code 512 = .ok (.iaload, 1) := by decide +kernel
theorem dL_law_513 : decode code 513 = .ok (.invokevirtual 44, 3) := by decide +kernel
theorem dL_law_516 : decode code 516 = .ok (.if_icmp .eq 1635, 3) := by decide +kernel
theorem dL_law_519 : decode code 519 = .ok (.iconst 0, 1) := by decide +kernel
theorem dL_law_520 : decode code 520 = .ok (.ireturn, 1) := by decide +kernel
set_option maxRecDepth 100000 in
theorem law_c6 {z : ZZ} {x : XX} {Q : State → Prop} {k n : Nat} {ad : Nat → Nat} {b L i x0 m0 : Nat} {xs : Nat → Int32} {σ σ1 : MS} {τ τ1 : XS} {r : Int32} (hC : CX z ad x code RL 4 ret) (hR : x.2.2.1 = room_1) (hX : SX z x b L xs) (hx0 : ad 36 = x0) (hm0 : ad 0 = m0) (hi : i + 4 < L) (hk : k + 0 ≤ 600000 ∧ n + 0 ≤ 7302250) (hW : W_rate τ (xs (i + 1)) (xs (i + 2)) (xs (i + 3)) = some (r, τ1)) (hM : M_rate σ (xs (i + 1)) (xs (i + 2)) (xs (i + 3)) = some (r, σ1)) (kk : ∀ ad2, exL ad ad2 → AL z x 4 Q (k + 0 + 0) (n + 0 + 0) 2151 [(3, .int (Int32.ofNat i)), (1, .ref x0), (2, .ref m0), (0, .ref b)] [] (wX z σ1 ad2 τ1)) : AL z x 4 Q k n 478 [(3, .int (Int32.ofNat i)), (1, .ref x0), (2, .ref m0), (0, .ref b)] [] (wX z σ ad τ) := by
  refine al_aload_n (j := 1) hC rfl rfl dL_law_478 ?_
  refine al_aload_n (j := 3) hC rfl rfl dL_law_479 ?_
  refine al_iload_n (j := 0) hC rfl rfl dL_law_480 ?_
  refine al_iconst (v := 1) hC rfl dL_law_481 ?_
  refine al_iadd hC dL_law_482 ?_
  refine al_sld (j := i + 1) hC hX (Int32.ofNat_add i 1).symm (by omega) dL_law_483 ?_
  refine al_aload_n (j := 3) hC rfl rfl dL_law_484 ?_
  refine al_iload_n (j := 0) hC rfl rfl dL_law_485 ?_
  refine al_iconst (v := 2) hC rfl dL_law_486 ?_
  refine al_iadd hC dL_law_487 ?_
  refine al_sld (j := i + 2) hC hX (Int32.ofNat_add i 2).symm (by omega) dL_law_488 ?_
  refine al_aload_n (j := 3) hC rfl rfl dL_law_489 ?_
  refine al_iload_n (j := 0) hC rfl rfl dL_law_490 ?_
  refine al_iconst (v := 3) hC rfl dL_law_491 ?_
  refine al_iadd hC dL_law_492 ?_
  refine al_sld (j := i + 3) hC hX (Int32.ofNat_add i 3).symm (by omega) dL_law_493 ?_
  refine al_callL (w := wX z σ) (As := [.int (xs (i + 1)), .int (xs (i + 2)), .int (xs (i + 3))]) (rest := []) (s0 := τ) (s1 := τ1) (r0 := r) (q := 36) hC hR lkl_41 (c_W_rate τ (xs (i + 1)) (xs (i + 2)) (xs (i + 3))) hW (fun _ _ h => eqA.L h) dL_law_494 recX10 rfl rfl hx0 rfl ⟨by decide, by decide⟩ (Nat.le_of_ble_eq_true rfl) ⟨by omega, by omega⟩ ⟨_, rfl, fun _ => rfl⟩ (fun ad1 hE1 hC => ?_)
  have hm0 := (hE1 0 (by omega)).trans hm0
  show AL z x 4 Q (k + 0) (n + 0) _ _ _ (wM z τ1 ad1 σ)
  refine al_aload_n (j := 2) hC rfl rfl dL_law_497 ?_
  refine al_aload_n (j := 3) hC rfl rfl dL_law_498 ?_
  refine al_iload_n (j := 0) hC rfl rfl dL_law_499 ?_
  refine al_iconst (v := 1) hC rfl dL_law_500 ?_
  refine al_iadd hC dL_law_501 ?_
  refine al_sld (j := i + 1) hC hX (Int32.ofNat_add i 1).symm (by omega) dL_law_502 ?_
  refine al_aload_n (j := 3) hC rfl rfl dL_law_503 ?_
  refine al_iload_n (j := 0) hC rfl rfl dL_law_504 ?_
  refine al_iconst (v := 2) hC rfl dL_law_505 ?_
  refine al_iadd hC dL_law_506 ?_
  refine al_sld (j := i + 2) hC hX (Int32.ofNat_add i 2).symm (by omega) dL_law_507 ?_
  refine al_aload_n (j := 3) hC rfl rfl dL_law_508 ?_
  refine al_iload_n (j := 0) hC rfl rfl dL_law_509 ?_
  refine al_iconst (v := 3) hC rfl dL_law_510 ?_
  refine al_iadd hC dL_law_511 ?_
  refine al_sld (j := i + 3) hC hX (Int32.ofNat_add i 3).symm (by omega) dL_law_512 ?_
  refine al_callL (w := wM z τ1) (As := [.int (xs (i + 1)), .int (xs (i + 2)), .int (xs (i + 3))]) (rest := [.int r]) (s0 := σ) (s1 := σ1) (r0 := r) (q := 0) hC hR lkl_44 (c_M_rate σ (xs (i + 1)) (xs (i + 2)) (xs (i + 3))) hM (fun _ _ h => eqA.L h) dL_law_513 recX11 rfl rfl hm0 rfl ⟨by decide, by decide⟩ (Nat.le_of_ble_eq_true rfl) ⟨by omega, by omega⟩ ⟨_, rfl, fun _ => rfl⟩ (fun ad2 hE2 hC => ?_)
  show AL z x 4 Q _ _ _ _ _ (wX z σ1 ad2 τ1)
  refine al_icmp_eq (tgt := 2151) hC dL_law_516 rfl (fun _ => ?_) (fun g => absurd rfl g)
  exact kk ad2 (hE1.trans hE2)
theorem dL_law_521 : decode code 521 = .ok (.aload_n 1, 1) := by decide +kernel
theorem dL_law_522 : decode code 522 = .ok (.aload_n 0, 1) := by decide +kernel
theorem dL_law_523 : decode code 523 = .ok (.iload_n 3, 1) := by decide +kernel
theorem dL_law_524 : decode code 524 = .ok (.iconst 1, 1) := by decide +kernel
theorem dL_law_525 : decode code 525 = .ok (.iadd, 1) := by decide +kernel
theorem dL_law_526 : decode code 526 = .ok (.iaload, 1) := by decide +kernel
theorem dL_law_527 : decode code 527 = .ok (.aload_n 0, 1) := by decide +kernel
theorem dL_law_528 : decode code 528 = .ok (.iload_n 3, 1) := by decide +kernel
theorem dL_law_529 : decode code 529 = .ok (.iconst 2, 1) := by decide +kernel
theorem dL_law_530 : decode code 530 = .ok (.iadd, 1) := by decide +kernel
theorem dL_law_531 : decode code 531 = .ok (.iaload, 1) := by decide +kernel
theorem dL_law_532 : decode code 532 = .ok (.ifCond .eq 7, 3) := by decide +kernel
theorem dL_law_535 : decode code 535 = .ok (.iconst 1, 1) := by decide +kernel
theorem dL_law_536 : decode code 536 = .ok (.goto 4, 3) := by decide +kernel
theorem dL_law_539 : decode code 539 = .ok (.iconst 0, 1) := by decide +kernel
theorem dL_law_540 : decode code 540 = .ok (.aload_n 0, 1) := by decide +kernel
theorem dL_law_541 : decode code 541 = .ok (.iload_n 3, 1) := by decide +kernel
theorem dL_law_542 : decode code 542 = .ok (.iconst 3, 1) := by decide +kernel
theorem dL_law_543 : decode code 543 = .ok (.iadd, 1) := by decide +kernel
theorem dL_law_544 : decode code 544 = .ok (.iaload, 1) := by decide +kernel
theorem dL_law_545 : decode code 545 = .ok (.invokevirtual 45, 3) := by decide +kernel
theorem dL_law_548 : decode code 548 = .ok (.aload_n 2, 1) := by decide +kernel
theorem dL_law_549 : decode code 549 = .ok (.aload_n 0, 1) := by decide +kernel
theorem dL_law_550 : decode code 550 = .ok (.iload_n 3, 1) := by decide +kernel
theorem dL_law_551 : decode code 551 = .ok (.iconst 1, 1) := by decide +kernel
theorem dL_law_552 : decode code 552 = .ok (.iadd, 1) := by decide +kernel
theorem dL_law_553 : decode code 553 = .ok (.iaload, 1) := by decide +kernel
theorem dL_law_554 : decode code 554 = .ok (.aload_n 0, 1) := by decide +kernel
theorem dL_law_555 : decode code 555 = .ok (.iload_n 3, 1) := by decide +kernel
theorem dL_law_556 : decode code 556 = .ok (.iconst 2, 1) := by decide +kernel
theorem dL_law_557 : decode code 557 = .ok (.iadd, 1) := by decide +kernel
theorem dL_law_558 : decode code 558 = .ok (.iaload, 1) := by decide +kernel
theorem dL_law_559 : decode code 559 = .ok (.ifCond .eq 7, 3) := by decide +kernel
theorem dL_law_562 : decode code 562 = .ok (.iconst 1, 1) := by decide +kernel
theorem dL_law_563 : decode code 563 = .ok (.goto 4, 3) := by decide +kernel
theorem dL_law_566 : decode code 566 = .ok (.iconst 0, 1) := by decide +kernel
theorem dL_law_567 : decode code 567 = .ok (.aload_n 0, 1) := by decide +kernel
theorem dL_law_568 : decode code 568 = .ok (.iload_n 3, 1) := by decide +kernel
theorem dL_law_569 : decode code 569 = .ok (.iconst 3, 1) := by decide +kernel
theorem dL_law_570 : decode code 570 = .ok (.iadd, 1) := by decide +kernel
theorem dL_law_571 : decode code 571 = .ok (.iaload, 1) := by decide +kernel
theorem dL_law_572 : decode code 572 = .ok (.invokevirtual 49, 3) := by decide +kernel
theorem dL_law_575 : decode code 575 = .ok (.if_icmp .eq 1576, 3) := by decide +kernel
theorem dL_law_578 : decode code 578 = .ok (.iconst 0, 1) := by decide +kernel
theorem dL_law_579 : decode code 579 = .ok (.ireturn, 1) := by decide +kernel
set_option maxRecDepth 100000 in
theorem law_c7 {z : ZZ} {x : XX} {Q : State → Prop} {k n : Nat} {ad : Nat → Nat} {b L i x0 m0 : Nat} {xs : Nat → Int32} {σ σ1 : MS} {τ τ1 : XS} {r : Int32} (hC : CX z ad x code RL 4 ret) (hR : x.2.2.1 = room_1) (hX : SX z x b L xs) (hx0 : ad 36 = x0) (hm0 : ad 0 = m0) (hi : i + 4 < L) (hk : k + 0 ≤ 600000 ∧ n + 0 ≤ 7302250) (hW : W_gone τ (xs (i + 1)) (if xs (i + 2) = 0 then 0 else 1) (xs (i + 3)) = some (r, τ1)) (hM : M_gone σ (xs (i + 1)) (if xs (i + 2) = 0 then 0 else 1) (xs (i + 3)) = some (r, σ1)) (kk : ∀ ad2, exL ad ad2 → AL z x 4 Q (k + 0 + 0) (n + 0 + 0) 2151 [(3, .int (Int32.ofNat i)), (1, .ref x0), (2, .ref m0), (0, .ref b)] [] (wX z σ1 ad2 τ1)) : AL z x 4 Q k n 521 [(3, .int (Int32.ofNat i)), (1, .ref x0), (2, .ref m0), (0, .ref b)] [] (wX z σ ad τ) := by
  refine al_aload_n (j := 1) hC rfl rfl dL_law_521 ?_
  refine al_aload_n (j := 3) hC rfl rfl dL_law_522 ?_
  refine al_iload_n (j := 0) hC rfl rfl dL_law_523 ?_
  refine al_iconst (v := 1) hC rfl dL_law_524 ?_
  refine al_iadd hC dL_law_525 ?_
  refine al_sld (j := i + 1) hC hX (Int32.ofNat_add i 1).symm (by omega) dL_law_526 ?_
  refine al_aload_n (j := 3) hC rfl rfl dL_law_527 ?_
  refine al_iload_n (j := 0) hC rfl rfl dL_law_528 ?_
  refine al_iconst (v := 2) hC rfl dL_law_529 ?_
  refine al_iadd hC dL_law_530 ?_
  refine al_sld (j := i + 2) hC hX (Int32.ofNat_add i 2).symm (by omega) dL_law_531 ?_
  refine al_if_eq (tgt := 539) hC dL_law_532 rfl (fun g532 => ?_) (fun g532 => ?_)
  · refine al_iconst (v := 0) hC rfl dL_law_539 ?_
    try rw [if_pos g532] at hW hM
    refine al_aload_n (j := 3) hC rfl rfl dL_law_540 ?_
    refine al_iload_n (j := 0) hC rfl rfl dL_law_541 ?_
    refine al_iconst (v := 3) hC rfl dL_law_542 ?_
    refine al_iadd hC dL_law_543 ?_
    refine al_sld (j := i + 3) hC hX (Int32.ofNat_add i 3).symm (by omega) dL_law_544 ?_
    refine al_callL (w := wX z σ) (As := [.int (xs (i + 1)), .int 0, .int (xs (i + 3))]) (rest := []) (s0 := τ) (s1 := τ1) (r0 := r) (q := 36) hC hR lkl_45 (c_W_gone τ (xs (i + 1)) 0 (xs (i + 3))) hW (fun _ _ h => eqA.L h) dL_law_545 recX10 rfl rfl hx0 rfl ⟨by decide, by decide⟩ (Nat.le_of_ble_eq_true rfl) ⟨by omega, by omega⟩ ⟨_, rfl, fun _ => rfl⟩ (fun ad1 hE1 hC => ?_)
    have hm0 := (hE1 0 (by omega)).trans hm0
    show AL z x 4 Q (k + 0) (n + 0) _ _ _ (wM z τ1 ad1 σ)
    refine al_aload_n (j := 2) hC rfl rfl dL_law_548 ?_
    refine al_aload_n (j := 3) hC rfl rfl dL_law_549 ?_
    refine al_iload_n (j := 0) hC rfl rfl dL_law_550 ?_
    refine al_iconst (v := 1) hC rfl dL_law_551 ?_
    refine al_iadd hC dL_law_552 ?_
    refine al_sld (j := i + 1) hC hX (Int32.ofNat_add i 1).symm (by omega) dL_law_553 ?_
    refine al_aload_n (j := 3) hC rfl rfl dL_law_554 ?_
    refine al_iload_n (j := 0) hC rfl rfl dL_law_555 ?_
    refine al_iconst (v := 2) hC rfl dL_law_556 ?_
    refine al_iadd hC dL_law_557 ?_
    refine al_sld (j := i + 2) hC hX (Int32.ofNat_add i 2).symm (by omega) dL_law_558 ?_
    refine al_if_eq (tgt := 566) hC dL_law_559 rfl (fun g559 => ?_) (fun g559 => ?_)
    · refine al_iconst (v := 0) hC rfl dL_law_566 ?_
      try rw [if_pos g559] at hW hM
      refine al_aload_n (j := 3) hC rfl rfl dL_law_567 ?_
      refine al_iload_n (j := 0) hC rfl rfl dL_law_568 ?_
      refine al_iconst (v := 3) hC rfl dL_law_569 ?_
      refine al_iadd hC dL_law_570 ?_
      refine al_sld (j := i + 3) hC hX (Int32.ofNat_add i 3).symm (by omega) dL_law_571 ?_
      refine al_callL (w := wM z τ1) (As := [.int (xs (i + 1)), .int 0, .int (xs (i + 3))]) (rest := [.int r]) (s0 := σ) (s1 := σ1) (r0 := r) (q := 0) hC hR lkl_49 (c_M_gone σ (xs (i + 1)) 0 (xs (i + 3))) hM (fun _ _ h => eqA.L h) dL_law_572 recX11 rfl rfl hm0 rfl ⟨by decide, by decide⟩ (Nat.le_of_ble_eq_true rfl) ⟨by omega, by omega⟩ ⟨_, rfl, fun _ => rfl⟩ (fun ad2 hE2 hC => ?_)
      show AL z x 4 Q _ _ _ _ _ (wX z σ1 ad2 τ1)
      refine al_icmp_eq (tgt := 2151) hC dL_law_575 rfl (fun _ => ?_) (fun g => absurd rfl g)
      exact kk ad2 (hE1.trans hE2)
    · exact absurd g532 g559
  · refine al_iconst (v := 1) hC rfl dL_law_535 ?_
    refine al_goto (tgt := 540) hC dL_law_536 rfl ?_
    try rw [if_neg g532] at hW hM
    refine al_aload_n (j := 3) hC rfl rfl dL_law_540 ?_
    refine al_iload_n (j := 0) hC rfl rfl dL_law_541 ?_
    refine al_iconst (v := 3) hC rfl dL_law_542 ?_
    refine al_iadd hC dL_law_543 ?_
    refine al_sld (j := i + 3) hC hX (Int32.ofNat_add i 3).symm (by omega) dL_law_544 ?_
    refine al_callL (w := wX z σ) (As := [.int (xs (i + 1)), .int 1, .int (xs (i + 3))]) (rest := []) (s0 := τ) (s1 := τ1) (r0 := r) (q := 36) hC hR lkl_45 (c_W_gone τ (xs (i + 1)) 1 (xs (i + 3))) hW (fun _ _ h => eqA.L h) dL_law_545 recX10 rfl rfl hx0 rfl ⟨by decide, by decide⟩ (Nat.le_of_ble_eq_true rfl) ⟨by omega, by omega⟩ ⟨_, rfl, fun _ => rfl⟩ (fun ad1 hE1 hC => ?_)
    have hm0 := (hE1 0 (by omega)).trans hm0
    show AL z x 4 Q (k + 0) (n + 0) _ _ _ (wM z τ1 ad1 σ)
    refine al_aload_n (j := 2) hC rfl rfl dL_law_548 ?_
    refine al_aload_n (j := 3) hC rfl rfl dL_law_549 ?_
    refine al_iload_n (j := 0) hC rfl rfl dL_law_550 ?_
    refine al_iconst (v := 1) hC rfl dL_law_551 ?_
    refine al_iadd hC dL_law_552 ?_
    refine al_sld (j := i + 1) hC hX (Int32.ofNat_add i 1).symm (by omega) dL_law_553 ?_
    refine al_aload_n (j := 3) hC rfl rfl dL_law_554 ?_
    refine al_iload_n (j := 0) hC rfl rfl dL_law_555 ?_
    refine al_iconst (v := 2) hC rfl dL_law_556 ?_
    refine al_iadd hC dL_law_557 ?_
    refine al_sld (j := i + 2) hC hX (Int32.ofNat_add i 2).symm (by omega) dL_law_558 ?_
    refine al_if_eq (tgt := 566) hC dL_law_559 rfl (fun g559 => ?_) (fun g559 => ?_)
    · exact absurd g559 g532
    · refine al_iconst (v := 1) hC rfl dL_law_562 ?_
      refine al_goto (tgt := 567) hC dL_law_563 rfl ?_
      try rw [if_neg g559] at hW hM
      refine al_aload_n (j := 3) hC rfl rfl dL_law_567 ?_
      refine al_iload_n (j := 0) hC rfl rfl dL_law_568 ?_
      refine al_iconst (v := 3) hC rfl dL_law_569 ?_
      refine al_iadd hC dL_law_570 ?_
      refine al_sld (j := i + 3) hC hX (Int32.ofNat_add i 3).symm (by omega) dL_law_571 ?_
      refine al_callL (w := wM z τ1) (As := [.int (xs (i + 1)), .int 1, .int (xs (i + 3))]) (rest := [.int r]) (s0 := σ) (s1 := σ1) (r0 := r) (q := 0) hC hR lkl_49 (c_M_gone σ (xs (i + 1)) 1 (xs (i + 3))) hM (fun _ _ h => eqA.L h) dL_law_572 recX11 rfl rfl hm0 rfl ⟨by decide, by decide⟩ (Nat.le_of_ble_eq_true rfl) ⟨by omega, by omega⟩ ⟨_, rfl, fun _ => rfl⟩ (fun ad2 hE2 hC => ?_)
      show AL z x 4 Q _ _ _ _ _ (wX z σ1 ad2 τ1)
      refine al_icmp_eq (tgt := 2151) hC dL_law_575 rfl (fun _ => ?_) (fun g => absurd rfl g)
      exact kk ad2 (hE1.trans hE2)
