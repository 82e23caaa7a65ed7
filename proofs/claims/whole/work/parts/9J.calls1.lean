/-! THE LAW: calls 1 -/
theorem dL_law_268 : decode cL_law 268 = .ok (.aload_n 1, 1) := by decide +kernel
theorem dL_law_269 : decode cL_law 269 = .ok (.aload_n 0, 1) := by decide +kernel
theorem dL_law_270 : decode cL_law 270 = .ok (.iload_n 3, 1) := by decide +kernel
theorem dL_law_271 : decode cL_law 271 = .ok (.iconst 1, 1) := by decide +kernel
theorem dL_law_272 : decode cL_law 272 = .ok (.iadd, 1) := by decide +kernel
theorem dL_law_273 : decode cL_law 273 = .ok (.iaload, 1) := by decide +kernel
theorem dL_law_274 : decode cL_law 274 = .ok (.aload_n 0, 1) := by decide +kernel
theorem dL_law_275 : decode cL_law 275 = .ok (.iload_n 3, 1) := by decide +kernel
theorem dL_law_276 : decode cL_law 276 = .ok (.iconst 2, 1) := by decide +kernel
theorem dL_law_277 : decode cL_law 277 = .ok (.iadd, 1) := by decide +kernel
theorem dL_law_278 : decode cL_law 278 = .ok (.iaload, 1) := by decide +kernel
theorem dL_law_279 : decode cL_law 279 = .ok (.aload_n 0, 1) := by decide +kernel
theorem dL_law_280 : decode cL_law 280 = .ok (.iload_n 3, 1) := by decide +kernel
theorem dL_law_281 : decode cL_law 281 = .ok (.iconst 3, 1) := by decide +kernel
theorem dL_law_282 : decode cL_law 282 = .ok (.iadd, 1) := by decide +kernel
theorem dL_law_283 : decode cL_law 283 = .ok (.iaload, 1) := by decide +kernel
theorem dL_law_284 : decode cL_law 284 = .ok (.invokevirtual 13, 3) := by decide +kernel
theorem dL_law_287 : decode cL_law 287 = .ok (.aload_n 2, 1) := by decide +kernel
theorem dL_law_288 : decode cL_law 288 = .ok (.aload_n 0, 1) := by decide +kernel
theorem dL_law_289 : decode cL_law 289 = .ok (.iload_n 3, 1) := by decide +kernel
theorem dL_law_290 : decode cL_law 290 = .ok (.iconst 1, 1) := by decide +kernel
theorem dL_law_291 : decode cL_law 291 = .ok (.iadd, 1) := by decide +kernel
theorem dL_law_292 : decode cL_law 292 = .ok (.iaload, 1) := by decide +kernel
theorem dL_law_293 : decode cL_law 293 = .ok (.aload_n 0, 1) := by decide +kernel
theorem dL_law_294 : decode cL_law 294 = .ok (.iload_n 3, 1) := by decide +kernel
theorem dL_law_295 : decode cL_law 295 = .ok (.iconst 2, 1) := by decide +kernel
theorem dL_law_296 : decode cL_law 296 = .ok (.iadd, 1) := by decide +kernel
theorem dL_law_297 : decode cL_law 297 = .ok (.iaload, 1) := by decide +kernel
theorem dL_law_298 : decode cL_law 298 = .ok (.aload_n 0, 1) := by decide +kernel
theorem dL_law_299 : decode cL_law 299 = .ok (.iload_n 3, 1) := by decide +kernel
theorem dL_law_300 : decode cL_law 300 = .ok (.iconst 3, 1) := by decide +kernel
theorem dL_law_301 : decode cL_law 301 = .ok (.iadd, 1) := by decide +kernel
theorem dL_law_302 : decode cL_law 302 = .ok (.iaload, 1) := by decide +kernel
theorem dL_law_303 : decode cL_law 303 = .ok (.invokevirtual 17, 3) := by decide +kernel
theorem dL_law_306 : decode cL_law 306 = .ok (.if_icmp .eq 1537, 3) := by decide +kernel
theorem lw_k0 {G : lu_G} {Q : State → Prop} {ρ σ : Nat → Nat} {m n : lu_M} {k z b L j : Nat} {xs : Nat → Int32} (X : lw_X G 2000 80000 b L xs) (hj : j + 5 ≤ L) (hr : Rel m n) (hk : k + 6 ≤ (lu_R G).cells ∧ z + 36 ≤ (lu_R G).slots) (kk : ∀ (m2 n2 : lu_M) (ρ2 : Nat → Nat), Rel m2 n2 → ρ2 0 = ρ 0 → lw_I G Q 1843 (lw_lv b (ρ 0) (σ 0) (nI j)) [] ρ2 m2 σ n2 (k + 6) (z + 36)) : lw_I G Q 268 (lw_lv b (ρ 0) (σ 0) (nI j)) [] ρ m σ n k z := by
  refine lw_a1 X dL_law_268 rfl ?_
  refine lw_ld X hj 1 (by decide) rfl dL_law_269 dL_law_270 dL_law_271 dL_law_272 dL_law_273 rfl ?_
  refine lw_ld X hj 2 (by decide) rfl dL_law_274 dL_law_275 dL_law_276 dL_law_277 dL_law_278 rfl ?_
  refine lw_ld X hj 3 (by decide) rfl dL_law_279 dL_law_280 dL_law_281 dL_law_282 dL_law_283 rfl ?_
  obtain ⟨a, m2, n2, q1, q2, hr2⟩ := y_person (xs (j + 1)) (xs (j + 2)) (xs (j + 3)) m n hr
  refine lw_callC2 (As := [.int (xs (j + 1)), .int (xs (j + 2)), .int (xs (j + 3))]) (rest := []) X.1 (c11_person (lu_l G) (xs (j + 1)) (xs (j + 2)) (xs (j + 3))) q1 ml11_person mv11_person rfl rfl (by decide) (Nat.le_of_ble_eq_true rfl) (Nat.le_of_ble_eq_true rfl) ⟨by omega, by omega⟩ dL_law_284 rfl rfl (fun ρ2 hρ2 => ?_)
  refine lw_a2 X dL_law_287 rfl ?_
  refine lw_ld X hj 1 (by decide) rfl dL_law_288 dL_law_289 dL_law_290 dL_law_291 dL_law_292 rfl ?_
  refine lw_ld X hj 2 (by decide) rfl dL_law_293 dL_law_294 dL_law_295 dL_law_296 dL_law_297 rfl ?_
  refine lw_ld X hj 3 (by decide) rfl dL_law_298 dL_law_299 dL_law_300 dL_law_301 dL_law_302 rfl ?_
  refine lw_callM (As := [.int (xs (j + 1)), .int (xs (j + 2)), .int (xs (j + 3))]) (rest := [.int a]) X.1 (c12_person (lu_l G) (xs (j + 1)) (xs (j + 2)) (xs (j + 3))) q2 ml12_person mv12_person rfl rfl (Nat.le_of_ble_eq_true rfl) (Nat.le_of_ble_eq_true rfl) (Nat.le_of_ble_eq_true rfl) ⟨by omega, by omega⟩ dL_law_303 rfl rfl ?_
  refine lw_same X dL_law_306 rfl ?_
  exact fun H locs ls hl hP hD hS => W.widen (by omega) (by omega) (kk m2 n2 ρ2 hr2 hρ2 H locs ls hl hP hD hS)
theorem dL_law_311 : decode cL_law 311 = .ok (.aload_n 1, 1) := by decide +kernel
theorem dL_law_312 : decode cL_law 312 = .ok (.aload_n 0, 1) := by decide +kernel
theorem dL_law_313 : decode cL_law 313 = .ok (.iload_n 3, 1) := by decide +kernel
theorem dL_law_314 : decode cL_law 314 = .ok (.iconst 1, 1) := by decide +kernel
theorem dL_law_315 : decode cL_law 315 = .ok (.iadd, 1) := by decide +kernel
theorem dL_law_316 : decode cL_law 316 = .ok (.iaload, 1) := by decide +kernel
theorem dL_law_317 : decode cL_law 317 = .ok (.aload_n 0, 1) := by decide +kernel
theorem dL_law_318 : decode cL_law 318 = .ok (.iload_n 3, 1) := by decide +kernel
theorem dL_law_319 : decode cL_law 319 = .ok (.iconst 2, 1) := by decide +kernel
theorem dL_law_320 : decode cL_law 320 = .ok (.iadd, 1) := by decide +kernel
theorem dL_law_321 : decode cL_law 321 = .ok (.iaload, 1) := by decide +kernel
theorem dL_law_322 : decode cL_law 322 = .ok (.invokevirtual 18, 3) := by decide +kernel
theorem dL_law_325 : decode cL_law 325 = .ok (.aload_n 2, 1) := by decide +kernel
theorem dL_law_326 : decode cL_law 326 = .ok (.aload_n 0, 1) := by decide +kernel
theorem dL_law_327 : decode cL_law 327 = .ok (.iload_n 3, 1) := by decide +kernel
theorem dL_law_328 : decode cL_law 328 = .ok (.iconst 1, 1) := by decide +kernel
theorem dL_law_329 : decode cL_law 329 = .ok (.iadd, 1) := by decide +kernel
theorem dL_law_330 : decode cL_law 330 = .ok (.iaload, 1) := by decide +kernel
theorem dL_law_331 : decode cL_law 331 = .ok (.aload_n 0, 1) := by decide +kernel
theorem dL_law_332 : decode cL_law 332 = .ok (.iload_n 3, 1) := by decide +kernel
theorem dL_law_333 : decode cL_law 333 = .ok (.iconst 2, 1) := by decide +kernel
theorem dL_law_334 : decode cL_law 334 = .ok (.iadd, 1) := by decide +kernel
theorem dL_law_335 : decode cL_law 335 = .ok (.iaload, 1) := by decide +kernel
theorem dL_law_336 : decode cL_law 336 = .ok (.invokevirtual 22, 3) := by decide +kernel
theorem dL_law_339 : decode cL_law 339 = .ok (.if_icmp .eq 1504, 3) := by decide +kernel
theorem lw_k1 {G : lu_G} {Q : State → Prop} {ρ σ : Nat → Nat} {m n : lu_M} {k z b L j : Nat} {xs : Nat → Int32} (X : lw_X G 2000 80000 b L xs) (hj : j + 5 ≤ L) (hr : Rel m n) (hk : k + 6 ≤ (lu_R G).cells ∧ z + 36 ≤ (lu_R G).slots) (kk : ∀ (m2 n2 : lu_M) (ρ2 : Nat → Nat), Rel m2 n2 → ρ2 0 = ρ 0 → lw_I G Q 1843 (lw_lv b (ρ 0) (σ 0) (nI j)) [] ρ2 m2 σ n2 (k + 6) (z + 36)) : lw_I G Q 311 (lw_lv b (ρ 0) (σ 0) (nI j)) [] ρ m σ n k z := by
  refine lw_a1 X dL_law_311 rfl ?_
  refine lw_ld X hj 1 (by decide) rfl dL_law_312 dL_law_313 dL_law_314 dL_law_315 dL_law_316 rfl ?_
  refine lw_ld X hj 2 (by decide) rfl dL_law_317 dL_law_318 dL_law_319 dL_law_320 dL_law_321 rfl ?_
  obtain ⟨a, m2, n2, q1, q2, hr2⟩ := y_personOf (xs (j + 1)) (xs (j + 2)) m n hr
  refine lw_callC (As := [.int (xs (j + 1)), .int (xs (j + 2))]) (rest := []) X.1 (c11_personOf (lu_l G) (xs (j + 1)) (xs (j + 2))) q1 ml11_personOf mv11_personOf rfl rfl (by decide) (Nat.le_of_ble_eq_true rfl) (Nat.le_of_ble_eq_true rfl) ⟨by omega, by omega⟩ dL_law_322 rfl rfl ?_
  refine lw_a2 X dL_law_325 rfl ?_
  refine lw_ld X hj 1 (by decide) rfl dL_law_326 dL_law_327 dL_law_328 dL_law_329 dL_law_330 rfl ?_
  refine lw_ld X hj 2 (by decide) rfl dL_law_331 dL_law_332 dL_law_333 dL_law_334 dL_law_335 rfl ?_
  refine lw_callM (As := [.int (xs (j + 1)), .int (xs (j + 2))]) (rest := [.int a]) X.1 (c12_personOf (lu_l G) (xs (j + 1)) (xs (j + 2))) q2 ml12_personOf mv12_personOf rfl rfl (Nat.le_of_ble_eq_true rfl) (Nat.le_of_ble_eq_true rfl) (Nat.le_of_ble_eq_true rfl) ⟨by omega, by omega⟩ dL_law_336 rfl rfl ?_
  refine lw_same X dL_law_339 rfl ?_
  exact lw_I.wide (kk m2 n2 ρ hr2 rfl)
theorem dL_law_344 : decode cL_law 344 = .ok (.aload_n 1, 1) := by decide +kernel
theorem dL_law_345 : decode cL_law 345 = .ok (.aload_n 0, 1) := by decide +kernel
theorem dL_law_346 : decode cL_law 346 = .ok (.iload_n 3, 1) := by decide +kernel
theorem dL_law_347 : decode cL_law 347 = .ok (.iconst 1, 1) := by decide +kernel
theorem dL_law_348 : decode cL_law 348 = .ok (.iadd, 1) := by decide +kernel
theorem dL_law_349 : decode cL_law 349 = .ok (.iaload, 1) := by decide +kernel
theorem dL_law_350 : decode cL_law 350 = .ok (.aload_n 0, 1) := by decide +kernel
theorem dL_law_351 : decode cL_law 351 = .ok (.iload_n 3, 1) := by decide +kernel
theorem dL_law_352 : decode cL_law 352 = .ok (.iconst 2, 1) := by decide +kernel
theorem dL_law_353 : decode cL_law 353 = .ok (.iadd, 1) := by decide +kernel
theorem dL_law_354 : decode cL_law 354 = .ok (.iaload, 1) := by decide +kernel
theorem dL_law_355 : decode cL_law 355 = .ok (.aload_n 0, 1) := by decide +kernel
theorem dL_law_356 : decode cL_law 356 = .ok (.iload_n 3, 1) := by decide +kernel
theorem dL_law_357 : decode cL_law 357 = .ok (.iconst 3, 1) := by decide +kernel
theorem dL_law_358 : decode cL_law 358 = .ok (.iadd, 1) := by decide +kernel
theorem dL_law_359 : decode cL_law 359 = .ok (.iaload, 1) := by decide +kernel
theorem dL_law_360 : decode cL_law 360 = .ok (.invokevirtual 23, 3) := by decide +kernel
theorem dL_law_363 : decode cL_law 363 = .ok (.aload_n 2, 1) := by decide +kernel
theorem dL_law_364 : decode cL_law 364 = .ok (.aload_n 0, 1) := by decide +kernel
theorem dL_law_365 : decode cL_law 365 = .ok (.iload_n 3, 1) := by decide +kernel
theorem dL_law_366 : decode cL_law 366 = .ok (.iconst 1, 1) := by decide +kernel
theorem dL_law_367 : decode cL_law 367 = .ok (.iadd, 1) := by decide +kernel
theorem dL_law_368 : decode cL_law 368 = .ok (.iaload, 1) := by decide +kernel
theorem dL_law_369 : decode cL_law 369 = .ok (.aload_n 0, 1) := by decide +kernel
theorem dL_law_370 : decode cL_law 370 = .ok (.iload_n 3, 1) := by decide +kernel
theorem dL_law_371 : decode cL_law 371 = .ok (.iconst 2, 1) := by decide +kernel
theorem dL_law_372 : decode cL_law 372 = .ok (.iadd, 1) := by decide +kernel
theorem dL_law_373 : decode cL_law 373 = .ok (.iaload, 1) := by decide +kernel
theorem dL_law_374 : decode cL_law 374 = .ok (.aload_n 0, 1) := by decide +kernel
theorem dL_law_375 : decode cL_law 375 = .ok (.iload_n 3, 1) := by decide +kernel
theorem dL_law_376 : decode cL_law 376 = .ok (.iconst 3, 1) := by decide +kernel
theorem dL_law_377 : decode cL_law 377 = .ok (.iadd, 1) := by decide +kernel
theorem dL_law_378 : decode cL_law 378 = .ok (.iaload, 1) := by decide +kernel
theorem dL_law_379 : decode cL_law 379 = .ok (.invokevirtual 26, 3) := by decide +kernel
theorem dL_law_382 : decode cL_law 382 = .ok (.if_icmp .eq 1461, 3) := by decide +kernel
theorem lw_k2 {G : lu_G} {Q : State → Prop} {ρ σ : Nat → Nat} {m n : lu_M} {k z b L j : Nat} {xs : Nat → Int32} (X : lw_X G 2000 80000 b L xs) (hj : j + 5 ≤ L) (hr : Rel m n) (hk : k + 6 ≤ (lu_R G).cells ∧ z + 36 ≤ (lu_R G).slots) (kk : ∀ (m2 n2 : lu_M) (ρ2 : Nat → Nat), Rel m2 n2 → ρ2 0 = ρ 0 → lw_I G Q 1843 (lw_lv b (ρ 0) (σ 0) (nI j)) [] ρ2 m2 σ n2 (k + 6) (z + 36)) : lw_I G Q 344 (lw_lv b (ρ 0) (σ 0) (nI j)) [] ρ m σ n k z := by
  refine lw_a1 X dL_law_344 rfl ?_
  refine lw_ld X hj 1 (by decide) rfl dL_law_345 dL_law_346 dL_law_347 dL_law_348 dL_law_349 rfl ?_
  refine lw_ld X hj 2 (by decide) rfl dL_law_350 dL_law_351 dL_law_352 dL_law_353 dL_law_354 rfl ?_
  refine lw_ld X hj 3 (by decide) rfl dL_law_355 dL_law_356 dL_law_357 dL_law_358 dL_law_359 rfl ?_
  obtain ⟨a, m2, n2, q1, q2, hr2⟩ := y_change (xs (j + 1)) (xs (j + 2)) (xs (j + 3)) m n hr
  refine lw_callC (As := [.int (xs (j + 1)), .int (xs (j + 2)), .int (xs (j + 3))]) (rest := []) X.1 (c11_change (lu_l G) (xs (j + 1)) (xs (j + 2)) (xs (j + 3))) q1 ml11_change mv11_change rfl rfl (by decide) (Nat.le_of_ble_eq_true rfl) (Nat.le_of_ble_eq_true rfl) ⟨by omega, by omega⟩ dL_law_360 rfl rfl ?_
  refine lw_a2 X dL_law_363 rfl ?_
  refine lw_ld X hj 1 (by decide) rfl dL_law_364 dL_law_365 dL_law_366 dL_law_367 dL_law_368 rfl ?_
  refine lw_ld X hj 2 (by decide) rfl dL_law_369 dL_law_370 dL_law_371 dL_law_372 dL_law_373 rfl ?_
  refine lw_ld X hj 3 (by decide) rfl dL_law_374 dL_law_375 dL_law_376 dL_law_377 dL_law_378 rfl ?_
  refine lw_callM (As := [.int (xs (j + 1)), .int (xs (j + 2)), .int (xs (j + 3))]) (rest := [.int a]) X.1 (c12_change (lu_l G) (xs (j + 1)) (xs (j + 2)) (xs (j + 3))) q2 ml12_change mv12_change rfl rfl (Nat.le_of_ble_eq_true rfl) (Nat.le_of_ble_eq_true rfl) (Nat.le_of_ble_eq_true rfl) ⟨by omega, by omega⟩ dL_law_379 rfl rfl ?_
  refine lw_same X dL_law_382 rfl ?_
  exact lw_I.wide (kk m2 n2 ρ hr2 rfl)
theorem dL_law_387 : decode cL_law 387 = .ok (.aload_n 1, 1) := by decide +kernel
theorem dL_law_388 : decode cL_law 388 = .ok (.aload_n 0, 1) := by decide +kernel
theorem dL_law_389 : decode cL_law 389 = .ok (.iload_n 3, 1) := by decide +kernel
theorem dL_law_390 : decode cL_law 390 = .ok (.iconst 1, 1) := by decide +kernel
theorem dL_law_391 : decode cL_law 391 = .ok (.iadd, 1) := by decide +kernel
theorem dL_law_392 : decode cL_law 392 = .ok (.iaload, 1) := by decide +kernel
theorem dL_law_393 : decode cL_law 393 = .ok (.aload_n 0, 1) := by decide +kernel
theorem dL_law_394 : decode cL_law 394 = .ok (.iload_n 3, 1) := by decide +kernel
theorem dL_law_395 : decode cL_law 395 = .ok (.iconst 2, 1) := by decide +kernel
theorem dL_law_396 : decode cL_law 396 = .ok (.iadd, 1) := by decide +kernel
theorem dL_law_397 : decode cL_law 397 = .ok (.iaload, 1) := by decide +kernel
theorem dL_law_398 : decode cL_law 398 = .ok (.invokevirtual 27, 3) := by decide +kernel
theorem dL_law_401 : decode cL_law 401 = .ok (.aload_n 2, 1) := by decide +kernel
theorem dL_law_402 : decode cL_law 402 = .ok (.aload_n 0, 1) := by decide +kernel
theorem dL_law_403 : decode cL_law 403 = .ok (.iload_n 3, 1) := by decide +kernel
theorem dL_law_404 : decode cL_law 404 = .ok (.iconst 1, 1) := by decide +kernel
theorem dL_law_405 : decode cL_law 405 = .ok (.iadd, 1) := by decide +kernel
theorem dL_law_406 : decode cL_law 406 = .ok (.iaload, 1) := by decide +kernel
theorem dL_law_407 : decode cL_law 407 = .ok (.aload_n 0, 1) := by decide +kernel
theorem dL_law_408 : decode cL_law 408 = .ok (.iload_n 3, 1) := by decide +kernel
theorem dL_law_409 : decode cL_law 409 = .ok (.iconst 2, 1) := by decide +kernel
theorem dL_law_410 : decode cL_law 410 = .ok (.iadd, 1) := by decide +kernel
theorem dL_law_411 : decode cL_law 411 = .ok (.iaload, 1) := by decide +kernel
theorem dL_law_412 : decode cL_law 412 = .ok (.invokevirtual 30, 3) := by decide +kernel
theorem dL_law_415 : decode cL_law 415 = .ok (.if_icmp .eq 1428, 3) := by decide +kernel
theorem lw_k3 {G : lu_G} {Q : State → Prop} {ρ σ : Nat → Nat} {m n : lu_M} {k z b L j : Nat} {xs : Nat → Int32} (X : lw_X G 2000 80000 b L xs) (hj : j + 5 ≤ L) (hr : Rel m n) (hk : k + 6 ≤ (lu_R G).cells ∧ z + 36 ≤ (lu_R G).slots) (kk : ∀ (m2 n2 : lu_M) (ρ2 : Nat → Nat), Rel m2 n2 → ρ2 0 = ρ 0 → lw_I G Q 1843 (lw_lv b (ρ 0) (σ 0) (nI j)) [] ρ2 m2 σ n2 (k + 6) (z + 36)) : lw_I G Q 387 (lw_lv b (ρ 0) (σ 0) (nI j)) [] ρ m σ n k z := by
  refine lw_a1 X dL_law_387 rfl ?_
  refine lw_ld X hj 1 (by decide) rfl dL_law_388 dL_law_389 dL_law_390 dL_law_391 dL_law_392 rfl ?_
  refine lw_ld X hj 2 (by decide) rfl dL_law_393 dL_law_394 dL_law_395 dL_law_396 dL_law_397 rfl ?_
  obtain ⟨a, m2, n2, q1, q2, hr2⟩ := y_remake (xs (j + 1)) (xs (j + 2)) m n hr
  refine lw_callC2 (As := [.int (xs (j + 1)), .int (xs (j + 2))]) (rest := []) X.1 (c11_remake (lu_l G) (xs (j + 1)) (xs (j + 2))) q1 ml11_remake mv11_remake rfl rfl (by decide) (Nat.le_of_ble_eq_true rfl) (Nat.le_of_ble_eq_true rfl) ⟨by omega, by omega⟩ dL_law_398 rfl rfl (fun ρ2 hρ2 => ?_)
  refine lw_a2 X dL_law_401 rfl ?_
  refine lw_ld X hj 1 (by decide) rfl dL_law_402 dL_law_403 dL_law_404 dL_law_405 dL_law_406 rfl ?_
  refine lw_ld X hj 2 (by decide) rfl dL_law_407 dL_law_408 dL_law_409 dL_law_410 dL_law_411 rfl ?_
  refine lw_callM (As := [.int (xs (j + 1)), .int (xs (j + 2))]) (rest := [.int a]) X.1 (c12_remake (lu_l G) (xs (j + 1)) (xs (j + 2))) q2 ml12_remake mv12_remake rfl rfl (Nat.le_of_ble_eq_true rfl) (Nat.le_of_ble_eq_true rfl) (Nat.le_of_ble_eq_true rfl) ⟨by omega, by omega⟩ dL_law_412 rfl rfl ?_
  refine lw_same X dL_law_415 rfl ?_
  exact fun H locs ls hl hP hD hS => W.widen (by omega) (by omega) (kk m2 n2 ρ2 hr2 hρ2 H locs ls hl hP hD hS)
theorem dL_law_420 : decode cL_law 420 = .ok (.aload_n 1, 1) := by decide +kernel
theorem dL_law_421 : decode cL_law 421 = .ok (.aload_n 0, 1) := by decide +kernel
theorem dL_law_422 : decode cL_law 422 = .ok (.iload_n 3, 1) := by decide +kernel
theorem dL_law_423 : decode cL_law 423 = .ok (.iconst 1, 1) := by decide +kernel
theorem dL_law_424 : decode cL_law 424 = .ok (.iadd, 1) := by decide +kernel
theorem dL_law_425 : decode cL_law 425 = .ok (.iaload, 1) := by decide +kernel
theorem dL_law_426 : decode cL_law 426 = .ok (.aload_n 0, 1) := by decide +kernel
theorem dL_law_427 : decode cL_law 427 = .ok (.iload_n 3, 1) := by decide +kernel
theorem dL_law_428 : decode cL_law 428 = .ok (.iconst 2, 1) := by decide +kernel
theorem dL_law_429 : decode cL_law 429 = .ok (.iadd, 1) := by decide +kernel
theorem dL_law_430 : decode cL_law 430 = .ok (.iaload, 1) := by decide +kernel
theorem dL_law_431 : decode cL_law 431 = .ok (.aload_n 0, 1) := by decide +kernel
theorem dL_law_432 : decode cL_law 432 = .ok (.iload_n 3, 1) := by decide +kernel
theorem dL_law_433 : decode cL_law 433 = .ok (.iconst 3, 1) := by decide +kernel
theorem dL_law_434 : decode cL_law 434 = .ok (.iadd, 1) := by decide +kernel
theorem dL_law_435 : decode cL_law 435 = .ok (.iaload, 1) := by decide +kernel
theorem dL_law_436 : decode cL_law 436 = .ok (.aload_n 0, 1) := by decide +kernel
theorem dL_law_437 : decode cL_law 437 = .ok (.iload_n 3, 1) := by decide +kernel
theorem dL_law_438 : decode cL_law 438 = .ok (.iconst 4, 1) := by decide +kernel
theorem dL_law_439 : decode cL_law 439 = .ok (.iadd, 1) := by decide +kernel
theorem dL_law_440 : decode cL_law 440 = .ok (.iaload, 1) := by decide +kernel
theorem dL_law_441 : decode cL_law 441 = .ok (.invokevirtual 31, 3) := by decide +kernel
theorem dL_law_444 : decode cL_law 444 = .ok (.aload_n 2, 1) := by decide +kernel
theorem dL_law_445 : decode cL_law 445 = .ok (.aload_n 0, 1) := by decide +kernel
theorem dL_law_446 : decode cL_law 446 = .ok (.iload_n 3, 1) := by decide +kernel
theorem dL_law_447 : decode cL_law 447 = .ok (.iconst 1, 1) := by decide +kernel
theorem dL_law_448 : decode cL_law 448 = .ok (.iadd, 1) := by decide +kernel
theorem dL_law_449 : decode cL_law 449 = .ok (.iaload, 1) := by decide +kernel
theorem dL_law_450 : decode cL_law 450 = .ok (.aload_n 0, 1) := by decide +kernel
theorem dL_law_451 : decode cL_law 451 = .ok (.iload_n 3, 1) := by decide +kernel
theorem dL_law_452 : decode cL_law 452 = .ok (.iconst 2, 1) := by decide +kernel
theorem dL_law_453 : decode cL_law 453 = .ok (.iadd, 1) := by decide +kernel
theorem dL_law_454 : decode cL_law 454 = .ok (.iaload, 1) := by decide +kernel
theorem dL_law_455 : decode cL_law 455 = .ok (.aload_n 0, 1) := by decide +kernel
theorem dL_law_456 : decode cL_law 456 = .ok (.iload_n 3, 1) := by decide +kernel
theorem dL_law_457 : decode cL_law 457 = .ok (.iconst 3, 1) := by decide +kernel
theorem dL_law_458 : decode cL_law 458 = .ok (.iadd, 1) := by decide +kernel
theorem dL_law_459 : decode cL_law 459 = .ok (.iaload, 1) := by decide +kernel
theorem dL_law_460 : decode cL_law 460 = .ok (.aload_n 0, 1) := by decide +kernel
theorem dL_law_461 : decode cL_law 461 = .ok (.iload_n 3, 1) := by decide +kernel
theorem dL_law_462 : decode cL_law 462 = .ok (.iconst 4, 1) := by decide +kernel
theorem dL_law_463 : decode cL_law 463 = .ok (.iadd, 1) := by decide +kernel
theorem dL_law_464 : decode cL_law 464 = .ok (.iaload, 1) := by decide +kernel
theorem dL_law_465 : decode cL_law 465 = .ok (.invokevirtual 35, 3) := by decide +kernel
theorem dL_law_468 : decode cL_law 468 = .ok (.if_icmp .eq 1375, 3) := by decide +kernel
theorem lw_k4 {G : lu_G} {Q : State → Prop} {ρ σ : Nat → Nat} {m n : lu_M} {k z b L j : Nat} {xs : Nat → Int32} (X : lw_X G 2000 80000 b L xs) (hj : j + 5 ≤ L) (hr : Rel m n) (hk : k + 6 ≤ (lu_R G).cells ∧ z + 36 ≤ (lu_R G).slots) (kk : ∀ (m2 n2 : lu_M) (ρ2 : Nat → Nat), Rel m2 n2 → ρ2 0 = ρ 0 → lw_I G Q 1843 (lw_lv b (ρ 0) (σ 0) (nI j)) [] ρ2 m2 σ n2 (k + 6) (z + 36)) : lw_I G Q 420 (lw_lv b (ρ 0) (σ 0) (nI j)) [] ρ m σ n k z := by
  refine lw_a1 X dL_law_420 rfl ?_
  refine lw_ld X hj 1 (by decide) rfl dL_law_421 dL_law_422 dL_law_423 dL_law_424 dL_law_425 rfl ?_
  refine lw_ld X hj 2 (by decide) rfl dL_law_426 dL_law_427 dL_law_428 dL_law_429 dL_law_430 rfl ?_
  refine lw_ld X hj 3 (by decide) rfl dL_law_431 dL_law_432 dL_law_433 dL_law_434 dL_law_435 rfl ?_
  refine lw_ld X hj 4 (by decide) rfl dL_law_436 dL_law_437 dL_law_438 dL_law_439 dL_law_440 rfl ?_
  obtain ⟨a, m2, n2, q1, q2, hr2⟩ := y_deed (xs (j + 1)) (xs (j + 2)) (xs (j + 3)) (xs (j + 4)) m n hr
  refine lw_callC (As := [.int (xs (j + 1)), .int (xs (j + 2)), .int (xs (j + 3)), .int (xs (j + 4))]) (rest := []) X.1 (c11_deed (lu_l G) (xs (j + 1)) (xs (j + 2)) (xs (j + 3)) (xs (j + 4))) q1 ml11_deed mv11_deed rfl rfl (by decide) (Nat.le_of_ble_eq_true rfl) (Nat.le_of_ble_eq_true rfl) ⟨by omega, by omega⟩ dL_law_441 rfl rfl ?_
  refine lw_a2 X dL_law_444 rfl ?_
  refine lw_ld X hj 1 (by decide) rfl dL_law_445 dL_law_446 dL_law_447 dL_law_448 dL_law_449 rfl ?_
  refine lw_ld X hj 2 (by decide) rfl dL_law_450 dL_law_451 dL_law_452 dL_law_453 dL_law_454 rfl ?_
  refine lw_ld X hj 3 (by decide) rfl dL_law_455 dL_law_456 dL_law_457 dL_law_458 dL_law_459 rfl ?_
  refine lw_ld X hj 4 (by decide) rfl dL_law_460 dL_law_461 dL_law_462 dL_law_463 dL_law_464 rfl ?_
  refine lw_callM (As := [.int (xs (j + 1)), .int (xs (j + 2)), .int (xs (j + 3)), .int (xs (j + 4))]) (rest := [.int a]) X.1 (c12_deed (lu_l G) (xs (j + 1)) (xs (j + 2)) (xs (j + 3)) (xs (j + 4))) q2 ml12_deed mv12_deed rfl rfl (Nat.le_of_ble_eq_true rfl) (Nat.le_of_ble_eq_true rfl) (Nat.le_of_ble_eq_true rfl) ⟨by omega, by omega⟩ dL_law_465 rfl rfl ?_
  refine lw_same X dL_law_468 rfl ?_
  exact lw_I.wide (kk m2 n2 ρ hr2 rfl)
theorem dL_law_473 : decode cL_law 473 = .ok (.aload_n 1, 1) := by decide +kernel
theorem dL_law_474 : decode cL_law 474 = .ok (.aload_n 0, 1) := by decide +kernel
theorem dL_law_475 : decode cL_law 475 = .ok (.iload_n 3, 1) := by decide +kernel
theorem dL_law_476 : decode cL_law 476 = .ok (.iconst 1, 1) := by decide +kernel
theorem dL_law_477 : decode cL_law 477 = .ok (.iadd, 1) := by decide +kernel
theorem dL_law_478 : decode cL_law 478 = .ok (.iaload, 1) := by decide +kernel
theorem dL_law_479 : decode cL_law 479 = .ok (.aload_n 0, 1) := by decide +kernel
theorem dL_law_480 : decode cL_law 480 = .ok (.iload_n 3, 1) := by decide +kernel
theorem dL_law_481 : decode cL_law 481 = .ok (.iconst 2, 1) := by decide +kernel
theorem dL_law_482 : decode cL_law 482 = .ok (.iadd, 1) := by decide +kernel
theorem dL_law_483 : decode cL_law 483 = .ok (.iaload, 1) := by decide +kernel
theorem dL_law_484 : decode cL_law 484 = .ok (.invokevirtual 36, 3) := by decide +kernel
theorem dL_law_487 : decode cL_law 487 = .ok (.aload_n 2, 1) := by decide +kernel
theorem dL_law_488 : decode cL_law 488 = .ok (.aload_n 0, 1) := by decide +kernel
theorem dL_law_489 : decode cL_law 489 = .ok (.iload_n 3, 1) := by decide +kernel
theorem dL_law_490 : decode cL_law 490 = .ok (.iconst 1, 1) := by decide +kernel
theorem dL_law_491 : decode cL_law 491 = .ok (.iadd, 1) := by decide +kernel
theorem dL_law_492 : decode cL_law 492 = .ok (.iaload, 1) := by decide +kernel
theorem dL_law_493 : decode cL_law 493 = .ok (.aload_n 0, 1) := by decide +kernel
theorem dL_law_494 : decode cL_law 494 = .ok (.iload_n 3, 1) := by decide +kernel
theorem dL_law_495 : decode cL_law 495 = .ok (.iconst 2, 1) := by decide +kernel
theorem dL_law_496 : decode cL_law 496 = .ok (.iadd, 1) := by decide +kernel
theorem dL_law_497 : decode cL_law 497 = .ok (.iaload, 1) := by decide +kernel
theorem dL_law_498 : decode cL_law 498 = .ok (.invokevirtual 39, 3) := by decide +kernel
theorem dL_law_501 : decode cL_law 501 = .ok (.if_icmp .eq 1342, 3) := by decide +kernel
theorem lw_k5 {G : lu_G} {Q : State → Prop} {ρ σ : Nat → Nat} {m n : lu_M} {k z b L j : Nat} {xs : Nat → Int32} (X : lw_X G 2000 80000 b L xs) (hj : j + 5 ≤ L) (hr : Rel m n) (hk : k + 6 ≤ (lu_R G).cells ∧ z + 36 ≤ (lu_R G).slots) (kk : ∀ (m2 n2 : lu_M) (ρ2 : Nat → Nat), Rel m2 n2 → ρ2 0 = ρ 0 → lw_I G Q 1843 (lw_lv b (ρ 0) (σ 0) (nI j)) [] ρ2 m2 σ n2 (k + 6) (z + 36)) : lw_I G Q 473 (lw_lv b (ρ 0) (σ 0) (nI j)) [] ρ m σ n k z := by
  refine lw_a1 X dL_law_473 rfl ?_
  refine lw_ld X hj 1 (by decide) rfl dL_law_474 dL_law_475 dL_law_476 dL_law_477 dL_law_478 rfl ?_
  refine lw_ld X hj 2 (by decide) rfl dL_law_479 dL_law_480 dL_law_481 dL_law_482 dL_law_483 rfl ?_
  obtain ⟨a, m2, n2, q1, q2, hr2⟩ := y_deedOf (xs (j + 1)) (xs (j + 2)) m n hr
  refine lw_callC (As := [.int (xs (j + 1)), .int (xs (j + 2))]) (rest := []) X.1 (c11_deedOf (lu_l G) (xs (j + 1)) (xs (j + 2))) q1 ml11_deedOf mv11_deedOf rfl rfl (by decide) (Nat.le_of_ble_eq_true rfl) (Nat.le_of_ble_eq_true rfl) ⟨by omega, by omega⟩ dL_law_484 rfl rfl ?_
  refine lw_a2 X dL_law_487 rfl ?_
  refine lw_ld X hj 1 (by decide) rfl dL_law_488 dL_law_489 dL_law_490 dL_law_491 dL_law_492 rfl ?_
  refine lw_ld X hj 2 (by decide) rfl dL_law_493 dL_law_494 dL_law_495 dL_law_496 dL_law_497 rfl ?_
  refine lw_callM (As := [.int (xs (j + 1)), .int (xs (j + 2))]) (rest := [.int a]) X.1 (c12_deedOf (lu_l G) (xs (j + 1)) (xs (j + 2))) q2 ml12_deedOf mv12_deedOf rfl rfl (Nat.le_of_ble_eq_true rfl) (Nat.le_of_ble_eq_true rfl) (Nat.le_of_ble_eq_true rfl) ⟨by omega, by omega⟩ dL_law_498 rfl rfl ?_
  refine lw_same X dL_law_501 rfl ?_
  exact lw_I.wide (kk m2 n2 ρ hr2 rfl)
theorem dL_law_506 : decode cL_law 506 = .ok (.aload_n 1, 1) := by decide +kernel
theorem dL_law_507 : decode cL_law 507 = .ok (.aload_n 0, 1) := by decide +kernel
theorem dL_law_508 : decode cL_law 508 = .ok (.iload_n 3, 1) := by decide +kernel
theorem dL_law_509 : decode cL_law 509 = .ok (.iconst 1, 1) := by decide +kernel
theorem dL_law_510 : decode cL_law 510 = .ok (.iadd, 1) := by decide +kernel
theorem dL_law_511 : decode cL_law 511 = .ok (.iaload, 1) := by decide +kernel
theorem dL_law_512 : decode cL_law 512 = .ok (.invokevirtual 40, 3) := by decide +kernel
theorem dL_law_515 : decode cL_law 515 = .ok (.aload_n 2, 1) := by decide +kernel
theorem dL_law_516 : decode cL_law 516 = .ok (.aload_n 0, 1) := by decide +kernel
theorem dL_law_517 : decode cL_law 517 = .ok (.iload_n 3, 1) := by decide +kernel
theorem dL_law_518 : decode cL_law 518 = .ok (.iconst 1, 1) := by decide +kernel
theorem dL_law_519 : decode cL_law 519 = .ok (.iadd, 1) := by decide +kernel
theorem dL_law_520 : decode cL_law 520 = .ok (.iaload, 1) := by decide +kernel
theorem dL_law_521 : decode cL_law 521 = .ok (.invokevirtual 44, 3) := by decide +kernel
theorem dL_law_524 : decode cL_law 524 = .ok (.if_icmp .eq 1319, 3) := by decide +kernel
theorem lw_k6 {G : lu_G} {Q : State → Prop} {ρ σ : Nat → Nat} {m n : lu_M} {k z b L j : Nat} {xs : Nat → Int32} (X : lw_X G 2000 80000 b L xs) (hj : j + 5 ≤ L) (hr : Rel m n) (hk : k + 6 ≤ (lu_R G).cells ∧ z + 36 ≤ (lu_R G).slots) (kk : ∀ (m2 n2 : lu_M) (ρ2 : Nat → Nat), Rel m2 n2 → ρ2 0 = ρ 0 → lw_I G Q 1843 (lw_lv b (ρ 0) (σ 0) (nI j)) [] ρ2 m2 σ n2 (k + 6) (z + 36)) : lw_I G Q 506 (lw_lv b (ρ 0) (σ 0) (nI j)) [] ρ m σ n k z := by
  refine lw_a1 X dL_law_506 rfl ?_
  refine lw_ld X hj 1 (by decide) rfl dL_law_507 dL_law_508 dL_law_509 dL_law_510 dL_law_511 rfl ?_
  obtain ⟨a, m2, n2, q1, q2, hr2⟩ := y_ends (xs (j + 1)) m n hr
  refine lw_callC (As := [.int (xs (j + 1))]) (rest := []) X.1 (c11_ends (lu_l G) (xs (j + 1))) q1 ml11_ends mv11_ends rfl rfl (by decide) (Nat.le_of_ble_eq_true rfl) (Nat.le_of_ble_eq_true rfl) ⟨by omega, by omega⟩ dL_law_512 rfl rfl ?_
  refine lw_a2 X dL_law_515 rfl ?_
  refine lw_ld X hj 1 (by decide) rfl dL_law_516 dL_law_517 dL_law_518 dL_law_519 dL_law_520 rfl ?_
  refine lw_callM (As := [.int (xs (j + 1))]) (rest := [.int a]) X.1 (c12_ends (lu_l G) (xs (j + 1))) q2 ml12_ends mv12_ends rfl rfl (Nat.le_of_ble_eq_true rfl) (Nat.le_of_ble_eq_true rfl) (Nat.le_of_ble_eq_true rfl) ⟨by omega, by omega⟩ dL_law_521 rfl rfl ?_
  refine lw_same X dL_law_524 rfl ?_
  exact lw_I.wide (kk m2 n2 ρ hr2 rfl)
theorem dL_law_529 : decode cL_law 529 = .ok (.aload_n 1, 1) := by decide +kernel
theorem dL_law_530 : decode cL_law 530 = .ok (.invokevirtual 45, 3) := by decide +kernel
theorem dL_law_533 : decode cL_law 533 = .ok (.aload_n 2, 1) := by decide +kernel
theorem dL_law_534 : decode cL_law 534 = .ok (.invokevirtual 49, 3) := by decide +kernel
theorem dL_law_537 : decode cL_law 537 = .ok (.if_icmp .eq 1306, 3) := by decide +kernel
theorem lw_k7 {G : lu_G} {Q : State → Prop} {ρ σ : Nat → Nat} {m n : lu_M} {k z b L j : Nat} {xs : Nat → Int32} (X : lw_X G 2000 80000 b L xs) (hj : j + 5 ≤ L) (hr : Rel m n) (hk : k + 6 ≤ (lu_R G).cells ∧ z + 36 ≤ (lu_R G).slots) (kk : ∀ (m2 n2 : lu_M) (ρ2 : Nat → Nat), Rel m2 n2 → ρ2 0 = ρ 0 → lw_I G Q 1843 (lw_lv b (ρ 0) (σ 0) (nI j)) [] ρ2 m2 σ n2 (k + 6) (z + 36)) : lw_I G Q 529 (lw_lv b (ρ 0) (σ 0) (nI j)) [] ρ m σ n k z := by
  refine lw_a1 X dL_law_529 rfl ?_
  obtain ⟨a, m2, n2, q1, q2, hr2⟩ := y_anew m n hr
  refine lw_callC (As := []) (rest := []) X.1 (c11_anew (lu_l G) ) q1 ml11_anew mv11_anew rfl rfl (by decide) (Nat.le_of_ble_eq_true rfl) (Nat.le_of_ble_eq_true rfl) ⟨by omega, by omega⟩ dL_law_530 rfl rfl ?_
  refine lw_a2 X dL_law_533 rfl ?_
  refine lw_callM (As := []) (rest := [.int a]) X.1 (c12_anew (lu_l G) ) q2 ml12_anew mv12_anew rfl rfl (Nat.le_of_ble_eq_true rfl) (Nat.le_of_ble_eq_true rfl) (Nat.le_of_ble_eq_true rfl) ⟨by omega, by omega⟩ dL_law_534 rfl rfl ?_
  refine lw_same X dL_law_537 rfl ?_
  exact lw_I.wide (kk m2 n2 ρ hr2 rfl)
theorem dL_law_542 : decode cL_law 542 = .ok (.aload_n 1, 1) := by decide +kernel
theorem dL_law_543 : decode cL_law 543 = .ok (.aload_n 0, 1) := by decide +kernel
theorem dL_law_544 : decode cL_law 544 = .ok (.iload_n 3, 1) := by decide +kernel
theorem dL_law_545 : decode cL_law 545 = .ok (.iconst 1, 1) := by decide +kernel
theorem dL_law_546 : decode cL_law 546 = .ok (.iadd, 1) := by decide +kernel
theorem dL_law_547 : decode cL_law 547 = .ok (.iaload, 1) := by decide +kernel
theorem dL_law_548 : decode cL_law 548 = .ok (.invokevirtual 50, 3) := by decide +kernel
theorem dL_law_551 : decode cL_law 551 = .ok (.aload_n 2, 1) := by decide +kernel
theorem dL_law_552 : decode cL_law 552 = .ok (.aload_n 0, 1) := by decide +kernel
theorem dL_law_553 : decode cL_law 553 = .ok (.iload_n 3, 1) := by decide +kernel
theorem dL_law_554 : decode cL_law 554 = .ok (.iconst 1, 1) := by decide +kernel
theorem dL_law_555 : decode cL_law 555 = .ok (.iadd, 1) := by decide +kernel
theorem dL_law_556 : decode cL_law 556 = .ok (.iaload, 1) := by decide +kernel
theorem dL_law_557 : decode cL_law 557 = .ok (.invokevirtual 53, 3) := by decide +kernel
theorem dL_law_560 : decode cL_law 560 = .ok (.if_icmp .eq 1283, 3) := by decide +kernel
theorem lw_k8 {G : lu_G} {Q : State → Prop} {ρ σ : Nat → Nat} {m n : lu_M} {k z b L j : Nat} {xs : Nat → Int32} (X : lw_X G 2000 80000 b L xs) (hj : j + 5 ≤ L) (hr : Rel m n) (hk : k + 6 ≤ (lu_R G).cells ∧ z + 36 ≤ (lu_R G).slots) (kk : ∀ (m2 n2 : lu_M) (ρ2 : Nat → Nat), Rel m2 n2 → ρ2 0 = ρ 0 → lw_I G Q 1843 (lw_lv b (ρ 0) (σ 0) (nI j)) [] ρ2 m2 σ n2 (k + 6) (z + 36)) : lw_I G Q 542 (lw_lv b (ρ 0) (σ 0) (nI j)) [] ρ m σ n k z := by
  refine lw_a1 X dL_law_542 rfl ?_
  refine lw_ld X hj 1 (by decide) rfl dL_law_543 dL_law_544 dL_law_545 dL_law_546 dL_law_547 rfl ?_
  obtain ⟨a, m2, n2, q1, q2, hr2⟩ := y_state (xs (j + 1)) m n hr
  refine lw_callC (As := [.int (xs (j + 1))]) (rest := []) X.1 (c11_state (lu_l G) (xs (j + 1))) q1 ml11_state mv11_state rfl rfl (by decide) (Nat.le_of_ble_eq_true rfl) (Nat.le_of_ble_eq_true rfl) ⟨by omega, by omega⟩ dL_law_548 rfl rfl ?_
  refine lw_a2 X dL_law_551 rfl ?_
  refine lw_ld X hj 1 (by decide) rfl dL_law_552 dL_law_553 dL_law_554 dL_law_555 dL_law_556 rfl ?_
  refine lw_callM (As := [.int (xs (j + 1))]) (rest := [.int a]) X.1 (c12_state (lu_l G) (xs (j + 1))) q2 ml12_state mv12_state rfl rfl (Nat.le_of_ble_eq_true rfl) (Nat.le_of_ble_eq_true rfl) (Nat.le_of_ble_eq_true rfl) ⟨by omega, by omega⟩ dL_law_557 rfl rfl ?_
  refine lw_same X dL_law_560 rfl ?_
  exact lw_I.wide (kk m2 n2 ρ hr2 rfl)
theorem dL_law_565 : decode cL_law 565 = .ok (.aload_n 1, 1) := by decide +kernel
theorem dL_law_566 : decode cL_law 566 = .ok (.aload_n 0, 1) := by decide +kernel
theorem dL_law_567 : decode cL_law 567 = .ok (.iload_n 3, 1) := by decide +kernel
theorem dL_law_568 : decode cL_law 568 = .ok (.iconst 1, 1) := by decide +kernel
theorem dL_law_569 : decode cL_law 569 = .ok (.iadd, 1) := by decide +kernel
theorem dL_law_570 : decode cL_law 570 = .ok (.iaload, 1) := by decide +kernel
theorem dL_law_571 : decode cL_law 571 = .ok (.i2l, 1) := by decide +kernel
theorem dL_law_572 : decode cL_law 572 = .ok (.bipush 32, 2) := by decide +kernel
theorem dL_law_574 : decode cL_law 574 = .ok (.lshl, 1) := by decide +kernel
theorem dL_law_575 : decode cL_law 575 = .ok (.aload_n 0, 1) := by decide +kernel
theorem dL_law_576 : decode cL_law 576 = .ok (.iload_n 3, 1) := by decide +kernel
theorem dL_law_577 : decode cL_law 577 = .ok (.iconst 2, 1) := by decide +kernel
theorem dL_law_578 : decode cL_law 578 = .ok (.iadd, 1) := by decide +kernel
theorem dL_law_579 : decode cL_law 579 = .ok (.iaload, 1) := by decide +kernel
theorem dL_law_580 : decode cL_law 580 = .ok (.i2l, 1) := by decide +kernel
theorem dL_law_581 : decode cL_law 581 = .ok (.ldc2_w 54, 3) := by decide +kernel
theorem dL_law_584 : decode cL_law 584 = .ok (.land, 1) := by decide +kernel
theorem dL_law_585 : decode cL_law 585 = .ok (.lor, 1) := by decide +kernel
theorem dL_law_586 : decode cL_law 586 = .ok (.aload_n 0, 1) := by decide +kernel
theorem dL_law_587 : decode cL_law 587 = .ok (.iload_n 3, 1) := by decide +kernel
theorem dL_law_588 : decode cL_law 588 = .ok (.iconst 3, 1) := by decide +kernel
theorem dL_law_589 : decode cL_law 589 = .ok (.iadd, 1) := by decide +kernel
theorem dL_law_590 : decode cL_law 590 = .ok (.iaload, 1) := by decide +kernel
theorem dL_law_591 : decode cL_law 591 = .ok (.invokevirtual 56, 3) := by decide +kernel
theorem dL_law_594 : decode cL_law 594 = .ok (.aload_n 2, 1) := by decide +kernel
theorem dL_law_595 : decode cL_law 595 = .ok (.aload_n 0, 1) := by decide +kernel
theorem dL_law_596 : decode cL_law 596 = .ok (.iload_n 3, 1) := by decide +kernel
theorem dL_law_597 : decode cL_law 597 = .ok (.iconst 1, 1) := by decide +kernel
theorem dL_law_598 : decode cL_law 598 = .ok (.iadd, 1) := by decide +kernel
theorem dL_law_599 : decode cL_law 599 = .ok (.iaload, 1) := by decide +kernel
theorem dL_law_600 : decode cL_law 600 = .ok (.i2l, 1) := by decide +kernel
theorem dL_law_601 : decode cL_law 601 = .ok (.bipush 32, 2) := by decide +kernel
theorem dL_law_603 : decode cL_law 603 = .ok (.lshl, 1) := by decide +kernel
theorem dL_law_604 : decode cL_law 604 = .ok (.aload_n 0, 1) := by decide +kernel
theorem dL_law_605 : decode cL_law 605 = .ok (.iload_n 3, 1) := by decide +kernel
theorem dL_law_606 : decode cL_law 606 = .ok (.iconst 2, 1) := by decide +kernel
theorem dL_law_607 : decode cL_law 607 = .ok (.iadd, 1) := by decide +kernel
theorem dL_law_608 : decode cL_law 608 = .ok (.iaload, 1) := by decide +kernel
theorem dL_law_609 : decode cL_law 609 = .ok (.i2l, 1) := by decide +kernel
theorem dL_law_610 : decode cL_law 610 = .ok (.ldc2_w 54, 3) := by decide +kernel
theorem dL_law_613 : decode cL_law 613 = .ok (.land, 1) := by decide +kernel
theorem dL_law_614 : decode cL_law 614 = .ok (.lor, 1) := by decide +kernel
theorem dL_law_615 : decode cL_law 615 = .ok (.aload_n 0, 1) := by decide +kernel
theorem dL_law_616 : decode cL_law 616 = .ok (.iload_n 3, 1) := by decide +kernel
theorem dL_law_617 : decode cL_law 617 = .ok (.iconst 3, 1) := by decide +kernel
theorem dL_law_618 : decode cL_law 618 = .ok (.iadd, 1) := by decide +kernel
theorem dL_law_619 : decode cL_law 619 = .ok (.iaload, 1) := by decide +kernel
theorem dL_law_620 : decode cL_law 620 = .ok (.invokevirtual 60, 3) := by decide +kernel
theorem dL_law_623 : decode cL_law 623 = .ok (.if_icmp .eq 1220, 3) := by decide +kernel
theorem lw_k9 {G : lu_G} {Q : State → Prop} {ρ σ : Nat → Nat} {m n : lu_M} {k z b L j : Nat} {xs : Nat → Int32} (X : lw_X G 2000 80000 b L xs) (hj : j + 5 ≤ L) (hr : Rel m n) (hk : k + 6 ≤ (lu_R G).cells ∧ z + 36 ≤ (lu_R G).slots) (kk : ∀ (m2 n2 : lu_M) (ρ2 : Nat → Nat), Rel m2 n2 → ρ2 0 = ρ 0 → lw_I G Q 1843 (lw_lv b (ρ 0) (σ 0) (nI j)) [] ρ2 m2 σ n2 (k + 6) (z + 36)) : lw_I G Q 565 (lw_lv b (ρ 0) (σ 0) (nI j)) [] ρ m σ n k z := by
  refine lw_a1 X dL_law_565 rfl ?_
  refine lw_ld X hj 1 (by decide) rfl dL_law_566 dL_law_567 dL_law_568 dL_law_569 dL_law_570 rfl ?_
  refine lw_lo X ml_long hj dL_law_571 dL_law_572 dL_law_574 dL_law_575 dL_law_576 dL_law_577 dL_law_578 dL_law_579 dL_law_580 dL_law_581 dL_law_584 dL_law_585 rfl rfl ?_
  refine lw_ld X hj 3 (by decide) rfl dL_law_586 dL_law_587 dL_law_588 dL_law_589 dL_law_590 rfl ?_
  obtain ⟨a, m2, n2, q1, q2, hr2⟩ := y_feed (lw_w (xs (j + 1)) (xs (j + 2))) (xs (j + 3)) m n hr
  refine lw_callC (As := [.long (lw_w (xs (j + 1)) (xs (j + 2))), .int (xs (j + 3))]) (rest := []) X.1 (c11_feed (lu_l G) (lw_w (xs (j + 1)) (xs (j + 2))) (xs (j + 3))) q1 ml11_feed mv11_feed rfl rfl (by decide) (Nat.le_of_ble_eq_true rfl) (Nat.le_of_ble_eq_true rfl) ⟨by omega, by omega⟩ dL_law_591 rfl rfl ?_
  refine lw_a2 X dL_law_594 rfl ?_
  refine lw_ld X hj 1 (by decide) rfl dL_law_595 dL_law_596 dL_law_597 dL_law_598 dL_law_599 rfl ?_
  refine lw_lo X ml_long hj dL_law_600 dL_law_601 dL_law_603 dL_law_604 dL_law_605 dL_law_606 dL_law_607 dL_law_608 dL_law_609 dL_law_610 dL_law_613 dL_law_614 rfl rfl ?_
  refine lw_ld X hj 3 (by decide) rfl dL_law_615 dL_law_616 dL_law_617 dL_law_618 dL_law_619 rfl ?_
  refine lw_callM (As := [.long (lw_w (xs (j + 1)) (xs (j + 2))), .int (xs (j + 3))]) (rest := [.int a]) X.1 (c12_feed (lu_l G) (lw_w (xs (j + 1)) (xs (j + 2))) (xs (j + 3))) q2 ml12_feed mv12_feed rfl rfl (Nat.le_of_ble_eq_true rfl) (Nat.le_of_ble_eq_true rfl) (Nat.le_of_ble_eq_true rfl) ⟨by omega, by omega⟩ dL_law_620 rfl rfl ?_
  refine lw_same X dL_law_623 rfl ?_
  exact lw_I.wide (kk m2 n2 ρ hr2 rfl)
