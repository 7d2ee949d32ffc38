set_option maxHeartbeats 4000000 in
set_option maxRecDepth 100000 in
theorem T_X8_book_248 {l : Launch} (hfl : l.stackTraces = false) (fl : Nat) {r : Rs} {ρ : (Int32 × Mem)} (hr : r = (.inr (some (.int ρ.1)), NF, ρ.2)) : ∀ (n : Nat) (v0 : Nat) (v1 : Int32) (v2 : Int32) (v3 : Int32) (v4 : Int32) (v5 : Int32) (v6 : Int32) (v8 : Int32) (s : Mem) (hv0 : shape v0 = some (.inl 10)), B_X8_book_248 fl n v0 v1 v2 v3 v4 v5 v6 v8 s = some ρ → E l X_X8_book r false NF s 0 0 248 [(0, .ref v0), (1, .int v1), (2, .int v2), (3, .int v3), (4, .int v4), (5, .int v5), (6, .int v6), (8, .int v8)] [] := by
  intro n
  induction n with
  | zero =>
    intro v0 v1 v2 v3 v4 v5 v6 v8 s hv0 hF
    cases hF
  | succ n ih =>
    intro v0 v1 v2 v3 v4 v5 v6 v8 s hv0 hF
    refine E_iload (q := 7) rfl dX8_book_248 ?_
    refine E_aload_n (j := 0) (i := 0) (q := 0) rfl rfl dX8_book_250 ?_
    refine gf_RX8_137 rfl hv0 (shape_ord hv0).1 dX8_book_251 ?_
    refine E_icmp_ge (tgt := 335) rfl dX8_book_254 (fun c1 => ?_) (fun c1 => ?_)
    · have hF := ite_t hF c1
      refine E_aload_n (j := 0) (i := 0) (q := 0) rfl rfl dX8_book_335 ?_
      obtain ⟨r2, h3, hF⟩ := bd_inv hF
      have h3 := ldA_inv h3
      refine gf_RX8_9 rfl hv0 (shape_ord hv0).1 h3.1 dX8_book_336 ?_
      refine E_iconst (v := (1 : Int32)) rfl dX8_book_339 ?_
      obtain ⟨h4, hF⟩ := gd_inv hF
      refine E_iald _ h3.2 (shape_ord h3.2).1 h4 dX8_book_340 ?_
      refine E_istore (L' := [(8, .int (gI s r2.1 (1 : Int32).toNatClampNeg)), (0, .ref v0), (1, .int v1), (2, .int v2), (3, .int v3), (4, .int v4), (5, .int v5), (6, .int v6)]) (Nat.le_of_ble_eq_true rfl) rfl dX8_book_341 ?_
      refine E_aload_n (j := 0) (i := 0) (q := 1) rfl rfl dX8_book_343 ?_
      obtain ⟨r5, h6, hF⟩ := bd_inv hF
      have h6 := ldA_inv h6
      refine gf_RX8_9 rfl hv0 (shape_ord hv0).1 h6.1 dX8_book_344 ?_
      refine E_iconst (v := (1 : Int32)) rfl dX8_book_347 ?_
      refine E_dup2 rfl rfl dX8_book_348 ?_
      obtain ⟨h7, hF⟩ := gd_inv hF
      refine E_iald _ h6.2 (shape_ord h6.2).1 h7 dX8_book_349 ?_
      refine E_iconst (v := (1 : Int32)) rfl dX8_book_350 ?_
      refine E_iadd dX8_book_351 ?_
      obtain ⟨h8, hF⟩ := gd_inv hF
      refine E_iast _ h6.2 (shape_ord h6.2).1 h8 dX8_book_352 ?_
      obtain ⟨m9, e10, hF⟩ := nx_inv hF
      refine E_mem e10 ?_
      refine E_aload_n (j := 0) (i := 0) (q := 1) rfl rfl dX8_book_353 ?_
      refine E_iload (q := 0) rfl dX8_book_354 ?_
      refine E_iconst (v := (0 : Int32)) rfl dX8_book_356 ?_
      refine E_iload_n (j := 1) (i := 1) (q := 2) rfl rfl dX8_book_357 ?_
      obtain ⟨q11, h12, hF⟩ := bd_inv hF
      refine E_callV (na := 3) (As := [.int (gI s r2.1 (1 : Int32).toNatClampNeg), .int (0 : Int32), .int v1]) (S := []) (kc := 0) (ks := 0) (ci := 10) rfl rfl hv0 (shape_ord hv0).1 cwV_RX8_174 ⟨Nat.le_of_ble_eq_true rfl, Nat.le_of_ble_eq_true rfl⟩ (T_X8_lays hfl fl _ _ _ _ _ hv0 _ h12) rfl rfl rfl (Nat.le_of_ble_eq_true rfl) dX8_book_358 ?_
      refine E_aload_n (j := 0) (i := 0) (q := 1) rfl rfl dX8_book_361 ?_
      refine E_iload (q := 0) rfl dX8_book_362 ?_
      refine E_iconst (v := (1 : Int32)) rfl dX8_book_364 ?_
      refine E_iload_n (j := 2) (i := 2) (q := 3) rfl rfl dX8_book_365 ?_
      obtain ⟨q13, h14, hF⟩ := bd_inv hF
      refine E_callV (na := 3) (As := [.int (gI s r2.1 (1 : Int32).toNatClampNeg), .int (1 : Int32), .int v2]) (S := []) (kc := 0) (ks := 0) (ci := 10) rfl rfl hv0 (shape_ord hv0).1 cwV_RX8_174 ⟨Nat.le_of_ble_eq_true rfl, Nat.le_of_ble_eq_true rfl⟩ (T_X8_lays hfl fl _ _ _ _ _ hv0 _ h14) rfl rfl rfl (Nat.le_of_ble_eq_true rfl) dX8_book_366 ?_
      refine E_aload_n (j := 0) (i := 0) (q := 1) rfl rfl dX8_book_369 ?_
      refine E_iload (q := 0) rfl dX8_book_370 ?_
      refine E_iconst (v := (2 : Int32)) rfl dX8_book_372 ?_
      refine E_iload_n (j := 3) (i := 3) (q := 4) rfl rfl dX8_book_373 ?_
      obtain ⟨q15, h16, hF⟩ := bd_inv hF
      refine E_callV (na := 3) (As := [.int (gI s r2.1 (1 : Int32).toNatClampNeg), .int (2 : Int32), .int v3]) (S := []) (kc := 0) (ks := 0) (ci := 10) rfl rfl hv0 (shape_ord hv0).1 cwV_RX8_174 ⟨Nat.le_of_ble_eq_true rfl, Nat.le_of_ble_eq_true rfl⟩ (T_X8_lays hfl fl _ _ _ _ _ hv0 _ h16) rfl rfl rfl (Nat.le_of_ble_eq_true rfl) dX8_book_374 ?_
      refine E_aload_n (j := 0) (i := 0) (q := 1) rfl rfl dX8_book_377 ?_
      refine E_iload (q := 0) rfl dX8_book_378 ?_
      refine E_iconst (v := (3 : Int32)) rfl dX8_book_380 ?_
      refine E_iload (q := 5) rfl dX8_book_381 ?_
      obtain ⟨q17, h18, hF⟩ := bd_inv hF
      refine E_callV (na := 3) (As := [.int (gI s r2.1 (1 : Int32).toNatClampNeg), .int (3 : Int32), .int v4]) (S := []) (kc := 0) (ks := 0) (ci := 10) rfl rfl hv0 (shape_ord hv0).1 cwV_RX8_174 ⟨Nat.le_of_ble_eq_true rfl, Nat.le_of_ble_eq_true rfl⟩ (T_X8_lays hfl fl _ _ _ _ _ hv0 _ h18) rfl rfl rfl (Nat.le_of_ble_eq_true rfl) dX8_book_383 ?_
      refine E_aload_n (j := 0) (i := 0) (q := 1) rfl rfl dX8_book_386 ?_
      refine E_iload (q := 0) rfl dX8_book_387 ?_
      refine E_iconst (v := (4 : Int32)) rfl dX8_book_389 ?_
      refine E_iload (q := 6) rfl dX8_book_390 ?_
      obtain ⟨q19, h20, hF⟩ := bd_inv hF
      refine E_callV (na := 3) (As := [.int (gI s r2.1 (1 : Int32).toNatClampNeg), .int (4 : Int32), .int v5]) (S := []) (kc := 0) (ks := 0) (ci := 10) rfl rfl hv0 (shape_ord hv0).1 cwV_RX8_174 ⟨Nat.le_of_ble_eq_true rfl, Nat.le_of_ble_eq_true rfl⟩ (T_X8_lays hfl fl _ _ _ _ _ hv0 _ h20) rfl rfl rfl (Nat.le_of_ble_eq_true rfl) dX8_book_392 ?_
      refine E_aload_n (j := 0) (i := 0) (q := 1) rfl rfl dX8_book_395 ?_
      refine E_iload (q := 0) rfl dX8_book_396 ?_
      refine E_iconst (v := (5 : Int32)) rfl dX8_book_398 ?_
      refine E_iload (q := 7) rfl dX8_book_399 ?_
      obtain ⟨q21, h22, hF⟩ := bd_inv hF
      refine E_callV (na := 3) (As := [.int (gI s r2.1 (1 : Int32).toNatClampNeg), .int (5 : Int32), .int v6]) (S := []) (kc := 0) (ks := 0) (ci := 10) rfl rfl hv0 (shape_ord hv0).1 cwV_RX8_174 ⟨Nat.le_of_ble_eq_true rfl, Nat.le_of_ble_eq_true rfl⟩ (T_X8_lays hfl fl _ _ _ _ _ hv0 _ h22) rfl rfl rfl (Nat.le_of_ble_eq_true rfl) dX8_book_401 ?_
      refine E_aload_n (j := 0) (i := 0) (q := 1) rfl rfl dX8_book_404 ?_
      refine E_iload (q := 0) rfl dX8_book_405 ?_
      refine E_bipush (v := (6 : Int32)) rfl dX8_book_407 ?_
      refine E_aload_n (j := 0) (i := 0) (q := 1) rfl rfl dX8_book_409 ?_
      obtain ⟨r23, h24, hF⟩ := bd_inv hF
      have h24 := ldA_inv h24
      refine gf_RX8_13 rfl hv0 (shape_ord hv0).1 h24.1 dX8_book_410 ?_
      refine E_bipush (v := (12 : Int32)) rfl dX8_book_413 ?_
      obtain ⟨h25, hF⟩ := gd_inv hF
      refine E_iald _ h24.2 (shape_ord h24.2).1 h25 dX8_book_415 ?_
      obtain ⟨q26, h27, hF⟩ := bd_inv hF
      refine E_callV (na := 3) (As := [.int (gI s r2.1 (1 : Int32).toNatClampNeg), .int (6 : Int32), .int (gI q21 r23.1 (12 : Int32).toNatClampNeg)]) (S := []) (kc := 0) (ks := 0) (ci := 10) rfl rfl hv0 (shape_ord hv0).1 cwV_RX8_174 ⟨Nat.le_of_ble_eq_true rfl, Nat.le_of_ble_eq_true rfl⟩ (T_X8_lays hfl fl _ _ _ _ _ hv0 _ h27) rfl rfl rfl (Nat.le_of_ble_eq_true rfl) dX8_book_416 ?_
      refine E_aload_n (j := 0) (i := 0) (q := 1) rfl rfl dX8_book_419 ?_
      refine E_iload (q := 0) rfl dX8_book_420 ?_
      refine E_bipush (v := (7 : Int32)) rfl dX8_book_422 ?_
      refine E_aload_n (j := 0) (i := 0) (q := 1) rfl rfl dX8_book_424 ?_
      refine E_aload_n (j := 0) (i := 0) (q := 1) rfl rfl dX8_book_425 ?_
      obtain ⟨r28, h29, hF⟩ := bd_inv hF
      have h29 := ldA_inv h29
      refine gf_RX8_13 rfl hv0 (shape_ord hv0).1 h29.1 dX8_book_426 ?_
      refine E_bipush (v := (12 : Int32)) rfl dX8_book_429 ?_
      obtain ⟨h30, hF⟩ := gd_inv hF
      refine E_iald _ h29.2 (shape_ord h29.2).1 h30 dX8_book_431 ?_
      refine E_iconst (v := (4 : Int32)) rfl dX8_book_432 ?_
      obtain ⟨q31, h32, hF⟩ := bd_inv hF
      refine E_callV (na := 2) (As := [.int (gI q26 r28.1 (12 : Int32).toNatClampNeg), .int (4 : Int32)]) (S := [.int (7 : Int32), .int (gI s r2.1 (1 : Int32).toNatClampNeg), .ref v0]) (kc := 0) (ks := 0) (ci := 10) rfl rfl hv0 (shape_ord hv0).1 cwV_RX8_63 ⟨Nat.le_of_ble_eq_true rfl, Nat.le_of_ble_eq_true rfl⟩ (T_X8_ofPitch hfl fl _ _ _ _ hv0 _ h32) rfl rfl rfl (Nat.le_of_ble_eq_true rfl) dX8_book_433 ?_
      refine E_iload (q := 5) rfl dX8_book_436 ?_
      refine E_iadd dX8_book_438 ?_
      refine E_iload (q := 7) rfl dX8_book_439 ?_
      refine E_imul dX8_book_441 ?_
      obtain ⟨q33, h34, hF⟩ := bd_inv hF
      refine E_callV (na := 3) (As := [.int (gI s r2.1 (1 : Int32).toNatClampNeg), .int (7 : Int32), .int ((q31 + v4) * v6)]) (S := []) (kc := 0) (ks := 0) (ci := 10) rfl rfl hv0 (shape_ord hv0).1 cwV_RX8_174 ⟨Nat.le_of_ble_eq_true rfl, Nat.le_of_ble_eq_true rfl⟩ (T_X8_lays hfl fl _ _ _ _ _ hv0 _ h34) rfl rfl rfl (Nat.le_of_ble_eq_true rfl) dX8_book_442 ?_
      refine E_aload_n (j := 0) (i := 0) (q := 1) rfl rfl dX8_book_445 ?_
      refine E_iload (q := 0) rfl dX8_book_446 ?_
      refine E_bipush (v := (8 : Int32)) rfl dX8_book_448 ?_
      refine E_iconst (v := (1 : Int32)) rfl dX8_book_450 ?_
      obtain ⟨q35, h36, hF⟩ := bd_inv hF
      refine E_callV (na := 3) (As := [.int (gI s r2.1 (1 : Int32).toNatClampNeg), .int (8 : Int32), .int (1 : Int32)]) (S := []) (kc := 0) (ks := 0) (ci := 10) rfl rfl hv0 (shape_ord hv0).1 cwV_RX8_174 ⟨Nat.le_of_ble_eq_true rfl, Nat.le_of_ble_eq_true rfl⟩ (T_X8_lays hfl fl _ _ _ _ _ hv0 _ h36) rfl rfl rfl (Nat.le_of_ble_eq_true rfl) dX8_book_451 ?_
      refine E_aload_n (j := 0) (i := 0) (q := 1) rfl rfl dX8_book_454 ?_
      refine E_iload (q := 0) rfl dX8_book_455 ?_
      refine E_bipush (v := (9 : Int32)) rfl dX8_book_457 ?_
      refine E_iconst (v := (0 : Int32)) rfl dX8_book_459 ?_
      obtain ⟨q37, h38, hF⟩ := bd_inv hF
      refine E_callV (na := 3) (As := [.int (gI s r2.1 (1 : Int32).toNatClampNeg), .int (9 : Int32), .int (0 : Int32)]) (S := []) (kc := 0) (ks := 0) (ci := 10) rfl rfl hv0 (shape_ord hv0).1 cwV_RX8_174 ⟨Nat.le_of_ble_eq_true rfl, Nat.le_of_ble_eq_true rfl⟩ (T_X8_lays hfl fl _ _ _ _ _ hv0 _ h38) rfl rfl rfl (Nat.le_of_ble_eq_true rfl) dX8_book_460 ?_
      refine E_iload (q := 0) rfl dX8_book_463 ?_
      exact E_iret (Or.inl rfl) rfl (by cases hF; exact hr) dX8_book_465
    · have hF := ite_f hF c1
      refine E_aload_n (j := 0) (i := 0) (q := 0) rfl rfl dX8_book_257 ?_
      obtain ⟨r39, h40, hF⟩ := bd_inv hF
      have h40 := ldA_inv h40
      refine gf_RX8_25 rfl hv0 (shape_ord hv0).1 h40.1 dX8_book_258 ?_
      refine E_iload (q := 7) rfl dX8_book_261 ?_
      obtain ⟨h41, hF⟩ := gd_inv hF
      refine E_iald _ h40.2 (shape_ord h40.2).1 h41 dX8_book_263 ?_
      refine E_istore (L' := [(9, .int (gI s r39.1 v8.toNatClampNeg)), (0, .ref v0), (1, .int v1), (2, .int v2), (3, .int v3), (4, .int v4), (5, .int v5), (6, .int v6), (8, .int v8)]) (Nat.le_of_ble_eq_true rfl) rfl dX8_book_264 ?_
      refine E_aload_n (j := 0) (i := 0) (q := 1) rfl rfl dX8_book_266 ?_
      obtain ⟨r42, h43, hF⟩ := bd_inv hF
      have h43 := ldA_inv h43
      refine gf_RX8_31 rfl hv0 (shape_ord hv0).1 h43.1 dX8_book_267 ?_
      refine E_iconst (v := (3 : Int32)) rfl dX8_book_270 ?_
      refine E_iload (q := 8) rfl dX8_book_271 ?_
      refine E_imul dX8_book_273 ?_
      refine E_iload (q := 0) rfl dX8_book_274 ?_
      obtain ⟨h44, hF⟩ := gd_inv hF
      refine E_iast _ h43.2 (shape_ord h43.2).1 h44 dX8_book_276 ?_
      obtain ⟨m45, e46, hF⟩ := nx_inv hF
      refine E_mem e46 ?_
      refine E_aload_n (j := 0) (i := 0) (q := 1) rfl rfl dX8_book_277 ?_
      obtain ⟨r47, h48, hF⟩ := bd_inv hF
      have h48 := ldA_inv h48
      refine gf_RX8_31 rfl hv0 (shape_ord hv0).1 h48.1 dX8_book_278 ?_
      refine E_iconst (v := (3 : Int32)) rfl dX8_book_281 ?_
      refine E_iload (q := 8) rfl dX8_book_282 ?_
      refine E_imul dX8_book_284 ?_
      refine E_iconst (v := (1 : Int32)) rfl dX8_book_285 ?_
      refine E_iadd dX8_book_286 ?_
      refine E_aload_n (j := 0) (i := 0) (q := 1) rfl rfl dX8_book_287 ?_
      refine E_iload (q := 0) rfl dX8_book_288 ?_
      refine E_bipush (v := (6 : Int32)) rfl dX8_book_290 ?_
      obtain ⟨q49, h50, hF⟩ := bd_inv hF
      refine E_callV (na := 2) (As := [.int (gI s r39.1 v8.toNatClampNeg), .int (6 : Int32)]) (S := [.int (((3 : Int32) * v8) + (1 : Int32)), .ref r47.1]) (kc := 0) (ks := 0) (ci := 10) rfl rfl hv0 (shape_ord hv0).1 cwV_RX8_97 ⟨Nat.le_of_ble_eq_true rfl, Nat.le_of_ble_eq_true rfl⟩ (T_X8_of hfl fl _ _ _ _ hv0 _ h50) rfl rfl rfl (Nat.le_of_ble_eq_true rfl) dX8_book_292 ?_
      obtain ⟨h51, hF⟩ := gd_inv hF
      refine E_iast _ h48.2 (shape_ord h48.2).1 h51 dX8_book_295 ?_
      obtain ⟨m52, e53, hF⟩ := nx_inv hF
      refine E_mem e53 ?_
      refine E_aload_n (j := 0) (i := 0) (q := 1) rfl rfl dX8_book_296 ?_
      obtain ⟨r54, h55, hF⟩ := bd_inv hF
      have h55 := ldA_inv h55
      refine gf_RX8_31 rfl hv0 (shape_ord hv0).1 h55.1 dX8_book_297 ?_
      refine E_iconst (v := (3 : Int32)) rfl dX8_book_300 ?_
      refine E_iload (q := 8) rfl dX8_book_301 ?_
      refine E_imul dX8_book_303 ?_
      refine E_iconst (v := (2 : Int32)) rfl dX8_book_304 ?_
      refine E_iadd dX8_book_305 ?_
      refine E_aload_n (j := 0) (i := 0) (q := 1) rfl rfl dX8_book_306 ?_
      obtain ⟨r56, h57, hF⟩ := bd_inv hF
      have h57 := ldA_inv h57
      refine gf_RX8_13 rfl hv0 (shape_ord hv0).1 h57.1 dX8_book_307 ?_
      refine E_iload (q := 0) rfl dX8_book_310 ?_
      obtain ⟨h58, hF⟩ := gd_inv hF
      refine E_iald _ h57.2 (shape_ord h57.2).1 h58 dX8_book_312 ?_
      obtain ⟨h59, hF⟩ := gd_inv hF
      refine E_iast _ h55.2 (shape_ord h55.2).1 h59 dX8_book_313 ?_
      obtain ⟨m60, e61, hF⟩ := nx_inv hF
      refine E_mem e61 ?_
      refine E_aload_n (j := 0) (i := 0) (q := 1) rfl rfl dX8_book_314 ?_
      refine E_iload (q := 0) rfl dX8_book_315 ?_
      refine E_bipush (v := (6 : Int32)) rfl dX8_book_317 ?_
      refine E_aload_n (j := 0) (i := 0) (q := 1) rfl rfl dX8_book_319 ?_
      obtain ⟨r62, h63, hF⟩ := bd_inv hF
      have h63 := ldA_inv h63
      refine gf_RX8_13 rfl hv0 (shape_ord hv0).1 h63.1 dX8_book_320 ?_
      refine E_iload (q := 0) rfl dX8_book_323 ?_
      obtain ⟨h64, hF⟩ := gd_inv hF
      refine E_iald _ h63.2 (shape_ord h63.2).1 h64 dX8_book_325 ?_
      obtain ⟨q65, h66, hF⟩ := bd_inv hF
      refine E_callV (na := 3) (As := [.int (gI s r39.1 v8.toNatClampNeg), .int (6 : Int32), .int (gI m60 r62.1 (gI s r39.1 v8.toNatClampNeg).toNatClampNeg)]) (S := []) (kc := 0) (ks := 0) (ci := 10) rfl rfl hv0 (shape_ord hv0).1 cwV_RX8_174 ⟨Nat.le_of_ble_eq_true rfl, Nat.le_of_ble_eq_true rfl⟩ (T_X8_lays hfl fl _ _ _ _ _ hv0 _ h66) rfl rfl rfl (Nat.le_of_ble_eq_true rfl) dX8_book_326 ?_
      refine E_iinc (q := 8) (v := (v8 + (1 : Int32))) (L' := [(8, .int (v8 + (1 : Int32))), (9, .int (gI s r39.1 v8.toNatClampNeg)), (0, .ref v0), (1, .int v1), (2, .int v2), (3, .int v3), (4, .int v4), (5, .int v5), (6, .int v6)]) rfl rfl (Nat.le_of_ble_eq_true rfl) rfl dX8_book_329 ?_
      refine E_goto (tgt := 248) rfl dX8_book_332 ?_
      refine E_sub [2, 3, 4, 5, 6, 7, 8, 0] rfl ?_
      exact ih _ _ _ _ _ _ _ _ _ hv0 hF
set_option maxHeartbeats 4000000 in
set_option maxRecDepth 100000 in
theorem T_X8_book_222 {l : Launch} (hfl : l.stackTraces = false) (fl : Nat) {r : Rs} {ρ : (Int32 × Mem)} (hr : r = (.inr (some (.int ρ.1)), NF, ρ.2)) {k181 : Nat → Int32 → Int32 → Int32 → Int32 → Mem → Option (Int32 × Mem)} (hk181 : ∀ (v0 : Nat) (v1 : Int32) (v2 : Int32) (v3 : Int32) (v8 : Int32) (s : Mem) (hv0 : shape v0 = some (.inl 10)), k181 v0 v1 v2 v3 v8 s = some ρ → E l X_X8_book r false NF s 0 0 181 [(0, .ref v0), (1, .int v1), (2, .int v2), (3, .int v3), (8, .int v8)] []) (v0 : Nat) (v1 : Int32) (v2 : Int32) (v3 : Int32) (v8 : Int32) (w0 : Nat) (w1 : Int32) (s : Mem) (hv0 : shape v0 = some (.inl 10)) (hw0 : shape w0 = some (.inl 10)) (hF : B_X8_book_222 k181 fl v0 v1 v2 v3 v8 w0 w1 s = some ρ) : E l X_X8_book r false NF s 0 0 222 [(0, .ref v0), (1, .int v1), (2, .int v2), (3, .int v3), (8, .int v8)] [.int w1, .ref w0] := by
  unfold B_X8_book_222 at hF
  refine pf_RX8_164 rfl hw0 (shape_ord hw0).1 dX8_book_222 ?_
  obtain ⟨m67, e68, hF⟩ := nx_inv hF
  refine E_mem e68 ?_
  refine E_iinc (q := 4) (v := (v8 + (1 : Int32))) (L' := [(8, .int (v8 + (1 : Int32))), (0, .ref v0), (1, .int v1), (2, .int v2), (3, .int v3)]) rfl rfl (Nat.le_of_ble_eq_true rfl) rfl dX8_book_225 ?_
  refine E_goto (tgt := 181) rfl dX8_book_228 ?_
  refine E_sub [1, 2, 3, 4, 0] rfl ?_
  exact hk181 _ _ _ _ _ _ hv0 hF
set_option maxHeartbeats 4000000 in
set_option maxRecDepth 100000 in
theorem T_X8_book_181 {l : Launch} (hfl : l.stackTraces = false) (fl : Nat) {r : Rs} {ρ : (Int32 × Mem)} (hr : r = (.inr (some (.int ρ.1)), NF, ρ.2)) : ∀ (n : Nat) (v0 : Nat) (v1 : Int32) (v2 : Int32) (v3 : Int32) (v8 : Int32) (s : Mem) (hv0 : shape v0 = some (.inl 10)), B_X8_book_181 fl n v0 v1 v2 v3 v8 s = some ρ → E l X_X8_book r false NF s 0 0 181 [(0, .ref v0), (1, .int v1), (2, .int v2), (3, .int v3), (8, .int v8)] [] := by
  intro n
  induction n with
  | zero =>
    intro v0 v1 v2 v3 v8 s hv0 hF
    cases hF
  | succ n ih =>
    intro v0 v1 v2 v3 v8 s hv0 hF
    refine E_iload (q := 4) rfl dX8_book_181 ?_
    refine E_aload_n (j := 0) (i := 0) (q := 0) rfl rfl dX8_book_183 ?_
    obtain ⟨r69, h70, hF⟩ := bd_inv hF
    have h70 := ldA_inv h70
    refine gf_RX8_9 rfl hv0 (shape_ord hv0).1 h70.1 dX8_book_184 ?_
    refine E_iconst (v := (0 : Int32)) rfl dX8_book_187 ?_
    obtain ⟨h71, hF⟩ := gd_inv hF
    refine E_iald _ h70.2 (shape_ord h70.2).1 h71 dX8_book_188 ?_
    refine E_icmp_ge (tgt := 231) rfl dX8_book_189 (fun c72 => ?_) (fun c72 => ?_)
    · have hF := ite_t hF c72
      refine E_iconst (v := (0 : Int32)) rfl dX8_book_231 ?_
      exact E_iret (Or.inl rfl) rfl (by cases hF; exact hr) dX8_book_232
    · have hF := ite_f hF c72
      refine E_aload_n (j := 0) (i := 0) (q := 0) rfl rfl dX8_book_192 ?_
      refine E_iload_n (j := 1) (i := 1) (q := 1) rfl rfl dX8_book_193 ?_
      refine E_iload_n (j := 2) (i := 2) (q := 2) rfl rfl dX8_book_194 ?_
      refine E_iload_n (j := 3) (i := 3) (q := 3) rfl rfl dX8_book_195 ?_
      refine E_iload (q := 4) rfl dX8_book_196 ?_
      obtain ⟨q73, h74, hF⟩ := bd_inv hF
      refine E_callV (na := 4) (As := [.int v1, .int v2, .int v3, .int v8]) (S := []) (kc := 0) (ks := 0) (ci := 10) rfl rfl hv0 (shape_ord hv0).1 cwV_RX8_167 ⟨Nat.le_of_ble_eq_true rfl, Nat.le_of_ble_eq_true rfl⟩ (T_X8_obstacleOf hfl fl _ _ _ _ _ _ hv0 _ h74) rfl rfl rfl (Nat.le_of_ble_eq_true rfl) dX8_book_198 ?_
      refine E_istore (L' := [(9, .int q73.1), (0, .ref v0), (1, .int v1), (2, .int v2), (3, .int v3), (8, .int v8)]) (Nat.le_of_ble_eq_true rfl) rfl dX8_book_201 ?_
      refine E_aload_n (j := 0) (i := 0) (q := 1) rfl rfl dX8_book_203 ?_
      refine E_iload (q := 0) rfl dX8_book_204 ?_
      refine E_aload_n (j := 0) (i := 0) (q := 1) rfl rfl dX8_book_206 ?_
      refine gf_RX8_164 rfl hv0 (shape_ord hv0).1 dX8_book_207 ?_
      refine E_icmp_le (tgt := 218) rfl dX8_book_210 (fun c75 => ?_) (fun c75 => ?_)
      · have hF := ite_t hF c75
        refine E_aload_n (j := 0) (i := 0) (q := 1) rfl rfl dX8_book_218 ?_
        refine gf_RX8_164 rfl hv0 (shape_ord hv0).1 dX8_book_219 ?_
        refine E_sub [1, 2, 3, 4, 5] rfl ?_
        exact T_X8_book_222 hfl fl hr ih _ _ _ _ _ _ _ _ hv0 hv0 hF
      · have hF := ite_f hF c75
        refine E_iload (q := 0) rfl dX8_book_213 ?_
        refine E_goto (tgt := 222) rfl dX8_book_215 ?_
        refine E_sub [1, 2, 3, 4, 5] rfl ?_
        exact T_X8_book_222 hfl fl hr ih _ _ _ _ _ _ _ _ hv0 hv0 hF
set_option maxHeartbeats 4000000 in
set_option maxRecDepth 100000 in
theorem T_X8_book_116 {l : Launch} (hfl : l.stackTraces = false) (fl : Nat) {r : Rs} {ρ : (Int32 × Mem)} (hr : r = (.inr (some (.int ρ.1)), NF, ρ.2)) (v0 : Nat) (v1 : Int32) (v2 : Int32) (v3 : Int32) (v4 : Int32) (v5 : Int32) (v6 : Int32) (w0 : Nat) (w1 : Int32) (s : Mem) (hv0 : shape v0 = some (.inl 10)) (hw0 : shape w0 = some (.inl 10)) (hF : B_X8_book_116 fl v0 v1 v2 v3 v4 v5 v6 w0 w1 s = some ρ) : E l X_X8_book r false NF s 0 0 116 [(0, .ref v0), (1, .int v1), (2, .int v2), (3, .int v3), (4, .int v4), (5, .int v5), (6, .int v6)] [.int w1, .ref w0] := by
  unfold B_X8_book_116 at hF
  refine pf_RX8_42 rfl hw0 (shape_ord hw0).1 dX8_book_116 ?_
  obtain ⟨m76, e77, hF⟩ := nx_inv hF
  refine E_mem e77 ?_
  refine E_aload_n (j := 0) (i := 0) (q := 0) rfl rfl dX8_book_119 ?_
  refine gf_RX8_42 rfl hv0 (shape_ord hv0).1 dX8_book_120 ?_
  refine E_if_eq (tgt := 128) rfl dX8_book_123 (fun c78 => ?_) (fun c78 => ?_)
  · have hF := ite_t hF c78
    refine E_aload_n (j := 0) (i := 0) (q := 0) rfl rfl dX8_book_128 ?_
    refine E_iconst (v := (-1 : Int32)) rfl dX8_book_129 ?_
    obtain ⟨q79, h80, hF⟩ := bd_inv hF
    refine E_callV (na := 1) (As := [.int (-1 : Int32)]) (S := []) (kc := 0) (ks := 0) (ci := 10) rfl rfl hv0 (shape_ord hv0).1 cwV_RX8_67 ⟨Nat.le_of_ble_eq_true rfl, Nat.le_of_ble_eq_true rfl⟩ (T_X8_loads hfl fl _ _ _ hv0 _ h80) rfl rfl rfl (Nat.le_of_ble_eq_true rfl) dX8_book_130 ?_
    refine E_aload_n (j := 0) (i := 0) (q := 0) rfl rfl dX8_book_133 ?_
    refine E_iload (q := 4) rfl dX8_book_134 ?_
    refine E_iload (q := 5) rfl dX8_book_136 ?_
    refine E_iload (q := 6) rfl dX8_book_138 ?_
    obtain ⟨q81, h82, hF⟩ := bd_inv hF
    refine E_callV (na := 3) (As := [.int v4, .int v5, .int v6]) (S := []) (kc := 0) (ks := 0) (ci := 10) rfl rfl hv0 (shape_ord hv0).1 cwV_RX8_157 ⟨Nat.le_of_ble_eq_true rfl, Nat.le_of_ble_eq_true rfl⟩ (T_X8_comes hfl fl _ _ _ _ _ hv0 _ h82) rfl rfl rfl (Nat.le_of_ble_eq_true rfl) dX8_book_140 ?_
    refine E_aload_n (j := 0) (i := 0) (q := 0) rfl rfl dX8_book_143 ?_
    refine E_iload_n (j := 1) (i := 1) (q := 1) rfl rfl dX8_book_144 ?_
    refine E_iload_n (j := 2) (i := 2) (q := 2) rfl rfl dX8_book_145 ?_
    refine E_iload_n (j := 3) (i := 3) (q := 3) rfl rfl dX8_book_146 ?_
    obtain ⟨q83, h84, hF⟩ := bd_inv hF
    refine E_callV (na := 3) (As := [.int v1, .int v2, .int v3]) (S := []) (kc := 0) (ks := 0) (ci := 10) rfl rfl hv0 (shape_ord hv0).1 cwV_RX8_161 ⟨Nat.le_of_ble_eq_true rfl, Nat.le_of_ble_eq_true rfl⟩ (T_X8_finds hfl fl _ _ _ _ _ hv0 _ h84) rfl rfl rfl (Nat.le_of_ble_eq_true rfl) dX8_book_147 ?_
    refine E_if_ne (tgt := 233) rfl dX8_book_150 (fun c85 => ?_) (fun c85 => ?_)
    · have hF := ite_f hF c85
      refine E_aload_n (j := 0) (i := 0) (q := 0) rfl rfl dX8_book_233 ?_
      obtain ⟨q86, h87, hF⟩ := bd_inv hF
      refine E_callV (na := 0) (As := []) (S := []) (kc := 0) (ks := 0) (ci := 10) rfl rfl hv0 (shape_ord hv0).1 cwV_RX8_56 ⟨Nat.le_of_ble_eq_true rfl, Nat.le_of_ble_eq_true rfl⟩ (T_X8_keeps hfl fl _ _ hv0 _ h87) rfl rfl rfl (Nat.le_of_ble_eq_true rfl) dX8_book_234 ?_
      refine E_aload_n (j := 0) (i := 0) (q := 0) rfl rfl dX8_book_237 ?_
      refine E_aload_n (j := 0) (i := 0) (q := 0) rfl rfl dX8_book_238 ?_
      refine gf_RX8_137 rfl hv0 (shape_ord hv0).1 dX8_book_239 ?_
      refine pf_RX8_171 rfl hv0 (shape_ord hv0).1 dX8_book_242 ?_
      obtain ⟨m88, e89, hF⟩ := nx_inv hF
      refine E_mem e89 ?_
      refine E_iconst (v := (0 : Int32)) rfl dX8_book_245 ?_
      refine E_istore (L' := [(8, .int (0 : Int32)), (0, .ref v0), (1, .int v1), (2, .int v2), (3, .int v3), (4, .int v4), (5, .int v5), (6, .int v6)]) (Nat.le_of_ble_eq_true rfl) rfl dX8_book_246 ?_
      refine E_sub [1, 2, 3, 4, 5, 6, 7, 0] rfl ?_
      exact T_X8_book_248 hfl fl hr  fl _ _ _ _ _ _ _ _ _ hv0 hF
    · have hF := ite_t hF c85
      refine E_aload_n (j := 0) (i := 0) (q := 0) rfl rfl dX8_book_153 ?_
      refine E_iconst (v := (3 : Int32)) rfl dX8_book_154 ?_
      refine pf_RX8_42 rfl hv0 (shape_ord hv0).1 dX8_book_155 ?_
      obtain ⟨m90, e91, hF⟩ := nx_inv hF
      refine E_mem e91 ?_
      refine E_aload_n (j := 0) (i := 0) (q := 0) rfl rfl dX8_book_158 ?_
      refine E_iconst (v := (-1 : Int32)) rfl dX8_book_159 ?_
      obtain ⟨q92, h93, hF⟩ := bd_inv hF
      refine E_callV (na := 1) (As := [.int (-1 : Int32)]) (S := []) (kc := 0) (ks := 0) (ci := 10) rfl rfl hv0 (shape_ord hv0).1 cwV_RX8_67 ⟨Nat.le_of_ble_eq_true rfl, Nat.le_of_ble_eq_true rfl⟩ (T_X8_loads hfl fl _ _ _ hv0 _ h93) rfl rfl rfl (Nat.le_of_ble_eq_true rfl) dX8_book_160 ?_
      refine E_aload_n (j := 0) (i := 0) (q := 0) rfl rfl dX8_book_163 ?_
      refine E_iload (q := 4) rfl dX8_book_164 ?_
      refine E_iload (q := 5) rfl dX8_book_166 ?_
      refine E_iload (q := 6) rfl dX8_book_168 ?_
      obtain ⟨q94, h95, hF⟩ := bd_inv hF
      refine E_callV (na := 3) (As := [.int v4, .int v5, .int v6]) (S := []) (kc := 0) (ks := 0) (ci := 10) rfl rfl hv0 (shape_ord hv0).1 cwV_RX8_157 ⟨Nat.le_of_ble_eq_true rfl, Nat.le_of_ble_eq_true rfl⟩ (T_X8_comes hfl fl _ _ _ _ _ hv0 _ h95) rfl rfl rfl (Nat.le_of_ble_eq_true rfl) dX8_book_170 ?_
      refine E_aload_n (j := 0) (i := 0) (q := 0) rfl rfl dX8_book_173 ?_
      refine E_iconst (v := (1 : Int32)) rfl dX8_book_174 ?_
      refine pf_RX8_164 rfl hv0 (shape_ord hv0).1 dX8_book_175 ?_
      obtain ⟨m96, e97, hF⟩ := nx_inv hF
      refine E_mem e97 ?_
      refine E_iconst (v := (0 : Int32)) rfl dX8_book_178 ?_
      refine E_istore (L' := [(8, .int (0 : Int32)), (0, .ref v0), (1, .int v1), (2, .int v2), (3, .int v3), (4, .int v4), (5, .int v5), (6, .int v6)]) (Nat.le_of_ble_eq_true rfl) rfl dX8_book_179 ?_
      refine E_sub [1, 2, 3, 4, 0] rfl ?_
      exact T_X8_book_181 hfl fl hr  fl _ _ _ _ _ _ hv0 hF
  · have hF := ite_f hF c78
    refine E_iconst (v := (0 : Int32)) rfl dX8_book_126 ?_
    exact E_iret (Or.inl rfl) rfl (by cases hF; exact hr) dX8_book_127
set_option maxHeartbeats 4000000 in
set_option maxRecDepth 100000 in
theorem T_X8_book_88 {l : Launch} (hfl : l.stackTraces = false) (fl : Nat) {r : Rs} {ρ : (Int32 × Mem)} (hr : r = (.inr (some (.int ρ.1)), NF, ρ.2)) (v0 : Nat) (v1 : Int32) (v2 : Int32) (v3 : Int32) (v4 : Int32) (v5 : Int32) (v6 : Int32) (w0 : Int32) (s : Mem) (hv0 : shape v0 = some (.inl 10)) (hF : B_X8_book_88 fl v0 v1 v2 v3 v4 v5 v6 w0 s = some ρ) : E l X_X8_book r false NF s 0 0 88 [(0, .ref v0), (1, .int v1), (2, .int v2), (3, .int v3), (4, .int v4), (5, .int v5), (6, .int v6)] [.int w0] := by
  unfold B_X8_book_88 at hF
  refine E_istore (L' := [(7, .int w0), (0, .ref v0), (1, .int v1), (2, .int v2), (3, .int v3), (4, .int v4), (5, .int v5), (6, .int v6)]) (Nat.le_of_ble_eq_true rfl) rfl dX8_book_88 ?_
  refine E_aload_n (j := 0) (i := 0) (q := 1) rfl rfl dX8_book_90 ?_
  refine E_iload (q := 0) rfl dX8_book_91 ?_
  refine E_if_ne (tgt := 100) rfl dX8_book_93 (fun c98 => ?_) (fun c98 => ?_)
  · have hF := ite_f hF c98
    refine E_aload_n (j := 0) (i := 0) (q := 1) rfl rfl dX8_book_100 ?_
    obtain ⟨r99, h100, hF⟩ := bd_inv hF
    have h100 := ldA_inv h100
    refine gf_RX8_9 rfl hv0 (shape_ord hv0).1 h100.1 dX8_book_101 ?_
    refine E_iconst (v := (1 : Int32)) rfl dX8_book_104 ?_
    obtain ⟨h101, hF⟩ := gd_inv hF
    refine E_iald _ h100.2 (shape_ord h100.2).1 h101 dX8_book_105 ?_
    refine E_bipush (v := (12 : Int32)) rfl dX8_book_106 ?_
    refine E_icmp_ne (tgt := 115) rfl dX8_book_108 (fun c102 => ?_) (fun c102 => ?_)
    · have hF := ite_f hF c102
      refine E_iconst (v := (0 : Int32)) rfl dX8_book_115 ?_
      refine E_sub [1, 2, 3, 4, 5, 6, 7] rfl ?_
      exact T_X8_book_116 hfl fl hr  _ _ _ _ _ _ _ _ _ _ hv0 hv0 hF
    · have hF := ite_t hF c102
      refine E_iconst (v := (2 : Int32)) rfl dX8_book_111 ?_
      refine E_goto (tgt := 116) rfl dX8_book_112 ?_
      refine E_sub [1, 2, 3, 4, 5, 6, 7] rfl ?_
      exact T_X8_book_116 hfl fl hr  _ _ _ _ _ _ _ _ _ _ hv0 hv0 hF
  · have hF := ite_t hF c98
    refine E_iconst (v := (1 : Int32)) rfl dX8_book_96 ?_
    refine E_goto (tgt := 116) rfl dX8_book_97 ?_
    refine E_sub [1, 2, 3, 4, 5, 6, 7] rfl ?_
    exact T_X8_book_116 hfl fl hr  _ _ _ _ _ _ _ _ _ _ hv0 hv0 hF
set_option maxHeartbeats 4000000 in
set_option maxRecDepth 100000 in
theorem T_X8_book_87 {l : Launch} (hfl : l.stackTraces = false) (fl : Nat) {r : Rs} {ρ : (Int32 × Mem)} (hr : r = (.inr (some (.int ρ.1)), NF, ρ.2)) (v0 : Nat) (v1 : Int32) (v2 : Int32) (v3 : Int32) (v4 : Int32) (v5 : Int32) (v6 : Int32) (s : Mem) (hv0 : shape v0 = some (.inl 10)) (hF : B_X8_book_87 fl v0 v1 v2 v3 v4 v5 v6 s = some ρ) : E l X_X8_book r false NF s 0 0 87 [(0, .ref v0), (1, .int v1), (2, .int v2), (3, .int v3), (4, .int v4), (5, .int v5), (6, .int v6)] [] := by
  unfold B_X8_book_87 at hF
  refine E_iconst (v := (0 : Int32)) rfl dX8_book_87 ?_
  refine E_sub [0, 1, 2, 3, 4, 5, 6] rfl ?_
  exact T_X8_book_88 hfl fl hr  _ _ _ _ _ _ _ _ _ hv0 hF
set_option maxHeartbeats 4000000 in
set_option maxRecDepth 100000 in
theorem T_X8_book {l : Launch} (hfl : l.stackTraces = false) (fl : Nat) (v0 : Nat) (v1 : Int32) (v2 : Int32) (v3 : Int32) (v4 : Int32) (v5 : Int32) (v6 : Int32) (s : Mem) (hv0 : shape v0 = some (.inl 10)) (ρ : (Int32 × Mem)) (hF : F_X8_book fl v0 v1 v2 v3 v4 v5 v6 s = some ρ) : MetN l X_X8_book false NF s [.ref v0, .int v1, .int v2, .int v3, .int v4, .int v5, .int v6] (.inr (some (.int ρ.1)), NF, ρ.2) := by
  unfold F_X8_book at hF
  obtain ⟨r, hr⟩ : ∃ r : Rs, r = (.inr (some (.int ρ.1)), NF, ρ.2) := ⟨_, rfl⟩
  rw [← hr]
  refine met_of_E rfl rfl (by decide +kernel) hfl rfl (Nat.le_of_ble_eq_true rfl) ?_
  show E l X_X8_book r false NF s 0 0 0 [(0, .ref v0), (1, .int v1), (2, .int v2), (3, .int v3), (4, .int v4), (5, .int v5), (6, .int v6)] []
  refine E_iload_n (j := 1) (i := 1) (q := 1) rfl rfl dX8_book_0 ?_
  refine E_iconst (v := (0 : Int32)) rfl dX8_book_1 ?_
  refine E_iconst (v := (2 : Int32)) rfl dX8_book_2 ?_
  obtain ⟨q103, h104, hF⟩ := bd_inv hF
  refine E_callS (na := 3) (As := [.int v1, .int (0 : Int32), .int (2 : Int32)]) (S := []) (kc := 0) (ks := 0) cwS_RX8_52 ⟨Nat.le_of_ble_eq_true rfl, Nat.le_of_ble_eq_true rfl⟩ (T_X8_in hfl fl _ _ _ _  _ h104) rfl rfl rfl (Nat.le_of_ble_eq_true rfl) dX8_book_3 ?_
  refine E_if_eq (tgt := 87) rfl dX8_book_6 (fun c105 => ?_) (fun c105 => ?_)
  · have hF := ite_t hF c105
    refine E_sub [0, 1, 2, 3, 4, 5, 6] rfl ?_
    exact T_X8_book_87 hfl fl hr  _ _ _ _ _ _ _ _ hv0 hF
  · have hF := ite_f hF c105
    refine E_iload_n (j := 2) (i := 2) (q := 2) rfl rfl dX8_book_9 ?_
    refine E_iconst (v := (1 : Int32)) rfl dX8_book_10 ?_
    refine E_bipush (v := (12 : Int32)) rfl dX8_book_11 ?_
    obtain ⟨q106, h107, hF⟩ := bd_inv hF
    refine E_callS (na := 3) (As := [.int v2, .int (1 : Int32), .int (12 : Int32)]) (S := []) (kc := 0) (ks := 0) cwS_RX8_52 ⟨Nat.le_of_ble_eq_true rfl, Nat.le_of_ble_eq_true rfl⟩ (T_X8_in hfl fl _ _ _ _  _ h107) rfl rfl rfl (Nat.le_of_ble_eq_true rfl) dX8_book_13 ?_
    refine E_if_eq (tgt := 87) rfl dX8_book_16 (fun c108 => ?_) (fun c108 => ?_)
    · have hF := ite_t hF c108
      refine E_sub [0, 1, 2, 3, 4, 5, 6] rfl ?_
      exact T_X8_book_87 hfl fl hr  _ _ _ _ _ _ _ _ hv0 hF
    · have hF := ite_f hF c108
      refine E_iload_n (j := 3) (i := 3) (q := 3) rfl rfl dX8_book_19 ?_
      refine E_iconst (v := (1 : Int32)) rfl dX8_book_20 ?_
      refine E_bipush (v := (12 : Int32)) rfl dX8_book_21 ?_
      obtain ⟨q109, h110, hF⟩ := bd_inv hF
      refine E_callS (na := 3) (As := [.int v3, .int (1 : Int32), .int (12 : Int32)]) (S := []) (kc := 0) (ks := 0) cwS_RX8_52 ⟨Nat.le_of_ble_eq_true rfl, Nat.le_of_ble_eq_true rfl⟩ (T_X8_in hfl fl _ _ _ _  _ h110) rfl rfl rfl (Nat.le_of_ble_eq_true rfl) dX8_book_23 ?_
      refine E_if_eq (tgt := 87) rfl dX8_book_26 (fun c111 => ?_) (fun c111 => ?_)
      · have hF := ite_t hF c111
        refine E_sub [0, 1, 2, 3, 4, 5, 6] rfl ?_
        exact T_X8_book_87 hfl fl hr  _ _ _ _ _ _ _ _ hv0 hF
      · have hF := ite_f hF c111
        refine E_iload (q := 4) rfl dX8_book_29 ?_
        refine E_iconst (v := (0 : Int32)) rfl dX8_book_31 ?_
        refine E_bipush (v := (16 : Int32)) rfl dX8_book_32 ?_
        obtain ⟨q112, h113, hF⟩ := bd_inv hF
        refine E_callS (na := 3) (As := [.int v4, .int (0 : Int32), .int (16 : Int32)]) (S := []) (kc := 0) (ks := 0) cwS_RX8_52 ⟨Nat.le_of_ble_eq_true rfl, Nat.le_of_ble_eq_true rfl⟩ (T_X8_in hfl fl _ _ _ _  _ h113) rfl rfl rfl (Nat.le_of_ble_eq_true rfl) dX8_book_34 ?_
        refine E_if_eq (tgt := 87) rfl dX8_book_37 (fun c114 => ?_) (fun c114 => ?_)
        · have hF := ite_t hF c114
          refine E_sub [0, 1, 2, 3, 4, 5, 6] rfl ?_
          exact T_X8_book_87 hfl fl hr  _ _ _ _ _ _ _ _ hv0 hF
        · have hF := ite_f hF c114
          refine E_iload (q := 5) rfl dX8_book_40 ?_
          obtain ⟨q115, h116, hF⟩ := bd_inv hF
          refine E_callS (na := 1) (As := [.int v5]) (S := []) (kc := 0) (ks := 0) cwS_RX8_88 ⟨Nat.le_of_ble_eq_true rfl, Nat.le_of_ble_eq_true rfl⟩ (T_X8_isNight hfl fl _ _  _ h116) rfl rfl rfl (Nat.le_of_ble_eq_true rfl) dX8_book_42 ?_
          refine E_if_eq (tgt := 87) rfl dX8_book_45 (fun c117 => ?_) (fun c117 => ?_)
          · have hF := ite_t hF c117
            refine E_sub [0, 1, 2, 3, 4, 5, 6] rfl ?_
            exact T_X8_book_87 hfl fl hr  _ _ _ _ _ _ _ _ hv0 hF
          · have hF := ite_f hF c117
            refine E_iload (q := 5) rfl dX8_book_48 ?_
            refine E_aload_n (j := 0) (i := 0) (q := 0) rfl rfl dX8_book_50 ?_
            obtain ⟨r118, h119, hF⟩ := bd_inv hF
            have h119 := ldA_inv h119
            refine gf_RX8_9 rfl hv0 (shape_ord hv0).1 h119.1 dX8_book_51 ?_
            refine E_iconst (v := (3 : Int32)) rfl dX8_book_54 ?_
            obtain ⟨h120, hF⟩ := gd_inv hF
            refine E_iald _ h119.2 (shape_ord h119.2).1 h120 dX8_book_55 ?_
            refine E_icmp_lt (tgt := 87) rfl dX8_book_56 (fun c121 => ?_) (fun c121 => ?_)
            · have hF := ite_t hF c121
              refine E_sub [0, 1, 2, 3, 4, 5, 6] rfl ?_
              exact T_X8_book_87 hfl fl hr  _ _ _ _ _ _ _ _ hv0 hF
            · have hF := ite_f hF c121
              refine E_iload (q := 6) rfl dX8_book_59 ?_
              refine E_iconst (v := (1 : Int32)) rfl dX8_book_61 ?_
              refine E_bipush (v := (14 : Int32)) rfl dX8_book_62 ?_
              obtain ⟨q122, h123, hF⟩ := bd_inv hF
              refine E_callS (na := 3) (As := [.int v6, .int (1 : Int32), .int (14 : Int32)]) (S := []) (kc := 0) (ks := 0) cwS_RX8_52 ⟨Nat.le_of_ble_eq_true rfl, Nat.le_of_ble_eq_true rfl⟩ (T_X8_in hfl fl _ _ _ _  _ h123) rfl rfl rfl (Nat.le_of_ble_eq_true rfl) dX8_book_64 ?_
              refine E_if_eq (tgt := 87) rfl dX8_book_67 (fun c124 => ?_) (fun c124 => ?_)
              · have hF := ite_t hF c124
                refine E_sub [0, 1, 2, 3, 4, 5, 6] rfl ?_
                exact T_X8_book_87 hfl fl hr  _ _ _ _ _ _ _ _ hv0 hF
              · have hF := ite_f hF c124
                refine E_iload (q := 5) rfl dX8_book_70 ?_
                refine E_iload (q := 6) rfl dX8_book_72 ?_
                refine E_iadd dX8_book_74 ?_
                refine E_iconst (v := (1 : Int32)) rfl dX8_book_75 ?_
                refine E_isub dX8_book_76 ?_
                obtain ⟨q125, h126, hF⟩ := bd_inv hF
                refine E_callS (na := 1) (As := [.int ((v5 + v6) - (1 : Int32))]) (S := []) (kc := 0) (ks := 0) cwS_RX8_88 ⟨Nat.le_of_ble_eq_true rfl, Nat.le_of_ble_eq_true rfl⟩ (T_X8_isNight hfl fl _ _  _ h126) rfl rfl rfl (Nat.le_of_ble_eq_true rfl) dX8_book_77 ?_
                refine E_if_eq (tgt := 87) rfl dX8_book_80 (fun c127 => ?_) (fun c127 => ?_)
                · have hF := ite_t hF c127
                  refine E_sub [0, 1, 2, 3, 4, 5, 6] rfl ?_
                  exact T_X8_book_87 hfl fl hr  _ _ _ _ _ _ _ _ hv0 hF
                · have hF := ite_f hF c127
                  refine E_iconst (v := (1 : Int32)) rfl dX8_book_83 ?_
                  refine E_goto (tgt := 88) rfl dX8_book_84 ?_
                  refine E_sub [0, 1, 2, 3, 4, 5, 6] rfl ?_
                  exact T_X8_book_88 hfl fl hr  _ _ _ _ _ _ _ _ _ hv0 hF
set_option maxHeartbeats 4000000 in
set_option maxRecDepth 100000 in
theorem T_X8_append_15 {l : Launch} (hfl : l.stackTraces = false) (fl : Nat) {r : Rs} {ρ : Mem} (hr : r = (.inr none, NF, ρ)) (v0 : Nat) (v1 : Int32) (w0 : Nat) (w1 : Int32) (s : Mem) (hv0 : shape v0 = some (.inl 10)) (hw0 : shape w0 = some (.inl 10)) (hF : B_X8_append_15 fl v0 v1 w0 w1 s = some ρ) : E l X_X8_append r false NF s 0 0 15 [(0, .ref v0), (1, .int v1)] [.int w1, .ref w0] := by
  unfold B_X8_append_15 at hF
  refine pf_RX8_42 rfl hw0 (shape_ord hw0).1 dX8_append_15 ?_
  obtain ⟨m1, e2, hF⟩ := nx_inv hF
  refine E_mem e2 ?_
  refine E_aload_n (j := 0) (i := 0) (q := 0) rfl rfl dX8_append_18 ?_
  refine gf_RX8_42 rfl hv0 (shape_ord hv0).1 dX8_append_19 ?_
  refine E_if_eq (tgt := 26) rfl dX8_append_22 (fun c3 => ?_) (fun c3 => ?_)
  · have hF := ite_t hF c3
    refine E_aload_n (j := 0) (i := 0) (q := 0) rfl rfl dX8_append_26 ?_
    obtain ⟨r4, h5, hF⟩ := bd_inv hF
    have h5 := ldA_inv h5
    refine gf_RX8_34 rfl hv0 (shape_ord hv0).1 h5.1 dX8_append_27 ?_
    refine E_aload_n (j := 0) (i := 0) (q := 0) rfl rfl dX8_append_30 ?_
    refine gf_RX8_177 rfl hv0 (shape_ord hv0).1 dX8_append_31 ?_
    refine E_iload_n (j := 1) (i := 1) (q := 1) rfl rfl dX8_append_34 ?_
    obtain ⟨h6, hF⟩ := gd_inv hF
    refine E_cast _ h5.2 (shape_ord h5.2).1 h6 dX8_append_35 ?_
    obtain ⟨m7, e8, hF⟩ := nx_inv hF
    refine E_mem e8 ?_
    refine E_aload_n (j := 0) (i := 0) (q := 0) rfl rfl dX8_append_36 ?_
    refine E_dup rfl dX8_append_37 ?_
    refine gf_RX8_177 rfl hv0 (shape_ord hv0).1 dX8_append_38 ?_
    refine E_iconst (v := (1 : Int32)) rfl dX8_append_41 ?_
    refine E_iadd dX8_append_42 ?_
    refine pf_RX8_177 rfl hv0 (shape_ord hv0).1 dX8_append_43 ?_
    obtain ⟨m9, e10, hF⟩ := nx_inv hF
    refine E_mem e10 ?_
    exact E_vret (Or.inl rfl) rfl (by cases hF; exact hr) dX8_append_46
  · have hF := ite_f hF c3
    exact E_vret (Or.inl rfl) rfl (by cases hF; exact hr) dX8_append_25
set_option maxHeartbeats 4000000 in
set_option maxRecDepth 100000 in
theorem T_X8_append {l : Launch} (hfl : l.stackTraces = false) (fl : Nat) (v0 : Nat) (v1 : Int32) (s : Mem) (hv0 : shape v0 = some (.inl 10)) (ρ : Mem) (hF : F_X8_append fl v0 v1 s = some ρ) : MetN l X_X8_append false NF s [.ref v0, .int v1] (.inr none, NF, ρ) := by
  unfold F_X8_append at hF
  obtain ⟨r, hr⟩ : ∃ r : Rs, r = (.inr none, NF, ρ) := ⟨_, rfl⟩
  rw [← hr]
  refine met_of_E rfl rfl (by decide +kernel) hfl rfl (Nat.le_of_ble_eq_true rfl) ?_
  show E l X_X8_append r false NF s 0 0 0 [(0, .ref v0), (1, .int v1)] []
  refine E_aload_n (j := 0) (i := 0) (q := 0) rfl rfl dX8_append_0 ?_
  refine E_aload_n (j := 0) (i := 0) (q := 0) rfl rfl dX8_append_1 ?_
  refine gf_RX8_177 rfl hv0 (shape_ord hv0).1 dX8_append_2 ?_
  refine E_bipush (v := (30 : Int32)) rfl dX8_append_5 ?_
  refine E_icmp_ne (tgt := 14) rfl dX8_append_7 (fun c11 => ?_) (fun c11 => ?_)
  · have hF := ite_f hF c11
    refine E_iconst (v := (0 : Int32)) rfl dX8_append_14 ?_
    refine E_sub [0, 1] rfl ?_
    exact T_X8_append_15 hfl fl hr  _ _ _ _ _ hv0 hv0 hF
  · have hF := ite_t hF c11
    refine E_iconst (v := (1 : Int32)) rfl dX8_append_10 ?_
    refine E_goto (tgt := 15) rfl dX8_append_11 ?_
    refine E_sub [0, 1] rfl ?_
    exact T_X8_append_15 hfl fl hr  _ _ _ _ _ hv0 hv0 hF
set_option maxHeartbeats 4000000 in
set_option maxRecDepth 100000 in
theorem T_X8_here {l : Launch} (hfl : l.stackTraces = false) (fl : Nat) (v0 : Nat) (s : Mem) (hv0 : shape v0 = some (.inl 10)) (ρ : Int32) (hF : F_X8_here fl v0 s = some ρ) : MetN l X_X8_here false NF s [.ref v0] (.inr (some (.int ρ)), NF, s) := by
  unfold F_X8_here at hF
  obtain ⟨r, hr⟩ : ∃ r : Rs, r = (.inr (some (.int ρ)), NF, s) := ⟨_, rfl⟩
  rw [← hr]
  refine met_of_E rfl rfl (by decide +kernel) hfl rfl (Nat.le_of_ble_eq_true rfl) ?_
  show E l X_X8_here r false NF s 0 0 0 [(0, .ref v0)] []
  refine E_aload_n (j := 0) (i := 0) (q := 0) rfl rfl dX8_here_0 ?_
  refine gf_RX8_180 rfl hv0 (shape_ord hv0).1 dX8_here_1 ?_
  refine E_aload_n (j := 0) (i := 0) (q := 0) rfl rfl dX8_here_4 ?_
  refine gf_RX8_177 rfl hv0 (shape_ord hv0).1 dX8_here_5 ?_
  refine E_icmp_ge (tgt := 23) rfl dX8_here_8 (fun c1 => ?_) (fun c1 => ?_)
  · have hF := ite_t hF c1
    refine E_iconst (v := (0 : Int32)) rfl dX8_here_23 ?_
    obtain ⟨h2, hF⟩ := gd_inv hF
    exact E_zret (ty := .char) (Or.inl rfl) rfl (nar_c h2) (by cases hF; exact hr) dX8_here_24
  · have hF := ite_f hF c1
    refine E_aload_n (j := 0) (i := 0) (q := 0) rfl rfl dX8_here_11 ?_
    obtain ⟨r3, h4, hF⟩ := bd_inv hF
    have h4 := ldA_inv h4
    refine gf_RX8_34 rfl hv0 (shape_ord hv0).1 h4.1 dX8_here_12 ?_
    refine E_aload_n (j := 0) (i := 0) (q := 0) rfl rfl dX8_here_15 ?_
    refine gf_RX8_180 rfl hv0 (shape_ord hv0).1 dX8_here_16 ?_
    obtain ⟨h5, hF⟩ := gd_inv hF
    refine E_cald _ h4.2 (shape_ord h4.2).1 h5 dX8_here_19 ?_
    refine E_goto (tgt := 24) rfl dX8_here_20 ?_
    obtain ⟨h6, hF⟩ := gd_inv hF
    exact E_zret (ty := .char) (Or.inl rfl) rfl (nar_c h6) (by cases hF; exact hr) dX8_here_24
set_option maxHeartbeats 4000000 in
set_option maxRecDepth 100000 in
theorem T_X8_isDigit {l : Launch} (hfl : l.stackTraces = false) (fl : Nat) (v0 : Nat) (s : Mem) (hv0 : shape v0 = some (.inl 10)) (ρ : Int32) (hF : F_X8_isDigit fl v0 s = some ρ) : MetN l X_X8_isDigit false NF s [.ref v0] (.inr (some (.int ρ)), NF, s) := by
  unfold F_X8_isDigit at hF
  obtain ⟨r, hr⟩ : ∃ r : Rs, r = (.inr (some (.int ρ)), NF, s) := ⟨_, rfl⟩
  rw [← hr]
  refine met_of_E rfl rfl (by decide +kernel) hfl rfl (Nat.le_of_ble_eq_true rfl) ?_
  show E l X_X8_isDigit r false NF s 0 0 0 [(0, .ref v0)] []
  refine E_aload_n (j := 0) (i := 0) (q := 0) rfl rfl dX8_isDigit_0 ?_
  refine gf_RX8_180 rfl hv0 (shape_ord hv0).1 dX8_isDigit_1 ?_
  refine E_aload_n (j := 0) (i := 0) (q := 0) rfl rfl dX8_isDigit_4 ?_
  refine gf_RX8_177 rfl hv0 (shape_ord hv0).1 dX8_isDigit_5 ?_
  refine E_icmp_ge (tgt := 29) rfl dX8_isDigit_8 (fun c1 => ?_) (fun c1 => ?_)
  · have hF := ite_t hF c1
    refine E_iconst (v := (0 : Int32)) rfl dX8_isDigit_29 ?_
    exact E_zret (ty := .boolean) (Or.inl rfl) rfl rfl (by cases hF; exact hr) dX8_isDigit_30
  · have hF := ite_f hF c1
    refine E_aload_n (j := 0) (i := 0) (q := 0) rfl rfl dX8_isDigit_11 ?_
    obtain ⟨q2, h3, hF⟩ := bd_inv hF
    refine E_callV (na := 0) (As := []) (S := []) (kc := 0) (ks := 0) (ci := 10) rfl rfl hv0 (shape_ord hv0).1 cwV_RX8_183 ⟨Nat.le_of_ble_eq_true rfl, Nat.le_of_ble_eq_true rfl⟩ (T_X8_here hfl fl _ _ hv0 _ h3) rfl rfl rfl (Nat.le_of_ble_eq_true rfl) dX8_isDigit_12 ?_
    refine E_bipush (v := (48 : Int32)) rfl dX8_isDigit_15 ?_
    refine E_bipush (v := (57 : Int32)) rfl dX8_isDigit_17 ?_
    obtain ⟨q4, h5, hF⟩ := bd_inv hF
    refine E_callS (na := 3) (As := [.int q2, .int (48 : Int32), .int (57 : Int32)]) (S := []) (kc := 0) (ks := 0) cwS_RX8_52 ⟨Nat.le_of_ble_eq_true rfl, Nat.le_of_ble_eq_true rfl⟩ (T_X8_in hfl fl _ _ _ _  _ h5) rfl rfl rfl (Nat.le_of_ble_eq_true rfl) dX8_isDigit_19 ?_
    refine E_if_eq (tgt := 29) rfl dX8_isDigit_22 (fun c6 => ?_) (fun c6 => ?_)
    · have hF := ite_t hF c6
      refine E_iconst (v := (0 : Int32)) rfl dX8_isDigit_29 ?_
      exact E_zret (ty := .boolean) (Or.inl rfl) rfl rfl (by cases hF; exact hr) dX8_isDigit_30
    · have hF := ite_f hF c6
      refine E_iconst (v := (1 : Int32)) rfl dX8_isDigit_25 ?_
      refine E_goto (tgt := 30) rfl dX8_isDigit_26 ?_
      exact E_zret (ty := .boolean) (Or.inl rfl) rfl rfl (by cases hF; exact hr) dX8_isDigit_30
set_option maxHeartbeats 4000000 in
set_option maxRecDepth 100000 in
theorem T_X8_wants {l : Launch} (hfl : l.stackTraces = false) (fl : Nat) (v0 : Nat) (v1 : Int32) (s : Mem) (hv0 : shape v0 = some (.inl 10)) (ρ : Mem) (hF : F_X8_wants fl v0 v1 s = some ρ) : MetN l X_X8_wants false NF s [.ref v0, .int v1] (.inr none, NF, ρ) := by
  unfold F_X8_wants at hF
  obtain ⟨r, hr⟩ : ∃ r : Rs, r = (.inr none, NF, ρ) := ⟨_, rfl⟩
  rw [← hr]
  refine met_of_E rfl rfl (by decide +kernel) hfl rfl (Nat.le_of_ble_eq_true rfl) ?_
  show E l X_X8_wants r false NF s 0 0 0 [(0, .ref v0), (1, .int v1)] []
  refine E_aload_n (j := 0) (i := 0) (q := 0) rfl rfl dX8_wants_0 ?_
  refine gf_RX8_187 rfl hv0 (shape_ord hv0).1 dX8_wants_1 ?_
  refine E_if_lt (tgt := 8) rfl dX8_wants_4 (fun c1 => ?_) (fun c1 => ?_)
  · have hF := ite_t hF c1
    refine E_aload_n (j := 0) (i := 0) (q := 0) rfl rfl dX8_wants_8 ?_
    refine gf_RX8_180 rfl hv0 (shape_ord hv0).1 dX8_wants_9 ?_
    refine E_aload_n (j := 0) (i := 0) (q := 0) rfl rfl dX8_wants_12 ?_
    refine gf_RX8_177 rfl hv0 (shape_ord hv0).1 dX8_wants_13 ?_
    refine E_icmp_eq (tgt := 27) rfl dX8_wants_16 (fun c2 => ?_) (fun c2 => ?_)
    · have hF := ite_t hF c2
      refine E_aload_n (j := 0) (i := 0) (q := 0) rfl rfl dX8_wants_27 ?_
      refine E_aload_n (j := 0) (i := 0) (q := 0) rfl rfl dX8_wants_28 ?_
      refine gf_RX8_180 rfl hv0 (shape_ord hv0).1 dX8_wants_29 ?_
      refine pf_RX8_187 rfl hv0 (shape_ord hv0).1 dX8_wants_32 ?_
      obtain ⟨m3, e4, hF⟩ := nx_inv hF
      refine E_mem e4 ?_
      exact E_vret (Or.inl rfl) rfl (by cases hF; exact hr) dX8_wants_35
    · have hF := ite_f hF c2
      refine E_aload_n (j := 0) (i := 0) (q := 0) rfl rfl dX8_wants_19 ?_
      obtain ⟨q5, h6, hF⟩ := bd_inv hF
      refine E_callV (na := 0) (As := []) (S := []) (kc := 0) (ks := 0) (ci := 10) rfl rfl hv0 (shape_ord hv0).1 cwV_RX8_183 ⟨Nat.le_of_ble_eq_true rfl, Nat.le_of_ble_eq_true rfl⟩ (T_X8_here hfl fl _ _ hv0 _ h6) rfl rfl rfl (Nat.le_of_ble_eq_true rfl) dX8_wants_20 ?_
      refine E_iload_n (j := 1) (i := 1) (q := 1) rfl rfl dX8_wants_23 ?_
      refine E_icmp_eq (tgt := 36) rfl dX8_wants_24 (fun c7 => ?_) (fun c7 => ?_)
      · have hF := ite_t hF c7
        refine E_aload_n (j := 0) (i := 0) (q := 0) rfl rfl dX8_wants_36 ?_
        refine E_dup rfl dX8_wants_37 ?_
        refine gf_RX8_180 rfl hv0 (shape_ord hv0).1 dX8_wants_38 ?_
        refine E_iconst (v := (1 : Int32)) rfl dX8_wants_41 ?_
        refine E_iadd dX8_wants_42 ?_
        refine pf_RX8_180 rfl hv0 (shape_ord hv0).1 dX8_wants_43 ?_
        obtain ⟨m8, e9, hF⟩ := nx_inv hF
        refine E_mem e9 ?_
        exact E_vret (Or.inl rfl) rfl (by cases hF; exact hr) dX8_wants_46
      · have hF := ite_f hF c7
        refine E_aload_n (j := 0) (i := 0) (q := 0) rfl rfl dX8_wants_27 ?_
        refine E_aload_n (j := 0) (i := 0) (q := 0) rfl rfl dX8_wants_28 ?_
        refine gf_RX8_180 rfl hv0 (shape_ord hv0).1 dX8_wants_29 ?_
        refine pf_RX8_187 rfl hv0 (shape_ord hv0).1 dX8_wants_32 ?_
        obtain ⟨m10, e11, hF⟩ := nx_inv hF
        refine E_mem e11 ?_
        exact E_vret (Or.inl rfl) rfl (by cases hF; exact hr) dX8_wants_35
  · have hF := ite_f hF c1
    exact E_vret (Or.inl rfl) rfl (by cases hF; exact hr) dX8_wants_7
set_option maxHeartbeats 4000000 in
set_option maxRecDepth 100000 in
theorem T_X8_number_22 {l : Launch} (hfl : l.stackTraces = false) (fl : Nat) {r : Rs} {ρ : (Int32 × Mem)} (hr : r = (.inr (some (.int ρ.1)), NF, ρ.2)) (v0 : Nat) (s : Mem) (hv0 : shape v0 = some (.inl 10)) (hF : B_X8_number_22 fl v0 s = some ρ) : E l X_X8_number r false NF s 0 0 22 [(0, .ref v0)] [] := by
  unfold B_X8_number_22 at hF
  refine E_aload_n (j := 0) (i := 0) (q := 0) rfl rfl dX8_number_22 ?_
  refine gf_RX8_187 rfl hv0 (shape_ord hv0).1 dX8_number_23 ?_
  refine E_if_lt (tgt := 31) rfl dX8_number_26 (fun c1 => ?_) (fun c1 => ?_)
  · have hF := ite_t hF c1
    refine E_aload_n (j := 0) (i := 0) (q := 0) rfl rfl dX8_number_31 ?_
    obtain ⟨q2, h3, hF⟩ := bd_inv hF
    refine E_callV (na := 0) (As := []) (S := []) (kc := 0) (ks := 0) (ci := 10) rfl rfl hv0 (shape_ord hv0).1 cwV_RX8_183 ⟨Nat.le_of_ble_eq_true rfl, Nat.le_of_ble_eq_true rfl⟩ (T_X8_here hfl fl _ _ hv0 _ h3) rfl rfl rfl (Nat.le_of_ble_eq_true rfl) dX8_number_32 ?_
    refine E_bipush (v := (48 : Int32)) rfl dX8_number_35 ?_
    refine E_isub dX8_number_37 ?_
    refine E_istore_n (j := 1) (i := 1) (L' := [(1, .int (q2 - (48 : Int32))), (0, .ref v0)]) rfl (Nat.le_of_ble_eq_true rfl) rfl dX8_number_38 ?_
    refine E_aload_n (j := 0) (i := 0) (q := 1) rfl rfl dX8_number_39 ?_
    refine E_dup rfl dX8_number_40 ?_
    refine gf_RX8_180 rfl hv0 (shape_ord hv0).1 dX8_number_41 ?_
    refine E_iconst (v := (1 : Int32)) rfl dX8_number_44 ?_
    refine E_iadd dX8_number_45 ?_
    refine pf_RX8_180 rfl hv0 (shape_ord hv0).1 dX8_number_46 ?_
    obtain ⟨m4, e5, hF⟩ := nx_inv hF
    refine E_mem e5 ?_
    refine E_iload_n (j := 1) (i := 1) (q := 0) rfl rfl dX8_number_49 ?_
    refine E_if_eq (tgt := 60) rfl dX8_number_50 (fun c6 => ?_) (fun c6 => ?_)
    · have hF := ite_t hF c6
      refine E_iload_n (j := 1) (i := 1) (q := 0) rfl rfl dX8_number_60 ?_
      exact E_iret (Or.inl rfl) rfl (by cases hF; exact hr) dX8_number_61
    · have hF := ite_f hF c6
      refine E_aload_n (j := 0) (i := 0) (q := 1) rfl rfl dX8_number_53 ?_
      obtain ⟨q7, h8, hF⟩ := bd_inv hF
      refine E_callV (na := 0) (As := []) (S := []) (kc := 0) (ks := 0) (ci := 10) rfl rfl hv0 (shape_ord hv0).1 cwV_RX8_190 ⟨Nat.le_of_ble_eq_true rfl, Nat.le_of_ble_eq_true rfl⟩ (T_X8_isDigit hfl fl _ _ hv0 _ h8) rfl rfl rfl (Nat.le_of_ble_eq_true rfl) dX8_number_54 ?_
      refine E_if_ne (tgt := 62) rfl dX8_number_57 (fun c9 => ?_) (fun c9 => ?_)
      · have hF := ite_f hF c9
        refine E_bipush (v := (10 : Int32)) rfl dX8_number_62 ?_
        refine E_iload_n (j := 1) (i := 1) (q := 0) rfl rfl dX8_number_64 ?_
        refine E_imul dX8_number_65 ?_
        refine E_aload_n (j := 0) (i := 0) (q := 1) rfl rfl dX8_number_66 ?_
        obtain ⟨q10, h11, hF⟩ := bd_inv hF
        refine E_callV (na := 0) (As := []) (S := [.int ((10 : Int32) * (q2 - (48 : Int32)))]) (kc := 0) (ks := 0) (ci := 10) rfl rfl hv0 (shape_ord hv0).1 cwV_RX8_183 ⟨Nat.le_of_ble_eq_true rfl, Nat.le_of_ble_eq_true rfl⟩ (T_X8_here hfl fl _ _ hv0 _ h11) rfl rfl rfl (Nat.le_of_ble_eq_true rfl) dX8_number_67 ?_
        refine E_iadd dX8_number_70 ?_
        refine E_bipush (v := (48 : Int32)) rfl dX8_number_71 ?_
        refine E_isub dX8_number_73 ?_
        refine E_istore_n (j := 1) (i := 1) (L' := [(1, .int ((((10 : Int32) * (q2 - (48 : Int32))) + q10) - (48 : Int32))), (0, .ref v0)]) rfl (Nat.le_of_ble_eq_true rfl) rfl dX8_number_74 ?_
        refine E_aload_n (j := 0) (i := 0) (q := 1) rfl rfl dX8_number_75 ?_
        refine E_dup rfl dX8_number_76 ?_
        refine gf_RX8_180 rfl hv0 (shape_ord hv0).1 dX8_number_77 ?_
        refine E_iconst (v := (1 : Int32)) rfl dX8_number_80 ?_
        refine E_iadd dX8_number_81 ?_
        refine pf_RX8_180 rfl hv0 (shape_ord hv0).1 dX8_number_82 ?_
        obtain ⟨m12, e13, hF⟩ := nx_inv hF
        refine E_mem e13 ?_
        refine E_iload_n (j := 1) (i := 1) (q := 0) rfl rfl dX8_number_85 ?_
        exact E_iret (Or.inl rfl) rfl (by cases hF; exact hr) dX8_number_86
      · have hF := ite_t hF c9
        refine E_iload_n (j := 1) (i := 1) (q := 0) rfl rfl dX8_number_60 ?_
        exact E_iret (Or.inl rfl) rfl (by cases hF; exact hr) dX8_number_61
  · have hF := ite_f hF c1
    refine E_iconst (v := (0 : Int32)) rfl dX8_number_29 ?_
    exact E_iret (Or.inl rfl) rfl (by cases hF; exact hr) dX8_number_30
set_option maxHeartbeats 4000000 in
set_option maxRecDepth 100000 in
theorem T_X8_number {l : Launch} (hfl : l.stackTraces = false) (fl : Nat) (v0 : Nat) (s : Mem) (hv0 : shape v0 = some (.inl 10)) (ρ : (Int32 × Mem)) (hF : F_X8_number fl v0 s = some ρ) : MetN l X_X8_number false NF s [.ref v0] (.inr (some (.int ρ.1)), NF, ρ.2) := by
  unfold F_X8_number at hF
  obtain ⟨r, hr⟩ : ∃ r : Rs, r = (.inr (some (.int ρ.1)), NF, ρ.2) := ⟨_, rfl⟩
  rw [← hr]
  refine met_of_E rfl rfl (by decide +kernel) hfl rfl (Nat.le_of_ble_eq_true rfl) ?_
  show E l X_X8_number r false NF s 0 0 0 [(0, .ref v0)] []
  refine E_aload_n (j := 0) (i := 0) (q := 0) rfl rfl dX8_number_0 ?_
  refine gf_RX8_187 rfl hv0 (shape_ord hv0).1 dX8_number_1 ?_
  refine E_if_ge (tgt := 22) rfl dX8_number_4 (fun c14 => ?_) (fun c14 => ?_)
  · have hF := ite_t hF c14
    refine E_sub [0] rfl ?_
    exact T_X8_number_22 hfl fl hr  _ _ hv0 hF
  · have hF := ite_f hF c14
    refine E_aload_n (j := 0) (i := 0) (q := 0) rfl rfl dX8_number_7 ?_
    obtain ⟨q15, h16, hF⟩ := bd_inv hF
    refine E_callV (na := 0) (As := []) (S := []) (kc := 0) (ks := 0) (ci := 10) rfl rfl hv0 (shape_ord hv0).1 cwV_RX8_190 ⟨Nat.le_of_ble_eq_true rfl, Nat.le_of_ble_eq_true rfl⟩ (T_X8_isDigit hfl fl _ _ hv0 _ h16) rfl rfl rfl (Nat.le_of_ble_eq_true rfl) dX8_number_8 ?_
    refine E_if_ne (tgt := 22) rfl dX8_number_11 (fun c17 => ?_) (fun c17 => ?_)
    · have hF := ite_f hF c17
      refine E_sub [0] rfl ?_
      exact T_X8_number_22 hfl fl hr  _ _ hv0 hF
    · have hF := ite_t hF c17
      refine E_aload_n (j := 0) (i := 0) (q := 0) rfl rfl dX8_number_14 ?_
      refine E_aload_n (j := 0) (i := 0) (q := 0) rfl rfl dX8_number_15 ?_
      refine gf_RX8_180 rfl hv0 (shape_ord hv0).1 dX8_number_16 ?_
      refine pf_RX8_187 rfl hv0 (shape_ord hv0).1 dX8_number_19 ?_
      obtain ⟨m18, e19, hF⟩ := nx_inv hF
      refine E_mem e19 ?_
      refine E_sub [0] rfl ?_
      exact T_X8_number_22 hfl fl hr  _ _ hv0 hF
set_option maxHeartbeats 4000000 in
set_option maxRecDepth 100000 in
theorem T_X8_readBooking_190 {l : Launch} (hfl : l.stackTraces = false) (fl : Nat) {r : Rs} {ρ : (Int32 × Mem)} (hr : r = (.inr (some (.int ρ.1)), NF, ρ.2)) (v0 : Nat) (v2 : Int32) (v3 : Int32) (v4 : Int32) (v5 : Int32) (v6 : Int32) (v7 : Int32) (s : Mem) (hv0 : shape v0 = some (.inl 10)) (hF : B_X8_readBooking_190 fl v0 v2 v3 v4 v5 v6 v7 s = some ρ) : E l X_X8_readBooking r false NF s 0 0 190 [(0, .ref v0), (2, .int v2), (3, .int v3), (4, .int v4), (5, .int v5), (6, .int v6), (7, .int v7)] [] := by
  unfold B_X8_readBooking_190 at hF
  refine E_aload_n (j := 0) (i := 0) (q := 0) rfl rfl dX8_readBooking_190 ?_
  refine E_iconst (v := (0 : Int32)) rfl dX8_readBooking_191 ?_
  refine pf_RX8_177 rfl hv0 (shape_ord hv0).1 dX8_readBooking_192 ?_
  obtain ⟨m1, e2, hF⟩ := nx_inv hF
  refine E_mem e2 ?_
  refine E_aload_n (j := 0) (i := 0) (q := 0) rfl rfl dX8_readBooking_195 ?_
  refine E_aload_n (j := 0) (i := 0) (q := 0) rfl rfl dX8_readBooking_196 ?_
  refine gf_RX8_187 rfl hv0 (shape_ord hv0).1 dX8_readBooking_197 ?_
  refine pf_RX8_38 rfl hv0 (shape_ord hv0).1 dX8_readBooking_200 ?_
  obtain ⟨m3, e4, hF⟩ := nx_inv hF
  refine E_mem e4 ?_
  refine E_aload_n (j := 0) (i := 0) (q := 0) rfl rfl dX8_readBooking_203 ?_
  refine gf_RX8_187 rfl hv0 (shape_ord hv0).1 dX8_readBooking_204 ?_
  refine E_if_lt (tgt := 217) rfl dX8_readBooking_207 (fun c5 => ?_) (fun c5 => ?_)
  · have hF := ite_t hF c5
    refine E_aload_n (j := 0) (i := 0) (q := 0) rfl rfl dX8_readBooking_217 ?_
    refine E_iload_n (j := 2) (i := 2) (q := 1) rfl rfl dX8_readBooking_218 ?_
    refine E_iload_n (j := 3) (i := 3) (q := 2) rfl rfl dX8_readBooking_219 ?_
    refine E_iload (q := 3) rfl dX8_readBooking_220 ?_
    refine E_iload (q := 6) rfl dX8_readBooking_222 ?_
    refine E_iload (q := 4) rfl dX8_readBooking_224 ?_
    refine E_iload (q := 5) rfl dX8_readBooking_226 ?_
    obtain ⟨q6, h7, hF⟩ := bd_inv hF
    refine E_callV (na := 6) (As := [.int v2, .int v3, .int v4, .int v7, .int v5, .int v6]) (S := []) (kc := 0) (ks := 0) (ci := 10) rfl rfl hv0 (shape_ord hv0).1 cwV_RX8_200 ⟨Nat.le_of_ble_eq_true rfl, Nat.le_of_ble_eq_true rfl⟩ (T_X8_book hfl fl _ _ _ _ _ _ _ _ hv0 _ h7) rfl rfl rfl (Nat.le_of_ble_eq_true rfl) dX8_readBooking_228 ?_
    exact E_iret (Or.inl rfl) rfl (by cases hF; exact hr) dX8_readBooking_231
  · have hF := ite_f hF c5
    refine E_aload_n (j := 0) (i := 0) (q := 0) rfl rfl dX8_readBooking_210 ?_
    refine E_iconst (v := (1 : Int32)) rfl dX8_readBooking_211 ?_
    refine pf_RX8_42 rfl hv0 (shape_ord hv0).1 dX8_readBooking_212 ?_
    obtain ⟨m8, e9, hF⟩ := nx_inv hF
    refine E_mem e9 ?_
    refine E_iconst (v := (0 : Int32)) rfl dX8_readBooking_215 ?_
    exact E_iret (Or.inl rfl) rfl (by cases hF; exact hr) dX8_readBooking_216
set_option maxHeartbeats 4000000 in
set_option maxRecDepth 100000 in
theorem T_X8_readBooking_164 {l : Launch} (hfl : l.stackTraces = false) (fl : Nat) {r : Rs} {ρ : (Int32 × Mem)} (hr : r = (.inr (some (.int ρ.1)), NF, ρ.2)) (v0 : Nat) (v2 : Int32) (v3 : Int32) (v4 : Int32) (v5 : Int32) (v6 : Int32) (v7 : Int32) (s : Mem) (hv0 : shape v0 = some (.inl 10)) (hF : B_X8_readBooking_164 fl v0 v2 v3 v4 v5 v6 v7 s = some ρ) : E l X_X8_readBooking r false NF s 0 0 164 [(0, .ref v0), (2, .int v2), (3, .int v3), (4, .int v4), (5, .int v5), (6, .int v6), (7, .int v7)] [] := by
  unfold B_X8_readBooking_164 at hF
  refine E_aload_n (j := 0) (i := 0) (q := 0) rfl rfl dX8_readBooking_164 ?_
  refine gf_RX8_187 rfl hv0 (shape_ord hv0).1 dX8_readBooking_165 ?_
  refine E_if_ge (tgt := 190) rfl dX8_readBooking_168 (fun c10 => ?_) (fun c10 => ?_)
  · have hF := ite_t hF c10
    refine E_sub [0, 1, 2, 3, 4, 5, 6] rfl ?_
    exact T_X8_readBooking_190 hfl fl hr  _ _ _ _ _ _ _ _ hv0 hF
  · have hF := ite_f hF c10
    refine E_aload_n (j := 0) (i := 0) (q := 0) rfl rfl dX8_readBooking_171 ?_
    refine gf_RX8_180 rfl hv0 (shape_ord hv0).1 dX8_readBooking_172 ?_
    refine E_aload_n (j := 0) (i := 0) (q := 0) rfl rfl dX8_readBooking_175 ?_
    refine gf_RX8_177 rfl hv0 (shape_ord hv0).1 dX8_readBooking_176 ?_
    refine E_icmp_ge (tgt := 190) rfl dX8_readBooking_179 (fun c11 => ?_) (fun c11 => ?_)
    · have hF := ite_t hF c11
      refine E_sub [0, 1, 2, 3, 4, 5, 6] rfl ?_
      exact T_X8_readBooking_190 hfl fl hr  _ _ _ _ _ _ _ _ hv0 hF
    · have hF := ite_f hF c11
      refine E_aload_n (j := 0) (i := 0) (q := 0) rfl rfl dX8_readBooking_182 ?_
      refine E_aload_n (j := 0) (i := 0) (q := 0) rfl rfl dX8_readBooking_183 ?_
      refine gf_RX8_180 rfl hv0 (shape_ord hv0).1 dX8_readBooking_184 ?_
      refine pf_RX8_187 rfl hv0 (shape_ord hv0).1 dX8_readBooking_187 ?_
      obtain ⟨m12, e13, hF⟩ := nx_inv hF
      refine E_mem e13 ?_
      refine E_sub [0, 1, 2, 3, 4, 5, 6] rfl ?_
      exact T_X8_readBooking_190 hfl fl hr  _ _ _ _ _ _ _ _ hv0 hF
set_option maxHeartbeats 4000000 in
set_option maxRecDepth 100000 in
theorem T_X8_readBooking_67 {l : Launch} (hfl : l.stackTraces = false) (fl : Nat) {r : Rs} {ρ : (Int32 × Mem)} (hr : r = (.inr (some (.int ρ.1)), NF, ρ.2)) (v0 : Nat) (v2 : Int32) (s : Mem) (hv0 : shape v0 = some (.inl 10)) (hF : B_X8_readBooking_67 fl v0 v2 s = some ρ) : E l X_X8_readBooking r false NF s 0 0 67 [(0, .ref v0), (2, .int v2)] [] := by
  unfold B_X8_readBooking_67 at hF
  refine E_aload_n (j := 0) (i := 0) (q := 0) rfl rfl dX8_readBooking_67 ?_
  refine E_dup rfl dX8_readBooking_68 ?_
  refine gf_RX8_180 rfl hv0 (shape_ord hv0).1 dX8_readBooking_69 ?_
  refine E_iconst (v := (1 : Int32)) rfl dX8_readBooking_72 ?_
  refine E_iadd dX8_readBooking_73 ?_
  refine pf_RX8_180 rfl hv0 (shape_ord hv0).1 dX8_readBooking_74 ?_
  obtain ⟨m14, e15, hF⟩ := nx_inv hF
  refine E_mem e15 ?_
  refine E_aload_n (j := 0) (i := 0) (q := 0) rfl rfl dX8_readBooking_77 ?_
  obtain ⟨q16, h17, hF⟩ := bd_inv hF
  refine E_callV (na := 0) (As := []) (S := []) (kc := 0) (ks := 0) (ci := 10) rfl rfl hv0 (shape_ord hv0).1 cwV_RX8_193 ⟨Nat.le_of_ble_eq_true rfl, Nat.le_of_ble_eq_true rfl⟩ (T_X8_number hfl fl _ _ hv0 _ h17) rfl rfl rfl (Nat.le_of_ble_eq_true rfl) dX8_readBooking_78 ?_
  refine E_istore_n (j := 3) (i := 3) (L' := [(3, .int q16.1), (0, .ref v0), (2, .int v2)]) rfl (Nat.le_of_ble_eq_true rfl) rfl dX8_readBooking_81 ?_
  refine E_aload_n (j := 0) (i := 0) (q := 1) rfl rfl dX8_readBooking_82 ?_
  refine E_bipush (v := (120 : Int32)) rfl dX8_readBooking_83 ?_
  obtain ⟨q18, h19, hF⟩ := bd_inv hF
  refine E_callV (na := 1) (As := [.int (120 : Int32)]) (S := []) (kc := 0) (ks := 0) (ci := 10) rfl rfl hv0 (shape_ord hv0).1 cwV_RX8_196 ⟨Nat.le_of_ble_eq_true rfl, Nat.le_of_ble_eq_true rfl⟩ (T_X8_wants hfl fl _ _ _ hv0 _ h19) rfl rfl rfl (Nat.le_of_ble_eq_true rfl) dX8_readBooking_85 ?_
  refine E_aload_n (j := 0) (i := 0) (q := 1) rfl rfl dX8_readBooking_88 ?_
  obtain ⟨q20, h21, hF⟩ := bd_inv hF
  refine E_callV (na := 0) (As := []) (S := []) (kc := 0) (ks := 0) (ci := 10) rfl rfl hv0 (shape_ord hv0).1 cwV_RX8_193 ⟨Nat.le_of_ble_eq_true rfl, Nat.le_of_ble_eq_true rfl⟩ (T_X8_number hfl fl _ _ hv0 _ h21) rfl rfl rfl (Nat.le_of_ble_eq_true rfl) dX8_readBooking_89 ?_
  refine E_istore (L' := [(4, .int q20.1), (3, .int q16.1), (0, .ref v0), (2, .int v2)]) (Nat.le_of_ble_eq_true rfl) rfl dX8_readBooking_92 ?_
  refine E_aload_n (j := 0) (i := 0) (q := 2) rfl rfl dX8_readBooking_94 ?_
  refine E_bipush (v := (64 : Int32)) rfl dX8_readBooking_95 ?_
  obtain ⟨q22, h23, hF⟩ := bd_inv hF
  refine E_callV (na := 1) (As := [.int (64 : Int32)]) (S := []) (kc := 0) (ks := 0) (ci := 10) rfl rfl hv0 (shape_ord hv0).1 cwV_RX8_196 ⟨Nat.le_of_ble_eq_true rfl, Nat.le_of_ble_eq_true rfl⟩ (T_X8_wants hfl fl _ _ _ hv0 _ h23) rfl rfl rfl (Nat.le_of_ble_eq_true rfl) dX8_readBooking_97 ?_
  refine E_aload_n (j := 0) (i := 0) (q := 2) rfl rfl dX8_readBooking_100 ?_
  obtain ⟨q24, h25, hF⟩ := bd_inv hF
  refine E_callV (na := 0) (As := []) (S := []) (kc := 0) (ks := 0) (ci := 10) rfl rfl hv0 (shape_ord hv0).1 cwV_RX8_193 ⟨Nat.le_of_ble_eq_true rfl, Nat.le_of_ble_eq_true rfl⟩ (T_X8_number hfl fl _ _ hv0 _ h25) rfl rfl rfl (Nat.le_of_ble_eq_true rfl) dX8_readBooking_101 ?_
  refine E_istore (L' := [(5, .int q24.1), (4, .int q20.1), (3, .int q16.1), (0, .ref v0), (2, .int v2)]) (Nat.le_of_ble_eq_true rfl) rfl dX8_readBooking_104 ?_
  refine E_aload_n (j := 0) (i := 0) (q := 3) rfl rfl dX8_readBooking_106 ?_
  refine E_bipush (v := (43 : Int32)) rfl dX8_readBooking_107 ?_
  obtain ⟨q26, h27, hF⟩ := bd_inv hF
  refine E_callV (na := 1) (As := [.int (43 : Int32)]) (S := []) (kc := 0) (ks := 0) (ci := 10) rfl rfl hv0 (shape_ord hv0).1 cwV_RX8_196 ⟨Nat.le_of_ble_eq_true rfl, Nat.le_of_ble_eq_true rfl⟩ (T_X8_wants hfl fl _ _ _ hv0 _ h27) rfl rfl rfl (Nat.le_of_ble_eq_true rfl) dX8_readBooking_109 ?_
  refine E_aload_n (j := 0) (i := 0) (q := 3) rfl rfl dX8_readBooking_112 ?_
  obtain ⟨q28, h29, hF⟩ := bd_inv hF
  refine E_callV (na := 0) (As := []) (S := []) (kc := 0) (ks := 0) (ci := 10) rfl rfl hv0 (shape_ord hv0).1 cwV_RX8_193 ⟨Nat.le_of_ble_eq_true rfl, Nat.le_of_ble_eq_true rfl⟩ (T_X8_number hfl fl _ _ hv0 _ h29) rfl rfl rfl (Nat.le_of_ble_eq_true rfl) dX8_readBooking_113 ?_
  refine E_istore (L' := [(6, .int q28.1), (5, .int q24.1), (4, .int q20.1), (3, .int q16.1), (0, .ref v0), (2, .int v2)]) (Nat.le_of_ble_eq_true rfl) rfl dX8_readBooking_116 ?_
  refine E_iconst (v := (0 : Int32)) rfl dX8_readBooking_118 ?_
  refine E_istore (L' := [(7, .int (0 : Int32)), (6, .int q28.1), (5, .int q24.1), (4, .int q20.1), (3, .int q16.1), (0, .ref v0), (2, .int v2)]) (Nat.le_of_ble_eq_true rfl) rfl dX8_readBooking_119 ?_
  refine E_aload_n (j := 0) (i := 0) (q := 5) rfl rfl dX8_readBooking_121 ?_
  refine gf_RX8_187 rfl hv0 (shape_ord hv0).1 dX8_readBooking_122 ?_
  refine E_if_ge (tgt := 164) rfl dX8_readBooking_125 (fun c30 => ?_) (fun c30 => ?_)
  · have hF := ite_t hF c30
    refine E_sub [5, 6, 4, 3, 2, 1, 0] rfl ?_
    exact T_X8_readBooking_164 hfl fl hr  _ _ _ _ _ _ _ _ hv0 hF
  · have hF := ite_f hF c30
    refine E_aload_n (j := 0) (i := 0) (q := 5) rfl rfl dX8_readBooking_128 ?_
    refine gf_RX8_180 rfl hv0 (shape_ord hv0).1 dX8_readBooking_129 ?_
    refine E_aload_n (j := 0) (i := 0) (q := 5) rfl rfl dX8_readBooking_132 ?_
    refine gf_RX8_177 rfl hv0 (shape_ord hv0).1 dX8_readBooking_133 ?_
    refine E_icmp_ge (tgt := 164) rfl dX8_readBooking_136 (fun c31 => ?_) (fun c31 => ?_)
    · have hF := ite_t hF c31
      refine E_sub [5, 6, 4, 3, 2, 1, 0] rfl ?_
      exact T_X8_readBooking_164 hfl fl hr  _ _ _ _ _ _ _ _ hv0 hF
    · have hF := ite_f hF c31
      refine E_aload_n (j := 0) (i := 0) (q := 5) rfl rfl dX8_readBooking_139 ?_
      obtain ⟨q32, h33, hF⟩ := bd_inv hF
      refine E_callV (na := 0) (As := []) (S := []) (kc := 0) (ks := 0) (ci := 10) rfl rfl hv0 (shape_ord hv0).1 cwV_RX8_183 ⟨Nat.le_of_ble_eq_true rfl, Nat.le_of_ble_eq_true rfl⟩ (T_X8_here hfl fl _ _ hv0 _ h33) rfl rfl rfl (Nat.le_of_ble_eq_true rfl) dX8_readBooking_140 ?_
      refine E_bipush (v := (112 : Int32)) rfl dX8_readBooking_143 ?_
      refine E_icmp_ne (tgt := 164) rfl dX8_readBooking_145 (fun c34 => ?_) (fun c34 => ?_)
      · have hF := ite_f hF c34
        refine E_sub [5, 6, 4, 3, 2, 1, 0] rfl ?_
        exact T_X8_readBooking_164 hfl fl hr  _ _ _ _ _ _ _ _ hv0 hF
      · have hF := ite_t hF c34
        refine E_aload_n (j := 0) (i := 0) (q := 5) rfl rfl dX8_readBooking_148 ?_
        refine E_dup rfl dX8_readBooking_149 ?_
        refine gf_RX8_180 rfl hv0 (shape_ord hv0).1 dX8_readBooking_150 ?_
        refine E_iconst (v := (1 : Int32)) rfl dX8_readBooking_153 ?_
        refine E_iadd dX8_readBooking_154 ?_
        refine pf_RX8_180 rfl hv0 (shape_ord hv0).1 dX8_readBooking_155 ?_
        obtain ⟨m35, e36, hF⟩ := nx_inv hF
        refine E_mem e36 ?_
        refine E_aload_n (j := 0) (i := 0) (q := 5) rfl rfl dX8_readBooking_158 ?_
        obtain ⟨q37, h38, hF⟩ := bd_inv hF
        refine E_callV (na := 0) (As := []) (S := []) (kc := 0) (ks := 0) (ci := 10) rfl rfl hv0 (shape_ord hv0).1 cwV_RX8_193 ⟨Nat.le_of_ble_eq_true rfl, Nat.le_of_ble_eq_true rfl⟩ (T_X8_number hfl fl _ _ hv0 _ h38) rfl rfl rfl (Nat.le_of_ble_eq_true rfl) dX8_readBooking_159 ?_
        refine E_istore (L' := [(7, .int q37.1), (6, .int q28.1), (5, .int q24.1), (4, .int q20.1), (3, .int q16.1), (0, .ref v0), (2, .int v2)]) (Nat.le_of_ble_eq_true rfl) rfl dX8_readBooking_162 ?_
        refine E_sub [5, 6, 4, 3, 2, 1, 0] rfl ?_
        exact T_X8_readBooking_164 hfl fl hr  _ _ _ _ _ _ _ _ hv0 hF
set_option maxHeartbeats 4000000 in
set_option maxRecDepth 100000 in
theorem T_X8_readBooking_57 {l : Launch} (hfl : l.stackTraces = false) (fl : Nat) {r : Rs} {ρ : (Int32 × Mem)} (hr : r = (.inr (some (.int ρ.1)), NF, ρ.2)) (v0 : Nat) (w0 : Int32) (s : Mem) (hv0 : shape v0 = some (.inl 10)) (hF : B_X8_readBooking_57 fl v0 w0 s = some ρ) : E l X_X8_readBooking r false NF s 0 0 57 [(0, .ref v0)] [.int w0] := by
  unfold B_X8_readBooking_57 at hF
  refine E_istore_n (j := 2) (i := 2) (L' := [(2, .int w0), (0, .ref v0)]) rfl (Nat.le_of_ble_eq_true rfl) rfl dX8_readBooking_57 ?_
  refine E_iload_n (j := 2) (i := 2) (q := 0) rfl rfl dX8_readBooking_58 ?_
  refine E_if_ge (tgt := 67) rfl dX8_readBooking_59 (fun c39 => ?_) (fun c39 => ?_)
  · have hF := ite_t hF c39
    refine E_sub [1, 0] rfl ?_
    exact T_X8_readBooking_67 hfl fl hr  _ _ _ hv0 hF
  · have hF := ite_f hF c39
    refine E_aload_n (j := 0) (i := 0) (q := 1) rfl rfl dX8_readBooking_62 ?_
    refine E_iconst (v := (0 : Int32)) rfl dX8_readBooking_63 ?_
    refine pf_RX8_187 rfl hv0 (shape_ord hv0).1 dX8_readBooking_64 ?_
    obtain ⟨m40, e41, hF⟩ := nx_inv hF
    refine E_mem e41 ?_
    refine E_sub [1, 0] rfl ?_
    exact T_X8_readBooking_67 hfl fl hr  _ _ _ hv0 hF
set_option maxHeartbeats 4000000 in
set_option maxRecDepth 100000 in
theorem T_X8_readBooking {l : Launch} (hfl : l.stackTraces = false) (fl : Nat) (v0 : Nat) (s : Mem) (hv0 : shape v0 = some (.inl 10)) (ρ : (Int32 × Mem)) (hF : F_X8_readBooking fl v0 s = some ρ) : MetN l X_X8_readBooking false NF s [.ref v0] (.inr (some (.int ρ.1)), NF, ρ.2) := by
  unfold F_X8_readBooking at hF
  obtain ⟨r, hr⟩ : ∃ r : Rs, r = (.inr (some (.int ρ.1)), NF, ρ.2) := ⟨_, rfl⟩
  rw [← hr]
  refine met_of_E rfl rfl (by decide +kernel) hfl rfl (Nat.le_of_ble_eq_true rfl) ?_
  show E l X_X8_readBooking r false NF s 0 0 0 [(0, .ref v0)] []
  refine E_aload_n (j := 0) (i := 0) (q := 0) rfl rfl dX8_readBooking_0 ?_
  refine E_iconst (v := (0 : Int32)) rfl dX8_readBooking_1 ?_
  refine pf_RX8_180 rfl hv0 (shape_ord hv0).1 dX8_readBooking_2 ?_
  obtain ⟨m42, e43, hF⟩ := nx_inv hF
  refine E_mem e43 ?_
  refine E_aload_n (j := 0) (i := 0) (q := 0) rfl rfl dX8_readBooking_5 ?_
  refine E_iconst (v := (-1 : Int32)) rfl dX8_readBooking_6 ?_
  refine pf_RX8_187 rfl hv0 (shape_ord hv0).1 dX8_readBooking_7 ?_
  obtain ⟨m44, e45, hF⟩ := nx_inv hF
  refine E_mem e45 ?_
  refine E_aload_n (j := 0) (i := 0) (q := 0) rfl rfl dX8_readBooking_10 ?_
  obtain ⟨q46, h47, hF⟩ := bd_inv hF
  refine E_callV (na := 0) (As := []) (S := []) (kc := 0) (ks := 0) (ci := 10) rfl rfl hv0 (shape_ord hv0).1 cwV_RX8_183 ⟨Nat.le_of_ble_eq_true rfl, Nat.le_of_ble_eq_true rfl⟩ (T_X8_here hfl fl _ _ hv0 _ h47) rfl rfl rfl (Nat.le_of_ble_eq_true rfl) dX8_readBooking_11 ?_
  refine E_istore_n (j := 1) (i := 1) (L' := [(1, .int q46), (0, .ref v0)]) rfl (Nat.le_of_ble_eq_true rfl) rfl dX8_readBooking_14 ?_
  refine E_aload_n (j := 0) (i := 0) (q := 1) rfl rfl dX8_readBooking_15 ?_
  refine gf_RX8_177 rfl hv0 (shape_ord hv0).1 dX8_readBooking_16 ?_
  refine E_if_ne (tgt := 26) rfl dX8_readBooking_19 (fun c48 => ?_) (fun c48 => ?_)
  · have hF := ite_f hF c48
    refine E_iload_n (j := 1) (i := 1) (q := 0) rfl rfl dX8_readBooking_26 ?_
    refine E_bipush (v := (116 : Int32)) rfl dX8_readBooking_27 ?_
    refine E_icmp_ne (tgt := 36) rfl dX8_readBooking_29 (fun c49 => ?_) (fun c49 => ?_)
    · have hF := ite_f hF c49
      refine E_iload_n (j := 1) (i := 1) (q := 0) rfl rfl dX8_readBooking_36 ?_
      refine E_bipush (v := (99 : Int32)) rfl dX8_readBooking_37 ?_
      refine E_icmp_ne (tgt := 46) rfl dX8_readBooking_39 (fun c50 => ?_) (fun c50 => ?_)
      · have hF := ite_f hF c50
        refine E_iload_n (j := 1) (i := 1) (q := 0) rfl rfl dX8_readBooking_46 ?_
        refine E_bipush (v := (109 : Int32)) rfl dX8_readBooking_47 ?_
        refine E_icmp_ne (tgt := 56) rfl dX8_readBooking_49 (fun c51 => ?_) (fun c51 => ?_)
        · have hF := ite_f hF c51
          refine E_iconst (v := (-1 : Int32)) rfl dX8_readBooking_56 ?_
          refine E_sub [1] rfl ?_
          exact T_X8_readBooking_57 hfl fl hr  _ _ _ hv0 hF
        · have hF := ite_t hF c51
          refine E_iconst (v := (2 : Int32)) rfl dX8_readBooking_52 ?_
          refine E_goto (tgt := 57) rfl dX8_readBooking_53 ?_
          refine E_sub [1] rfl ?_
          exact T_X8_readBooking_57 hfl fl hr  _ _ _ hv0 hF
      · have hF := ite_t hF c50
        refine E_iconst (v := (1 : Int32)) rfl dX8_readBooking_42 ?_
        refine E_goto (tgt := 57) rfl dX8_readBooking_43 ?_
        refine E_sub [1] rfl ?_
        exact T_X8_readBooking_57 hfl fl hr  _ _ _ hv0 hF
    · have hF := ite_t hF c49
      refine E_iconst (v := (0 : Int32)) rfl dX8_readBooking_32 ?_
      refine E_goto (tgt := 57) rfl dX8_readBooking_33 ?_
      refine E_sub [1] rfl ?_
      exact T_X8_readBooking_57 hfl fl hr  _ _ _ hv0 hF
  · have hF := ite_t hF c48
    refine E_iconst (v := (-1 : Int32)) rfl dX8_readBooking_22 ?_
    refine E_goto (tgt := 57) rfl dX8_readBooking_23 ?_
    refine E_sub [1] rfl ?_
    exact T_X8_readBooking_57 hfl fl hr  _ _ _ hv0 hF
set_option maxHeartbeats 4000000 in
set_option maxRecDepth 100000 in
theorem T_X8_faultPosition {l : Launch} (hfl : l.stackTraces = false) (fl : Nat) (v0 : Nat) (s : Mem) (hv0 : shape v0 = some (.inl 10)) (ρ : (Int32 × Mem)) (hF : F_X8_faultPosition fl v0 s = some ρ) : MetN l X_X8_faultPosition false NF s [.ref v0] (.inr (some (.int ρ.1)), NF, ρ.2) := by
  unfold F_X8_faultPosition at hF
  obtain ⟨r, hr⟩ : ∃ r : Rs, r = (.inr (some (.int ρ.1)), NF, ρ.2) := ⟨_, rfl⟩
  rw [← hr]
  refine met_of_E rfl rfl (by decide +kernel) hfl rfl (Nat.le_of_ble_eq_true rfl) ?_
  show E l X_X8_faultPosition r false NF s 0 0 0 [(0, .ref v0)] []
  refine E_aload_n (j := 0) (i := 0) (q := 0) rfl rfl dX8_faultPosition_0 ?_
  refine E_iconst (v := (0 : Int32)) rfl dX8_faultPosition_1 ?_
  refine pf_RX8_42 rfl hv0 (shape_ord hv0).1 dX8_faultPosition_2 ?_
  obtain ⟨m1, e2, hF⟩ := nx_inv hF
  refine E_mem e2 ?_
  refine E_aload_n (j := 0) (i := 0) (q := 0) rfl rfl dX8_faultPosition_5 ?_
  refine gf_RX8_38 rfl hv0 (shape_ord hv0).1 dX8_faultPosition_6 ?_
  exact E_iret (Or.inl rfl) rfl (by cases hF; exact hr) dX8_faultPosition_9
set_option maxHeartbeats 4000000 in
set_option maxRecDepth 100000 in
theorem T_X8_refusal {l : Launch} (hfl : l.stackTraces = false) (fl : Nat) (v0 : Nat) (s : Mem) (hv0 : shape v0 = some (.inl 10)) (ρ : (Int32 × Mem)) (hF : F_X8_refusal fl v0 s = some ρ) : MetN l X_X8_refusal false NF s [.ref v0] (.inr (some (.int ρ.1)), NF, ρ.2) := by
  unfold F_X8_refusal at hF
  obtain ⟨r, hr⟩ : ∃ r : Rs, r = (.inr (some (.int ρ.1)), NF, ρ.2) := ⟨_, rfl⟩
  rw [← hr]
  refine met_of_E rfl rfl (by decide +kernel) hfl rfl (Nat.le_of_ble_eq_true rfl) ?_
  show E l X_X8_refusal r false NF s 0 0 0 [(0, .ref v0)] []
  refine E_aload_n (j := 0) (i := 0) (q := 0) rfl rfl dX8_refusal_0 ?_
  refine E_aload_n (j := 0) (i := 0) (q := 0) rfl rfl dX8_refusal_1 ?_
  refine gf_RX8_164 rfl hv0 (shape_ord hv0).1 dX8_refusal_2 ?_
  refine E_if_ne (tgt := 12) rfl dX8_refusal_5 (fun c1 => ?_) (fun c1 => ?_)
  · have hF := ite_f hF c1
    refine E_iconst (v := (0 : Int32)) rfl dX8_refusal_12 ?_
    refine pf_RX8_42 rfl hv0 (shape_ord hv0).1 dX8_refusal_13 ?_
    obtain ⟨m2, e3, hF⟩ := nx_inv hF
    refine E_mem e3 ?_
    refine E_aload_n (j := 0) (i := 0) (q := 0) rfl rfl dX8_refusal_16 ?_
    refine gf_RX8_164 rfl hv0 (shape_ord hv0).1 dX8_refusal_17 ?_
    exact E_iret (Or.inl rfl) rfl (by cases hF; exact hr) dX8_refusal_20
  · have hF := ite_t hF c1
    refine E_iconst (v := (1 : Int32)) rfl dX8_refusal_8 ?_
    refine E_goto (tgt := 13) rfl dX8_refusal_9 ?_
    refine pf_RX8_42 rfl hv0 (shape_ord hv0).1 dX8_refusal_13 ?_
    obtain ⟨m4, e5, hF⟩ := nx_inv hF
    refine E_mem e5 ?_
    refine E_aload_n (j := 0) (i := 0) (q := 0) rfl rfl dX8_refusal_16 ?_
    refine gf_RX8_164 rfl hv0 (shape_ord hv0).1 dX8_refusal_17 ?_
    exact E_iret (Or.inl rfl) rfl (by cases hF; exact hr) dX8_refusal_20
set_option maxHeartbeats 4000000 in
set_option maxRecDepth 100000 in
theorem T_X8_party_28 {l : Launch} (hfl : l.stackTraces = false) (fl : Nat) {r : Rs} {ρ : (Int32 × Mem)} (hr : r = (.inr (some (.int ρ.1)), NF, ρ.2)) (v0 : Nat) (v1 : Int32) (v2 : Int32) (w0 : Nat) (w1 : Int32) (s : Mem) (hv0 : shape v0 = some (.inl 10)) (hw0 : shape w0 = some (.inl 10)) (hF : B_X8_party_28 fl v0 v1 v2 w0 w1 s = some ρ) : E l X_X8_party r false NF s 0 0 28 [(0, .ref v0), (1, .int v1), (2, .int v2)] [.int w1, .ref w0] := by
  unfold B_X8_party_28 at hF
  refine pf_RX8_42 rfl hw0 (shape_ord hw0).1 dX8_party_28 ?_
  obtain ⟨m1, e2, hF⟩ := nx_inv hF
  refine E_mem e2 ?_
  refine E_aload_n (j := 0) (i := 0) (q := 0) rfl rfl dX8_party_31 ?_
  refine gf_RX8_42 rfl hv0 (shape_ord hv0).1 dX8_party_32 ?_
  refine E_if_ne (tgt := 47) rfl dX8_party_35 (fun c3 => ?_) (fun c3 => ?_)
  · have hF := ite_f hF c3
    refine E_iconst (v := (0 : Int32)) rfl dX8_party_47 ?_
    exact E_iret (Or.inl rfl) rfl (by cases hF; exact hr) dX8_party_48
  · have hF := ite_t hF c3
    refine E_aload_n (j := 0) (i := 0) (q := 0) rfl rfl dX8_party_38 ?_
    refine E_iload_n (j := 1) (i := 1) (q := 1) rfl rfl dX8_party_39 ?_
    refine E_iload_n (j := 2) (i := 2) (q := 2) rfl rfl dX8_party_40 ?_
    obtain ⟨q4, h5, hF⟩ := bd_inv hF
    refine E_callV (na := 2) (As := [.int v1, .int v2]) (S := []) (kc := 0) (ks := 0) (ci := 10) rfl rfl hv0 (shape_ord hv0).1 cwV_RX8_97 ⟨Nat.le_of_ble_eq_true rfl, Nat.le_of_ble_eq_true rfl⟩ (T_X8_of hfl fl _ _ _ _ hv0 _ h5) rfl rfl rfl (Nat.le_of_ble_eq_true rfl) dX8_party_41 ?_
    refine E_goto (tgt := 48) rfl dX8_party_44 ?_
    exact E_iret (Or.inl rfl) rfl (by cases hF; exact hr) dX8_party_48
set_option maxHeartbeats 4000000 in
set_option maxRecDepth 100000 in
theorem T_X8_party {l : Launch} (hfl : l.stackTraces = false) (fl : Nat) (v0 : Nat) (v1 : Int32) (v2 : Int32) (s : Mem) (hv0 : shape v0 = some (.inl 10)) (ρ : (Int32 × Mem)) (hF : F_X8_party fl v0 v1 v2 s = some ρ) : MetN l X_X8_party false NF s [.ref v0, .int v1, .int v2] (.inr (some (.int ρ.1)), NF, ρ.2) := by
  unfold F_X8_party at hF
  obtain ⟨r, hr⟩ : ∃ r : Rs, r = (.inr (some (.int ρ.1)), NF, ρ.2) := ⟨_, rfl⟩
  rw [← hr]
  refine met_of_E rfl rfl (by decide +kernel) hfl rfl (Nat.le_of_ble_eq_true rfl) ?_
  show E l X_X8_party r false NF s 0 0 0 [(0, .ref v0), (1, .int v1), (2, .int v2)] []
  refine E_aload_n (j := 0) (i := 0) (q := 0) rfl rfl dX8_party_0 ?_
  refine E_aload_n (j := 0) (i := 0) (q := 0) rfl rfl dX8_party_1 ?_
  refine E_iload_n (j := 1) (i := 1) (q := 1) rfl rfl dX8_party_2 ?_
  obtain ⟨q6, h7, hF⟩ := bd_inv hF
  refine E_callV (na := 1) (As := [.int v1]) (S := [.ref v0]) (kc := 0) (ks := 0) (ci := 10) rfl rfl hv0 (shape_ord hv0).1 cwV_RX8_94 ⟨Nat.le_of_ble_eq_true rfl, Nat.le_of_ble_eq_true rfl⟩ (T_X8_isParty hfl fl _ _ _ hv0 _ h7) rfl rfl rfl (Nat.le_of_ble_eq_true rfl) dX8_party_3 ?_
  refine E_if_ne (tgt := 13) rfl dX8_party_6 (fun c8 => ?_) (fun c8 => ?_)
  · have hF := ite_f hF c8
    refine E_iload_n (j := 2) (i := 2) (q := 2) rfl rfl dX8_party_13 ?_
    refine E_iconst (v := (0 : Int32)) rfl dX8_party_14 ?_
    refine E_bipush (v := (9 : Int32)) rfl dX8_party_15 ?_
    obtain ⟨q9, h10, hF⟩ := bd_inv hF
    refine E_callS (na := 3) (As := [.int v2, .int (0 : Int32), .int (9 : Int32)]) (S := [.ref v0]) (kc := 0) (ks := 0) cwS_RX8_52 ⟨Nat.le_of_ble_eq_true rfl, Nat.le_of_ble_eq_true rfl⟩ (T_X8_in hfl fl _ _ _ _  _ h10) rfl rfl rfl (Nat.le_of_ble_eq_true rfl) dX8_party_17 ?_
    refine E_if_eq (tgt := 27) rfl dX8_party_20 (fun c11 => ?_) (fun c11 => ?_)
    · have hF := ite_t hF c11
      refine E_iconst (v := (2 : Int32)) rfl dX8_party_27 ?_
      refine E_sub [0, 1, 2] rfl ?_
      exact T_X8_party_28 hfl fl hr  _ _ _ _ _ _ hv0 hv0 hF
    · have hF := ite_f hF c11
      refine E_iconst (v := (0 : Int32)) rfl dX8_party_23 ?_
      refine E_goto (tgt := 28) rfl dX8_party_24 ?_
      refine E_sub [0, 1, 2] rfl ?_
      exact T_X8_party_28 hfl fl hr  _ _ _ _ _ _ hv0 hv0 hF
  · have hF := ite_t hF c8
    refine E_iconst (v := (1 : Int32)) rfl dX8_party_9 ?_
    refine E_goto (tgt := 28) rfl dX8_party_10 ?_
    refine E_sub [0, 1, 2] rfl ?_
    exact T_X8_party_28 hfl fl hr  _ _ _ _ _ _ hv0 hv0 hF
set_option maxHeartbeats 4000000 in
set_option maxRecDepth 100000 in
theorem T_X8_moves {l : Launch} (hfl : l.stackTraces = false) (fl : Nat) (v0 : Nat) (s : Mem) (hv0 : shape v0 = some (.inl 10)) (ρ : (Int32 × Mem)) (hF : F_X8_moves fl v0 s = some ρ) : MetN l X_X8_moves false NF s [.ref v0] (.inr (some (.int ρ.1)), NF, ρ.2) := by
  unfold F_X8_moves at hF
  obtain ⟨r, hr⟩ : ∃ r : Rs, r = (.inr (some (.int ρ.1)), NF, ρ.2) := ⟨_, rfl⟩
  rw [← hr]
  refine met_of_E rfl rfl (by decide +kernel) hfl rfl (Nat.le_of_ble_eq_true rfl) ?_
  show E l X_X8_moves r false NF s 0 0 0 [(0, .ref v0)] []
  refine E_aload_n (j := 0) (i := 0) (q := 0) rfl rfl dX8_moves_0 ?_
  refine E_iconst (v := (0 : Int32)) rfl dX8_moves_1 ?_
  refine pf_RX8_42 rfl hv0 (shape_ord hv0).1 dX8_moves_2 ?_
  obtain ⟨m1, e2, hF⟩ := nx_inv hF
  refine E_mem e2 ?_
  refine E_aload_n (j := 0) (i := 0) (q := 0) rfl rfl dX8_moves_5 ?_
  refine gf_RX8_171 rfl hv0 (shape_ord hv0).1 dX8_moves_6 ?_
  exact E_iret (Or.inl rfl) rfl (by cases hF; exact hr) dX8_moves_9
set_option maxHeartbeats 4000000 in
set_option maxRecDepth 100000 in
theorem T_X8_moveOf_33 {l : Launch} (hfl : l.stackTraces = false) (fl : Nat) {r : Rs} {ρ : (Int32 × Mem)} (hr : r = (.inr (some (.int ρ.1)), NF, ρ.2)) (v0 : Nat) (v1 : Int32) (v2 : Int32) (w0 : Nat) (w1 : Int32) (s : Mem) (hv0 : shape v0 = some (.inl 10)) (hw0 : shape w0 = some (.inl 10)) (hF : B_X8_moveOf_33 fl v0 v1 v2 w0 w1 s = some ρ) : E l X_X8_moveOf r false NF s 0 0 33 [(0, .ref v0), (1, .int v1), (2, .int v2)] [.int w1, .ref w0] := by
  unfold B_X8_moveOf_33 at hF
  refine pf_RX8_42 rfl hw0 (shape_ord hw0).1 dX8_moveOf_33 ?_
  obtain ⟨m1, e2, hF⟩ := nx_inv hF
  refine E_mem e2 ?_
  refine E_aload_n (j := 0) (i := 0) (q := 0) rfl rfl dX8_moveOf_36 ?_
  refine gf_RX8_42 rfl hv0 (shape_ord hv0).1 dX8_moveOf_37 ?_
  refine E_if_ne (tgt := 56) rfl dX8_moveOf_40 (fun c3 => ?_) (fun c3 => ?_)
  · have hF := ite_f hF c3
    refine E_iconst (v := (0 : Int32)) rfl dX8_moveOf_56 ?_
    exact E_iret (Or.inl rfl) rfl (by cases hF; exact hr) dX8_moveOf_57
  · have hF := ite_t hF c3
    refine E_aload_n (j := 0) (i := 0) (q := 0) rfl rfl dX8_moveOf_43 ?_
    obtain ⟨r4, h5, hF⟩ := bd_inv hF
    have h5 := ldA_inv h5
    refine gf_RX8_31 rfl hv0 (shape_ord hv0).1 h5.1 dX8_moveOf_44 ?_
    refine E_iconst (v := (3 : Int32)) rfl dX8_moveOf_47 ?_
    refine E_iload_n (j := 1) (i := 1) (q := 1) rfl rfl dX8_moveOf_48 ?_
    refine E_imul dX8_moveOf_49 ?_
    refine E_iload_n (j := 2) (i := 2) (q := 2) rfl rfl dX8_moveOf_50 ?_
    refine E_iadd dX8_moveOf_51 ?_
    obtain ⟨h6, hF⟩ := gd_inv hF
    refine E_iald _ h5.2 (shape_ord h5.2).1 h6 dX8_moveOf_52 ?_
    refine E_goto (tgt := 57) rfl dX8_moveOf_53 ?_
    exact E_iret (Or.inl rfl) rfl (by cases hF; exact hr) dX8_moveOf_57
set_option maxHeartbeats 4000000 in
set_option maxRecDepth 100000 in
theorem T_X8_moveOf {l : Launch} (hfl : l.stackTraces = false) (fl : Nat) (v0 : Nat) (v1 : Int32) (v2 : Int32) (s : Mem) (hv0 : shape v0 = some (.inl 10)) (ρ : (Int32 × Mem)) (hF : F_X8_moveOf fl v0 v1 v2 s = some ρ) : MetN l X_X8_moveOf false NF s [.ref v0, .int v1, .int v2] (.inr (some (.int ρ.1)), NF, ρ.2) := by
  unfold F_X8_moveOf at hF
  obtain ⟨r, hr⟩ : ∃ r : Rs, r = (.inr (some (.int ρ.1)), NF, ρ.2) := ⟨_, rfl⟩
  rw [← hr]
  refine met_of_E rfl rfl (by decide +kernel) hfl rfl (Nat.le_of_ble_eq_true rfl) ?_
  show E l X_X8_moveOf r false NF s 0 0 0 [(0, .ref v0), (1, .int v1), (2, .int v2)] []
  refine E_aload_n (j := 0) (i := 0) (q := 0) rfl rfl dX8_moveOf_0 ?_
  refine E_iload_n (j := 1) (i := 1) (q := 1) rfl rfl dX8_moveOf_1 ?_
  refine E_iconst (v := (0 : Int32)) rfl dX8_moveOf_2 ?_
  refine E_aload_n (j := 0) (i := 0) (q := 0) rfl rfl dX8_moveOf_3 ?_
  refine gf_RX8_171 rfl hv0 (shape_ord hv0).1 dX8_moveOf_4 ?_
  refine E_iconst (v := (1 : Int32)) rfl dX8_moveOf_7 ?_
  refine E_isub dX8_moveOf_8 ?_
  obtain ⟨q7, h8, hF⟩ := bd_inv hF
  refine E_callS (na := 3) (As := [.int v1, .int (0 : Int32), .int ((gI s v0 15) - (1 : Int32))]) (S := [.ref v0]) (kc := 0) (ks := 0) cwS_RX8_52 ⟨Nat.le_of_ble_eq_true rfl, Nat.le_of_ble_eq_true rfl⟩ (T_X8_in hfl fl _ _ _ _  _ h8) rfl rfl rfl (Nat.le_of_ble_eq_true rfl) dX8_moveOf_9 ?_
  refine E_if_ne (tgt := 19) rfl dX8_moveOf_12 (fun c9 => ?_) (fun c9 => ?_)
  · have hF := ite_f hF c9
    refine E_iload_n (j := 2) (i := 2) (q := 2) rfl rfl dX8_moveOf_19 ?_
    refine E_iconst (v := (0 : Int32)) rfl dX8_moveOf_20 ?_
    refine E_iconst (v := (2 : Int32)) rfl dX8_moveOf_21 ?_
    obtain ⟨q10, h11, hF⟩ := bd_inv hF
    refine E_callS (na := 3) (As := [.int v2, .int (0 : Int32), .int (2 : Int32)]) (S := [.ref v0]) (kc := 0) (ks := 0) cwS_RX8_52 ⟨Nat.le_of_ble_eq_true rfl, Nat.le_of_ble_eq_true rfl⟩ (T_X8_in hfl fl _ _ _ _  _ h11) rfl rfl rfl (Nat.le_of_ble_eq_true rfl) dX8_moveOf_22 ?_
    refine E_if_eq (tgt := 32) rfl dX8_moveOf_25 (fun c12 => ?_) (fun c12 => ?_)
    · have hF := ite_t hF c12
      refine E_iconst (v := (2 : Int32)) rfl dX8_moveOf_32 ?_
      refine E_sub [0, 1, 2] rfl ?_
      exact T_X8_moveOf_33 hfl fl hr  _ _ _ _ _ _ hv0 hv0 hF
    · have hF := ite_f hF c12
      refine E_iconst (v := (0 : Int32)) rfl dX8_moveOf_28 ?_
      refine E_goto (tgt := 33) rfl dX8_moveOf_29 ?_
      refine E_sub [0, 1, 2] rfl ?_
      exact T_X8_moveOf_33 hfl fl hr  _ _ _ _ _ _ hv0 hv0 hF
  · have hF := ite_t hF c9
    refine E_iconst (v := (1 : Int32)) rfl dX8_moveOf_15 ?_
    refine E_goto (tgt := 33) rfl dX8_moveOf_16 ?_
    refine E_sub [0, 1, 2] rfl ?_
    exact T_X8_moveOf_33 hfl fl hr  _ _ _ _ _ _ hv0 hv0 hF
set_option maxHeartbeats 4000000 in
set_option maxRecDepth 100000 in
theorem T_X8_isAhead {l : Launch} (hfl : l.stackTraces = false) (fl : Nat) (v0 : Nat) (v1 : Int32) (s : Mem) (hv0 : shape v0 = some (.inl 10)) (ρ : Int32) (hF : F_X8_isAhead fl v0 v1 s = some ρ) : MetN l X_X8_isAhead false NF s [.ref v0, .int v1] (.inr (some (.int ρ)), NF, s) := by
  unfold F_X8_isAhead at hF
  obtain ⟨r, hr⟩ : ∃ r : Rs, r = (.inr (some (.int ρ)), NF, s) := ⟨_, rfl⟩
  rw [← hr]
  refine met_of_E rfl rfl (by decide +kernel) hfl rfl (Nat.le_of_ble_eq_true rfl) ?_
  show E l X_X8_isAhead r false NF s 0 0 0 [(0, .ref v0), (1, .int v1)] []
  refine E_aload_n (j := 0) (i := 0) (q := 0) rfl rfl dX8_isAhead_0 ?_
  refine E_iload_n (j := 1) (i := 1) (q := 1) rfl rfl dX8_isAhead_1 ?_
  refine E_bipush (v := (8 : Int32)) rfl dX8_isAhead_2 ?_
  obtain ⟨q1, h2, hF⟩ := bd_inv hF
  refine E_callV (na := 2) (As := [.int v1, .int (8 : Int32)]) (S := []) (kc := 0) (ks := 0) (ci := 10) rfl rfl hv0 (shape_ord hv0).1 cwV_RX8_97 ⟨Nat.le_of_ble_eq_true rfl, Nat.le_of_ble_eq_true rfl⟩ (T_X8_of hfl fl _ _ _ _ hv0 _ h2) rfl rfl rfl (Nat.le_of_ble_eq_true rfl) dX8_isAhead_4 ?_
  refine E_iconst (v := (1 : Int32)) rfl dX8_isAhead_7 ?_
  refine E_icmp_ne (tgt := 30) rfl dX8_isAhead_8 (fun c3 => ?_) (fun c3 => ?_)
  · have hF := ite_f hF c3
    refine E_iconst (v := (0 : Int32)) rfl dX8_isAhead_30 ?_
    exact E_zret (ty := .boolean) (Or.inl rfl) rfl rfl (by cases hF; exact hr) dX8_isAhead_31
  · have hF := ite_t hF c3
    refine E_aload_n (j := 0) (i := 0) (q := 0) rfl rfl dX8_isAhead_11 ?_
    refine E_iload_n (j := 1) (i := 1) (q := 1) rfl rfl dX8_isAhead_12 ?_
    refine E_iconst (v := (4 : Int32)) rfl dX8_isAhead_13 ?_
    obtain ⟨q4, h5, hF⟩ := bd_inv hF
    refine E_callV (na := 2) (As := [.int v1, .int (4 : Int32)]) (S := []) (kc := 0) (ks := 0) (ci := 10) rfl rfl hv0 (shape_ord hv0).1 cwV_RX8_97 ⟨Nat.le_of_ble_eq_true rfl, Nat.le_of_ble_eq_true rfl⟩ (T_X8_of hfl fl _ _ _ _ hv0 _ h5) rfl rfl rfl (Nat.le_of_ble_eq_true rfl) dX8_isAhead_14 ?_
    refine E_aload_n (j := 0) (i := 0) (q := 0) rfl rfl dX8_isAhead_17 ?_
    obtain ⟨r6, h7, hF⟩ := bd_inv hF
    have h7 := ldA_inv h7
    refine gf_RX8_9 rfl hv0 (shape_ord hv0).1 h7.1 dX8_isAhead_18 ?_
    refine E_iconst (v := (3 : Int32)) rfl dX8_isAhead_21 ?_
    obtain ⟨h8, hF⟩ := gd_inv hF
    refine E_iald _ h7.2 (shape_ord h7.2).1 h8 dX8_isAhead_22 ?_
    refine E_icmp_lt (tgt := 30) rfl dX8_isAhead_23 (fun c9 => ?_) (fun c9 => ?_)
    · have hF := ite_t hF c9
      refine E_iconst (v := (0 : Int32)) rfl dX8_isAhead_30 ?_
      exact E_zret (ty := .boolean) (Or.inl rfl) rfl rfl (by cases hF; exact hr) dX8_isAhead_31
    · have hF := ite_f hF c9
      refine E_iconst (v := (1 : Int32)) rfl dX8_isAhead_26 ?_
      refine E_goto (tgt := 31) rfl dX8_isAhead_27 ?_
      exact E_zret (ty := .boolean) (Or.inl rfl) rfl rfl (by cases hF; exact hr) dX8_isAhead_31
set_option maxHeartbeats 4000000 in
set_option maxRecDepth 100000 in
theorem T_X8_comesAs {l : Launch} (hfl : l.stackTraces = false) (fl : Nat) (v0 : Nat) (v1 : Int32) (s : Mem) (hv0 : shape v0 = some (.inl 10)) (ρ : Mem) (hF : F_X8_comesAs fl v0 v1 s = some ρ) : MetN l X_X8_comesAs false NF s [.ref v0, .int v1] (.inr none, NF, ρ) := by
  unfold F_X8_comesAs at hF
  obtain ⟨r, hr⟩ : ∃ r : Rs, r = (.inr none, NF, ρ) := ⟨_, rfl⟩
  rw [← hr]
  refine met_of_E rfl rfl (by decide +kernel) hfl rfl (Nat.le_of_ble_eq_true rfl) ?_
  show E l X_X8_comesAs r false NF s 0 0 0 [(0, .ref v0), (1, .int v1)] []
  refine E_aload_n (j := 0) (i := 0) (q := 0) rfl rfl dX8_comesAs_0 ?_
  refine E_iload_n (j := 1) (i := 1) (q := 1) rfl rfl dX8_comesAs_1 ?_
  obtain ⟨q1, h2, hF⟩ := bd_inv hF
  refine E_callV (na := 1) (As := [.int v1]) (S := []) (kc := 0) (ks := 0) (ci := 10) rfl rfl hv0 (shape_ord hv0).1 cwV_RX8_67 ⟨Nat.le_of_ble_eq_true rfl, Nat.le_of_ble_eq_true rfl⟩ (T_X8_loads hfl fl _ _ _ hv0 _ h2) rfl rfl rfl (Nat.le_of_ble_eq_true rfl) dX8_comesAs_2 ?_
  refine E_aload_n (j := 0) (i := 0) (q := 0) rfl rfl dX8_comesAs_5 ?_
  refine E_aload_n (j := 0) (i := 0) (q := 0) rfl rfl dX8_comesAs_6 ?_
  refine E_iload_n (j := 1) (i := 1) (q := 1) rfl rfl dX8_comesAs_7 ?_
  refine E_iconst (v := (3 : Int32)) rfl dX8_comesAs_8 ?_
  obtain ⟨q3, h4, hF⟩ := bd_inv hF
  refine E_callV (na := 2) (As := [.int v1, .int (3 : Int32)]) (S := [.ref v0]) (kc := 0) (ks := 0) (ci := 10) rfl rfl hv0 (shape_ord hv0).1 cwV_RX8_97 ⟨Nat.le_of_ble_eq_true rfl, Nat.le_of_ble_eq_true rfl⟩ (T_X8_of hfl fl _ _ _ _ hv0 _ h4) rfl rfl rfl (Nat.le_of_ble_eq_true rfl) dX8_comesAs_9 ?_
  refine E_aload_n (j := 0) (i := 0) (q := 0) rfl rfl dX8_comesAs_12 ?_
  refine E_iload_n (j := 1) (i := 1) (q := 1) rfl rfl dX8_comesAs_13 ?_
  refine E_iconst (v := (4 : Int32)) rfl dX8_comesAs_14 ?_
  obtain ⟨q5, h6, hF⟩ := bd_inv hF
  refine E_callV (na := 2) (As := [.int v1, .int (4 : Int32)]) (S := [.int q3, .ref v0]) (kc := 0) (ks := 0) (ci := 10) rfl rfl hv0 (shape_ord hv0).1 cwV_RX8_97 ⟨Nat.le_of_ble_eq_true rfl, Nat.le_of_ble_eq_true rfl⟩ (T_X8_of hfl fl _ _ _ _ hv0 _ h6) rfl rfl rfl (Nat.le_of_ble_eq_true rfl) dX8_comesAs_15 ?_
  refine E_aload_n (j := 0) (i := 0) (q := 0) rfl rfl dX8_comesAs_18 ?_
  refine E_iload_n (j := 1) (i := 1) (q := 1) rfl rfl dX8_comesAs_19 ?_
  refine E_iconst (v := (5 : Int32)) rfl dX8_comesAs_20 ?_
  obtain ⟨q7, h8, hF⟩ := bd_inv hF
  refine E_callV (na := 2) (As := [.int v1, .int (5 : Int32)]) (S := [.int q5, .int q3, .ref v0]) (kc := 0) (ks := 0) (ci := 10) rfl rfl hv0 (shape_ord hv0).1 cwV_RX8_97 ⟨Nat.le_of_ble_eq_true rfl, Nat.le_of_ble_eq_true rfl⟩ (T_X8_of hfl fl _ _ _ _ hv0 _ h8) rfl rfl rfl (Nat.le_of_ble_eq_true rfl) dX8_comesAs_21 ?_
  obtain ⟨q9, h10, hF⟩ := bd_inv hF
  refine E_callV (na := 3) (As := [.int q3, .int q5, .int q7]) (S := []) (kc := 0) (ks := 0) (ci := 10) rfl rfl hv0 (shape_ord hv0).1 cwV_RX8_157 ⟨Nat.le_of_ble_eq_true rfl, Nat.le_of_ble_eq_true rfl⟩ (T_X8_comes hfl fl _ _ _ _ _ hv0 _ h10) rfl rfl rfl (Nat.le_of_ble_eq_true rfl) dX8_comesAs_24 ?_
  exact E_vret (Or.inl rfl) rfl (by cases hF; exact hr) dX8_comesAs_27
set_option maxHeartbeats 4000000 in
set_option maxRecDepth 100000 in
theorem T_X8_move_99 {l : Launch} (hfl : l.stackTraces = false) (fl : Nat) {r : Rs} {ρ : (Int32 × Mem)} (hr : r = (.inr (some (.int ρ.1)), NF, ρ.2)) (v0 : Nat) (v1 : Int32) (v2 : Int32) (w0 : Nat) (w1 : Int32) (s : Mem) (hv0 : shape v0 = some (.inl 10)) (hw0 : shape w0 = some (.inl 10)) (hF : B_X8_move_99 fl v0 v1 v2 w0 w1 s = some ρ) : E l X_X8_move r false NF s 0 0 99 [(0, .ref v0), (1, .int v1), (2, .int v2)] [.int w1, .ref w0] := by
  unfold B_X8_move_99 at hF
  refine pf_RX8_42 rfl hw0 (shape_ord hw0).1 dX8_move_99 ?_
  obtain ⟨m1, e2, hF⟩ := nx_inv hF
  refine E_mem e2 ?_
  refine E_aload_n (j := 0) (i := 0) (q := 0) rfl rfl dX8_move_102 ?_
  refine gf_RX8_42 rfl hv0 (shape_ord hv0).1 dX8_move_103 ?_
  refine E_if_eq (tgt := 111) rfl dX8_move_106 (fun c3 => ?_) (fun c3 => ?_)
  · have hF := ite_t hF c3
    refine E_aload_n (j := 0) (i := 0) (q := 0) rfl rfl dX8_move_111 ?_
    obtain ⟨q4, h5, hF⟩ := bd_inv hF
    refine E_callV (na := 0) (As := []) (S := []) (kc := 0) (ks := 0) (ci := 10) rfl rfl hv0 (shape_ord hv0).1 cwV_RX8_56 ⟨Nat.le_of_ble_eq_true rfl, Nat.le_of_ble_eq_true rfl⟩ (T_X8_keeps hfl fl _ _ hv0 _ h5) rfl rfl rfl (Nat.le_of_ble_eq_true rfl) dX8_move_112 ?_
    refine E_aload_n (j := 0) (i := 0) (q := 0) rfl rfl dX8_move_115 ?_
    refine E_iload_n (j := 1) (i := 1) (q := 1) rfl rfl dX8_move_116 ?_
    refine E_bipush (v := (6 : Int32)) rfl dX8_move_117 ?_
    obtain ⟨q6, h7, hF⟩ := bd_inv hF
    refine E_callV (na := 2) (As := [.int v1, .int (6 : Int32)]) (S := []) (kc := 0) (ks := 0) (ci := 10) rfl rfl hv0 (shape_ord hv0).1 cwV_RX8_97 ⟨Nat.le_of_ble_eq_true rfl, Nat.le_of_ble_eq_true rfl⟩ (T_X8_of hfl fl _ _ _ _ hv0 _ h7) rfl rfl rfl (Nat.le_of_ble_eq_true rfl) dX8_move_119 ?_
    refine E_istore_n (j := 3) (i := 3) (L' := [(3, .int q6), (0, .ref v0), (1, .int v1), (2, .int v2)]) rfl (Nat.le_of_ble_eq_true rfl) rfl dX8_move_122 ?_
    refine E_aload_n (j := 0) (i := 0) (q := 1) rfl rfl dX8_move_123 ?_
    refine E_iload_n (j := 1) (i := 1) (q := 2) rfl rfl dX8_move_124 ?_
    refine E_bipush (v := (6 : Int32)) rfl dX8_move_125 ?_
    refine E_iload_n (j := 2) (i := 2) (q := 3) rfl rfl dX8_move_127 ?_
    obtain ⟨q8, h9, hF⟩ := bd_inv hF
    refine E_callV (na := 3) (As := [.int v1, .int (6 : Int32), .int v2]) (S := []) (kc := 0) (ks := 0) (ci := 10) rfl rfl hv0 (shape_ord hv0).1 cwV_RX8_174 ⟨Nat.le_of_ble_eq_true rfl, Nat.le_of_ble_eq_true rfl⟩ (T_X8_lays hfl fl _ _ _ _ _ hv0 _ h9) rfl rfl rfl (Nat.le_of_ble_eq_true rfl) dX8_move_128 ?_
    refine E_iload_n (j := 3) (i := 3) (q := 0) rfl rfl dX8_move_131 ?_
    exact E_iret (Or.inl rfl) rfl (by cases hF; exact hr) dX8_move_132
  · have hF := ite_f hF c3
    refine E_iconst (v := (0 : Int32)) rfl dX8_move_109 ?_
    exact E_iret (Or.inl rfl) rfl (by cases hF; exact hr) dX8_move_110
set_option maxHeartbeats 4000000 in
set_option maxRecDepth 100000 in
theorem T_X8_move_45 {l : Launch} (hfl : l.stackTraces = false) (fl : Nat) {r : Rs} {ρ : (Int32 × Mem)} (hr : r = (.inr (some (.int ρ.1)), NF, ρ.2)) (v0 : Nat) (v1 : Int32) (v2 : Int32) (w0 : Nat) (w1 : Int32) (s : Mem) (hv0 : shape v0 = some (.inl 10)) (hw0 : shape w0 = some (.inl 10)) (hF : B_X8_move_45 fl v0 v1 v2 w0 w1 s = some ρ) : E l X_X8_move r false NF s 0 0 45 [(0, .ref v0), (1, .int v1), (2, .int v2)] [.int w1, .ref w0] := by
  unfold B_X8_move_45 at hF
  refine pf_RX8_42 rfl hw0 (shape_ord hw0).1 dX8_move_45 ?_
  obtain ⟨m10, e11, hF⟩ := nx_inv hF
  refine E_mem e11 ?_
  refine E_aload_n (j := 0) (i := 0) (q := 0) rfl rfl dX8_move_48 ?_
  refine gf_RX8_42 rfl hv0 (shape_ord hv0).1 dX8_move_49 ?_
  refine E_if_eq (tgt := 57) rfl dX8_move_52 (fun c12 => ?_) (fun c12 => ?_)
  · have hF := ite_t hF c12
    refine E_aload_n (j := 0) (i := 0) (q := 0) rfl rfl dX8_move_57 ?_
    refine E_iload_n (j := 1) (i := 1) (q := 1) rfl rfl dX8_move_58 ?_
    obtain ⟨q13, h14, hF⟩ := bd_inv hF
    refine E_callV (na := 1) (As := [.int v1]) (S := []) (kc := 0) (ks := 0) (ci := 10) rfl rfl hv0 (shape_ord hv0).1 cwV_RX8_207 ⟨Nat.le_of_ble_eq_true rfl, Nat.le_of_ble_eq_true rfl⟩ (T_X8_comesAs hfl fl _ _ _ hv0 _ h14) rfl rfl rfl (Nat.le_of_ble_eq_true rfl) dX8_move_59 ?_
    refine E_aload_n (j := 0) (i := 0) (q := 0) rfl rfl dX8_move_62 ?_
    refine E_aload_n (j := 0) (i := 0) (q := 0) rfl rfl dX8_move_63 ?_
    refine E_aload_n (j := 0) (i := 0) (q := 0) rfl rfl dX8_move_64 ?_
    refine E_iload_n (j := 1) (i := 1) (q := 1) rfl rfl dX8_move_65 ?_
    refine E_iconst (v := (0 : Int32)) rfl dX8_move_66 ?_
    obtain ⟨q15, h16, hF⟩ := bd_inv hF
    refine E_callV (na := 2) (As := [.int v1, .int (0 : Int32)]) (S := [.ref v0, .ref v0]) (kc := 0) (ks := 0) (ci := 10) rfl rfl hv0 (shape_ord hv0).1 cwV_RX8_97 ⟨Nat.le_of_ble_eq_true rfl, Nat.le_of_ble_eq_true rfl⟩ (T_X8_of hfl fl _ _ _ _ hv0 _ h16) rfl rfl rfl (Nat.le_of_ble_eq_true rfl) dX8_move_67 ?_
    refine E_aload_n (j := 0) (i := 0) (q := 0) rfl rfl dX8_move_70 ?_
    refine E_iload_n (j := 1) (i := 1) (q := 1) rfl rfl dX8_move_71 ?_
    refine E_iconst (v := (1 : Int32)) rfl dX8_move_72 ?_
    obtain ⟨q17, h18, hF⟩ := bd_inv hF
    refine E_callV (na := 2) (As := [.int v1, .int (1 : Int32)]) (S := [.int q15, .ref v0, .ref v0]) (kc := 0) (ks := 0) (ci := 10) rfl rfl hv0 (shape_ord hv0).1 cwV_RX8_97 ⟨Nat.le_of_ble_eq_true rfl, Nat.le_of_ble_eq_true rfl⟩ (T_X8_of hfl fl _ _ _ _ hv0 _ h18) rfl rfl rfl (Nat.le_of_ble_eq_true rfl) dX8_move_73 ?_
    refine E_aload_n (j := 0) (i := 0) (q := 0) rfl rfl dX8_move_76 ?_
    refine E_iload_n (j := 1) (i := 1) (q := 1) rfl rfl dX8_move_77 ?_
    refine E_iconst (v := (2 : Int32)) rfl dX8_move_78 ?_
    obtain ⟨q19, h20, hF⟩ := bd_inv hF
    refine E_callV (na := 2) (As := [.int v1, .int (2 : Int32)]) (S := [.int q17, .int q15, .ref v0, .ref v0]) (kc := 0) (ks := 0) (ci := 10) rfl rfl hv0 (shape_ord hv0).1 cwV_RX8_97 ⟨Nat.le_of_ble_eq_true rfl, Nat.le_of_ble_eq_true rfl⟩ (T_X8_of hfl fl _ _ _ _ hv0 _ h20) rfl rfl rfl (Nat.le_of_ble_eq_true rfl) dX8_move_79 ?_
    refine E_iload_n (j := 2) (i := 2) (q := 2) rfl rfl dX8_move_82 ?_
    obtain ⟨q21, h22, hF⟩ := bd_inv hF
    refine E_callV (na := 4) (As := [.int q15, .int q17, .int q19, .int v2]) (S := [.ref v0]) (kc := 0) (ks := 0) (ci := 10) rfl rfl hv0 (shape_ord hv0).1 cwV_RX8_167 ⟨Nat.le_of_ble_eq_true rfl, Nat.le_of_ble_eq_true rfl⟩ (T_X8_obstacleOf hfl fl _ _ _ _ _ _ hv0 _ h22) rfl rfl rfl (Nat.le_of_ble_eq_true rfl) dX8_move_83 ?_
    refine E_iconst (v := (1 : Int32)) rfl dX8_move_86 ?_
    refine E_iconst (v := (3 : Int32)) rfl dX8_move_87 ?_
    obtain ⟨q23, h24, hF⟩ := bd_inv hF
    refine E_callS (na := 3) (As := [.int q21.1, .int (1 : Int32), .int (3 : Int32)]) (S := [.ref v0]) (kc := 0) (ks := 0) cwS_RX8_52 ⟨Nat.le_of_ble_eq_true rfl, Nat.le_of_ble_eq_true rfl⟩ (T_X8_in hfl fl _ _ _ _  _ h24) rfl rfl rfl (Nat.le_of_ble_eq_true rfl) dX8_move_88 ?_
    refine E_if_eq (tgt := 98) rfl dX8_move_91 (fun c25 => ?_) (fun c25 => ?_)
    · have hF := ite_t hF c25
      refine E_iconst (v := (0 : Int32)) rfl dX8_move_98 ?_
      refine E_sub [0, 1, 2] rfl ?_
      exact T_X8_move_99 hfl fl hr  _ _ _ _ _ _ hv0 hv0 hF
    · have hF := ite_f hF c25
      refine E_iconst (v := (3 : Int32)) rfl dX8_move_94 ?_
      refine E_goto (tgt := 99) rfl dX8_move_95 ?_
      refine E_sub [0, 1, 2] rfl ?_
      exact T_X8_move_99 hfl fl hr  _ _ _ _ _ _ hv0 hv0 hF
  · have hF := ite_f hF c12
    refine E_iconst (v := (0 : Int32)) rfl dX8_move_55 ?_
    exact E_iret (Or.inl rfl) rfl (by cases hF; exact hr) dX8_move_56
set_option maxHeartbeats 4000000 in
set_option maxRecDepth 100000 in
theorem T_X8_move_40 {l : Launch} (hfl : l.stackTraces = false) (fl : Nat) {r : Rs} {ρ : (Int32 × Mem)} (hr : r = (.inr (some (.int ρ.1)), NF, ρ.2)) (v0 : Nat) (v1 : Int32) (v2 : Int32) (w0 : Nat) (s : Mem) (hv0 : shape v0 = some (.inl 10)) (hw0 : shape w0 = some (.inl 10)) (hF : B_X8_move_40 fl v0 v1 v2 w0 s = some ρ) : E l X_X8_move r false NF s 0 0 40 [(0, .ref v0), (1, .int v1), (2, .int v2)] [.ref w0] := by
  unfold B_X8_move_40 at hF
  refine E_iconst (v := (2 : Int32)) rfl dX8_move_40 ?_
  refine E_goto (tgt := 45) rfl dX8_move_41 ?_
  refine E_sub [0, 1, 2] rfl ?_
  exact T_X8_move_45 hfl fl hr  _ _ _ _ _ _ hv0 hw0 hF
set_option maxHeartbeats 4000000 in
set_option maxRecDepth 100000 in
theorem T_X8_move_17 {l : Launch} (hfl : l.stackTraces = false) (fl : Nat) {r : Rs} {ρ : (Int32 × Mem)} (hr : r = (.inr (some (.int ρ.1)), NF, ρ.2)) (v0 : Nat) (v1 : Int32) (v2 : Int32) (w0 : Nat) (s : Mem) (hv0 : shape v0 = some (.inl 10)) (hw0 : shape w0 = some (.inl 10)) (hF : B_X8_move_17 fl v0 v1 v2 w0 s = some ρ) : E l X_X8_move r false NF s 0 0 17 [(0, .ref v0), (1, .int v1), (2, .int v2)] [.ref w0] := by
  unfold B_X8_move_17 at hF
  refine E_iconst (v := (1 : Int32)) rfl dX8_move_17 ?_
  refine E_goto (tgt := 45) rfl dX8_move_18 ?_
  refine E_sub [0, 1, 2] rfl ?_
  exact T_X8_move_45 hfl fl hr  _ _ _ _ _ _ hv0 hw0 hF
set_option maxHeartbeats 4000000 in
set_option maxRecDepth 100000 in
theorem T_X8_move {l : Launch} (hfl : l.stackTraces = false) (fl : Nat) (v0 : Nat) (v1 : Int32) (v2 : Int32) (s : Mem) (hv0 : shape v0 = some (.inl 10)) (ρ : (Int32 × Mem)) (hF : F_X8_move fl v0 v1 v2 s = some ρ) : MetN l X_X8_move false NF s [.ref v0, .int v1, .int v2] (.inr (some (.int ρ.1)), NF, ρ.2) := by
  unfold F_X8_move at hF
  obtain ⟨r, hr⟩ : ∃ r : Rs, r = (.inr (some (.int ρ.1)), NF, ρ.2) := ⟨_, rfl⟩
  rw [← hr]
  refine met_of_E rfl rfl (by decide +kernel) hfl rfl (Nat.le_of_ble_eq_true rfl) ?_
  show E l X_X8_move r false NF s 0 0 0 [(0, .ref v0), (1, .int v1), (2, .int v2)] []
  refine E_aload_n (j := 0) (i := 0) (q := 0) rfl rfl dX8_move_0 ?_
  refine E_aload_n (j := 0) (i := 0) (q := 0) rfl rfl dX8_move_1 ?_
  refine E_iload_n (j := 1) (i := 1) (q := 1) rfl rfl dX8_move_2 ?_
  obtain ⟨q26, h27, hF⟩ := bd_inv hF
  refine E_callV (na := 1) (As := [.int v1]) (S := [.ref v0]) (kc := 0) (ks := 0) (ci := 10) rfl rfl hv0 (shape_ord hv0).1 cwV_RX8_94 ⟨Nat.le_of_ble_eq_true rfl, Nat.le_of_ble_eq_true rfl⟩ (T_X8_isParty hfl fl _ _ _ hv0 _ h27) rfl rfl rfl (Nat.le_of_ble_eq_true rfl) dX8_move_3 ?_
  refine E_if_eq (tgt := 17) rfl dX8_move_6 (fun c28 => ?_) (fun c28 => ?_)
  · have hF := ite_t hF c28
    refine E_sub [0, 1, 2] rfl ?_
    exact T_X8_move_17 hfl fl hr  _ _ _ _ _ hv0 hv0 hF
  · have hF := ite_f hF c28
    refine E_aload_n (j := 0) (i := 0) (q := 0) rfl rfl dX8_move_9 ?_
    refine E_iload_n (j := 2) (i := 2) (q := 2) rfl rfl dX8_move_10 ?_
    obtain ⟨q29, h30, hF⟩ := bd_inv hF
    refine E_callV (na := 1) (As := [.int v2]) (S := [.ref v0]) (kc := 0) (ks := 0) (ci := 10) rfl rfl hv0 (shape_ord hv0).1 cwV_RX8_59 ⟨Nat.le_of_ble_eq_true rfl, Nat.le_of_ble_eq_true rfl⟩ (T_X8_isPitch hfl fl _ _ _ hv0 _ h30) rfl rfl rfl (Nat.le_of_ble_eq_true rfl) dX8_move_11 ?_
    refine E_if_ne (tgt := 21) rfl dX8_move_14 (fun c31 => ?_) (fun c31 => ?_)
    · have hF := ite_f hF c31
      refine E_aload_n (j := 0) (i := 0) (q := 0) rfl rfl dX8_move_21 ?_
      refine E_iload_n (j := 1) (i := 1) (q := 1) rfl rfl dX8_move_22 ?_
      obtain ⟨q32, h33, hF⟩ := bd_inv hF
      refine E_callV (na := 1) (As := [.int v1]) (S := [.ref v0]) (kc := 0) (ks := 0) (ci := 10) rfl rfl hv0 (shape_ord hv0).1 cwV_RX8_204 ⟨Nat.le_of_ble_eq_true rfl, Nat.le_of_ble_eq_true rfl⟩ (T_X8_isAhead hfl fl _ _ _ hv0 _ h33) rfl rfl rfl (Nat.le_of_ble_eq_true rfl) dX8_move_23 ?_
      refine E_if_eq (tgt := 40) rfl dX8_move_26 (fun c34 => ?_) (fun c34 => ?_)
      · have hF := ite_t hF c34
        refine E_sub [0, 1, 2] rfl ?_
        exact T_X8_move_40 hfl fl hr  _ _ _ _ _ hv0 hv0 hF
      · have hF := ite_f hF c34
        refine E_aload_n (j := 0) (i := 0) (q := 0) rfl rfl dX8_move_29 ?_
        refine E_iload_n (j := 1) (i := 1) (q := 1) rfl rfl dX8_move_30 ?_
        refine E_bipush (v := (6 : Int32)) rfl dX8_move_31 ?_
        obtain ⟨q35, h36, hF⟩ := bd_inv hF
        refine E_callV (na := 2) (As := [.int v1, .int (6 : Int32)]) (S := [.ref v0]) (kc := 0) (ks := 0) (ci := 10) rfl rfl hv0 (shape_ord hv0).1 cwV_RX8_97 ⟨Nat.le_of_ble_eq_true rfl, Nat.le_of_ble_eq_true rfl⟩ (T_X8_of hfl fl _ _ _ _ hv0 _ h36) rfl rfl rfl (Nat.le_of_ble_eq_true rfl) dX8_move_33 ?_
        refine E_iload_n (j := 2) (i := 2) (q := 2) rfl rfl dX8_move_36 ?_
        refine E_icmp_ne (tgt := 44) rfl dX8_move_37 (fun c37 => ?_) (fun c37 => ?_)
        · have hF := ite_f hF c37
          refine E_iconst (v := (0 : Int32)) rfl dX8_move_44 ?_
          refine E_sub [0, 1, 2] rfl ?_
          exact T_X8_move_45 hfl fl hr  _ _ _ _ _ _ hv0 hv0 hF
        · have hF := ite_t hF c37
          refine E_sub [0, 1, 2] rfl ?_
          exact T_X8_move_40 hfl fl hr  _ _ _ _ _ hv0 hv0 hF
    · have hF := ite_t hF c31
      refine E_sub [0, 1, 2] rfl ?_
      exact T_X8_move_17 hfl fl hr  _ _ _ _ _ hv0 hv0 hF
set_option maxHeartbeats 4000000 in
set_option maxRecDepth 100000 in
theorem T_X8_cancel_86 {l : Launch} (hfl : l.stackTraces = false) (fl : Nat) {r : Rs} {ρ : (Int32 × Mem)} (hr : r = (.inr (some (.int ρ.1)), NF, ρ.2)) (v0 : Nat) (v1 : Int32) (w0 : Int32) (s : Mem) (hv0 : shape v0 = some (.inl 10)) (hF : B_X8_cancel_86 fl v0 v1 w0 s = some ρ) : E l X_X8_cancel r false NF s 0 0 86 [(0, .ref v0), (1, .int v1)] [.int w0] := by
  unfold B_X8_cancel_86 at hF
  refine E_istore (L' := [(4, .int w0), (0, .ref v0), (1, .int v1)]) (Nat.le_of_ble_eq_true rfl) rfl dX8_cancel_86 ?_
  refine E_aload_n (j := 0) (i := 0) (q := 1) rfl rfl dX8_cancel_88 ?_
  refine E_iload_n (j := 1) (i := 1) (q := 2) rfl rfl dX8_cancel_89 ?_
  refine E_bipush (v := (8 : Int32)) rfl dX8_cancel_90 ?_
  refine E_iconst (v := (0 : Int32)) rfl dX8_cancel_92 ?_
  obtain ⟨q1, h2, hF⟩ := bd_inv hF
  refine E_callV (na := 3) (As := [.int v1, .int (8 : Int32), .int (0 : Int32)]) (S := []) (kc := 0) (ks := 0) (ci := 10) rfl rfl hv0 (shape_ord hv0).1 cwV_RX8_174 ⟨Nat.le_of_ble_eq_true rfl, Nat.le_of_ble_eq_true rfl⟩ (T_X8_lays hfl fl _ _ _ _ _ hv0 _ h2) rfl rfl rfl (Nat.le_of_ble_eq_true rfl) dX8_cancel_93 ?_
  refine E_aload_n (j := 0) (i := 0) (q := 1) rfl rfl dX8_cancel_96 ?_
  refine E_iload_n (j := 1) (i := 1) (q := 2) rfl rfl dX8_cancel_97 ?_
  refine E_bipush (v := (9 : Int32)) rfl dX8_cancel_98 ?_
  refine E_iload (q := 0) rfl dX8_cancel_100 ?_
  obtain ⟨q3, h4, hF⟩ := bd_inv hF
  refine E_callV (na := 3) (As := [.int v1, .int (9 : Int32), .int w0]) (S := []) (kc := 0) (ks := 0) (ci := 10) rfl rfl hv0 (shape_ord hv0).1 cwV_RX8_174 ⟨Nat.le_of_ble_eq_true rfl, Nat.le_of_ble_eq_true rfl⟩ (T_X8_lays hfl fl _ _ _ _ _ hv0 _ h4) rfl rfl rfl (Nat.le_of_ble_eq_true rfl) dX8_cancel_102 ?_
  refine E_iload (q := 0) rfl dX8_cancel_105 ?_
  exact E_iret (Or.inl rfl) rfl (by cases hF; exact hr) dX8_cancel_107
set_option maxHeartbeats 4000000 in
set_option maxRecDepth 100000 in
theorem T_X8_cancel_26 {l : Launch} (hfl : l.stackTraces = false) (fl : Nat) {r : Rs} {ρ : (Int32 × Mem)} (hr : r = (.inr (some (.int ρ.1)), NF, ρ.2)) (v0 : Nat) (v1 : Int32) (w0 : Nat) (w1 : Int32) (s : Mem) (hv0 : shape v0 = some (.inl 10)) (hw0 : shape w0 = some (.inl 10)) (hF : B_X8_cancel_26 fl v0 v1 w0 w1 s = some ρ) : E l X_X8_cancel r false NF s 0 0 26 [(0, .ref v0), (1, .int v1)] [.int w1, .ref w0] := by
  unfold B_X8_cancel_26 at hF
  refine pf_RX8_42 rfl hw0 (shape_ord hw0).1 dX8_cancel_26 ?_
  obtain ⟨m5, e6, hF⟩ := nx_inv hF
  refine E_mem e6 ?_
  refine E_aload_n (j := 0) (i := 0) (q := 0) rfl rfl dX8_cancel_29 ?_
  refine gf_RX8_42 rfl hv0 (shape_ord hv0).1 dX8_cancel_30 ?_
  refine E_if_eq (tgt := 38) rfl dX8_cancel_33 (fun c7 => ?_) (fun c7 => ?_)
  · have hF := ite_t hF c7
    refine E_aload_n (j := 0) (i := 0) (q := 0) rfl rfl dX8_cancel_38 ?_
    obtain ⟨q8, h9, hF⟩ := bd_inv hF
    refine E_callV (na := 0) (As := []) (S := []) (kc := 0) (ks := 0) (ci := 10) rfl rfl hv0 (shape_ord hv0).1 cwV_RX8_56 ⟨Nat.le_of_ble_eq_true rfl, Nat.le_of_ble_eq_true rfl⟩ (T_X8_keeps hfl fl _ _ hv0 _ h9) rfl rfl rfl (Nat.le_of_ble_eq_true rfl) dX8_cancel_39 ?_
    refine E_aload_n (j := 0) (i := 0) (q := 0) rfl rfl dX8_cancel_42 ?_
    refine E_iload_n (j := 1) (i := 1) (q := 1) rfl rfl dX8_cancel_43 ?_
    refine E_iconst (v := (4 : Int32)) rfl dX8_cancel_44 ?_
    obtain ⟨q10, h11, hF⟩ := bd_inv hF
    refine E_callV (na := 2) (As := [.int v1, .int (4 : Int32)]) (S := []) (kc := 0) (ks := 0) (ci := 10) rfl rfl hv0 (shape_ord hv0).1 cwV_RX8_97 ⟨Nat.le_of_ble_eq_true rfl, Nat.le_of_ble_eq_true rfl⟩ (T_X8_of hfl fl _ _ _ _ hv0 _ h11) rfl rfl rfl (Nat.le_of_ble_eq_true rfl) dX8_cancel_45 ?_
    refine E_aload_n (j := 0) (i := 0) (q := 0) rfl rfl dX8_cancel_48 ?_
    obtain ⟨r12, h13, hF⟩ := bd_inv hF
    have h13 := ldA_inv h13
    refine gf_RX8_9 rfl hv0 (shape_ord hv0).1 h13.1 dX8_cancel_49 ?_
    refine E_iconst (v := (3 : Int32)) rfl dX8_cancel_52 ?_
    obtain ⟨h14, hF⟩ := gd_inv hF
    refine E_iald _ h13.2 (shape_ord h13.2).1 h14 dX8_cancel_53 ?_
    refine E_isub dX8_cancel_54 ?_
    refine E_istore_n (j := 2) (i := 2) (L' := [(2, .int (q10 - (gI q8 r12.1 (3 : Int32).toNatClampNeg))), (0, .ref v0), (1, .int v1)]) rfl (Nat.le_of_ble_eq_true rfl) rfl dX8_cancel_55 ?_
    refine E_aload_n (j := 0) (i := 0) (q := 1) rfl rfl dX8_cancel_56 ?_
    refine E_iload_n (j := 1) (i := 1) (q := 2) rfl rfl dX8_cancel_57 ?_
    refine E_bipush (v := (7 : Int32)) rfl dX8_cancel_58 ?_
    obtain ⟨q15, h16, hF⟩ := bd_inv hF
    refine E_callV (na := 2) (As := [.int v1, .int (7 : Int32)]) (S := []) (kc := 0) (ks := 0) (ci := 10) rfl rfl hv0 (shape_ord hv0).1 cwV_RX8_97 ⟨Nat.le_of_ble_eq_true rfl, Nat.le_of_ble_eq_true rfl⟩ (T_X8_of hfl fl _ _ _ _ hv0 _ h16) rfl rfl rfl (Nat.le_of_ble_eq_true rfl) dX8_cancel_60 ?_
    refine E_istore_n (j := 3) (i := 3) (L' := [(3, .int q15), (2, .int (q10 - (gI q8 r12.1 (3 : Int32).toNatClampNeg))), (0, .ref v0), (1, .int v1)]) rfl (Nat.le_of_ble_eq_true rfl) rfl dX8_cancel_63 ?_
    refine E_iload_n (j := 2) (i := 2) (q := 1) rfl rfl dX8_cancel_64 ?_
    refine E_bipush (v := (6 : Int32)) rfl dX8_cancel_65 ?_
    refine E_icmp_le (tgt := 74) rfl dX8_cancel_67 (fun c17 => ?_) (fun c17 => ?_)
    · have hF := ite_t hF c17
      refine E_iload_n (j := 2) (i := 2) (q := 1) rfl rfl dX8_cancel_74 ?_
      refine E_iconst (v := (2 : Int32)) rfl dX8_cancel_75 ?_
      refine E_icmp_le (tgt := 85) rfl dX8_cancel_76 (fun c18 => ?_) (fun c18 => ?_)
      · have hF := ite_t hF c18
        refine E_iload_n (j := 3) (i := 3) (q := 0) rfl rfl dX8_cancel_85 ?_
        refine E_sub [2, 3] rfl ?_
        exact T_X8_cancel_86 hfl fl hr  _ _ _ _ hv0 hF
      · have hF := ite_f hF c18
        refine E_iload_n (j := 3) (i := 3) (q := 0) rfl rfl dX8_cancel_79 ?_
        refine E_iconst (v := (2 : Int32)) rfl dX8_cancel_80 ?_
        refine E_idiv (by decide) dX8_cancel_81 ?_
        refine E_goto (tgt := 86) rfl dX8_cancel_82 ?_
        refine E_sub [2, 3] rfl ?_
        exact T_X8_cancel_86 hfl fl hr  _ _ _ _ hv0 hF
    · have hF := ite_f hF c17
      refine E_iconst (v := (0 : Int32)) rfl dX8_cancel_70 ?_
      refine E_goto (tgt := 86) rfl dX8_cancel_71 ?_
      refine E_sub [2, 3] rfl ?_
      exact T_X8_cancel_86 hfl fl hr  _ _ _ _ hv0 hF
  · have hF := ite_f hF c7
    refine E_iconst (v := (0 : Int32)) rfl dX8_cancel_36 ?_
    exact E_iret (Or.inl rfl) rfl (by cases hF; exact hr) dX8_cancel_37
set_option maxHeartbeats 4000000 in
set_option maxRecDepth 100000 in
theorem T_X8_cancel {l : Launch} (hfl : l.stackTraces = false) (fl : Nat) (v0 : Nat) (v1 : Int32) (s : Mem) (hv0 : shape v0 = some (.inl 10)) (ρ : (Int32 × Mem)) (hF : F_X8_cancel fl v0 v1 s = some ρ) : MetN l X_X8_cancel false NF s [.ref v0, .int v1] (.inr (some (.int ρ.1)), NF, ρ.2) := by
  unfold F_X8_cancel at hF
  obtain ⟨r, hr⟩ : ∃ r : Rs, r = (.inr (some (.int ρ.1)), NF, ρ.2) := ⟨_, rfl⟩
  rw [← hr]
  refine met_of_E rfl rfl (by decide +kernel) hfl rfl (Nat.le_of_ble_eq_true rfl) ?_
  show E l X_X8_cancel r false NF s 0 0 0 [(0, .ref v0), (1, .int v1)] []
  refine E_aload_n (j := 0) (i := 0) (q := 0) rfl rfl dX8_cancel_0 ?_
  refine E_aload_n (j := 0) (i := 0) (q := 0) rfl rfl dX8_cancel_1 ?_
  refine E_iload_n (j := 1) (i := 1) (q := 1) rfl rfl dX8_cancel_2 ?_
  obtain ⟨q19, h20, hF⟩ := bd_inv hF
  refine E_callV (na := 1) (As := [.int v1]) (S := [.ref v0]) (kc := 0) (ks := 0) (ci := 10) rfl rfl hv0 (shape_ord hv0).1 cwV_RX8_94 ⟨Nat.le_of_ble_eq_true rfl, Nat.le_of_ble_eq_true rfl⟩ (T_X8_isParty hfl fl _ _ _ hv0 _ h20) rfl rfl rfl (Nat.le_of_ble_eq_true rfl) dX8_cancel_3 ?_
  refine E_if_ne (tgt := 13) rfl dX8_cancel_6 (fun c21 => ?_) (fun c21 => ?_)
  · have hF := ite_f hF c21
    refine E_aload_n (j := 0) (i := 0) (q := 0) rfl rfl dX8_cancel_13 ?_
    refine E_iload_n (j := 1) (i := 1) (q := 1) rfl rfl dX8_cancel_14 ?_
    obtain ⟨q22, h23, hF⟩ := bd_inv hF
    refine E_callV (na := 1) (As := [.int v1]) (S := [.ref v0]) (kc := 0) (ks := 0) (ci := 10) rfl rfl hv0 (shape_ord hv0).1 cwV_RX8_204 ⟨Nat.le_of_ble_eq_true rfl, Nat.le_of_ble_eq_true rfl⟩ (T_X8_isAhead hfl fl _ _ _ hv0 _ h23) rfl rfl rfl (Nat.le_of_ble_eq_true rfl) dX8_cancel_15 ?_
    refine E_if_eq (tgt := 25) rfl dX8_cancel_18 (fun c24 => ?_) (fun c24 => ?_)
    · have hF := ite_t hF c24
      refine E_iconst (v := (2 : Int32)) rfl dX8_cancel_25 ?_
      refine E_sub [0, 1] rfl ?_
      exact T_X8_cancel_26 hfl fl hr  _ _ _ _ _ hv0 hv0 hF
    · have hF := ite_f hF c24
      refine E_iconst (v := (0 : Int32)) rfl dX8_cancel_21 ?_
      refine E_goto (tgt := 26) rfl dX8_cancel_22 ?_
      refine E_sub [0, 1] rfl ?_
      exact T_X8_cancel_26 hfl fl hr  _ _ _ _ _ hv0 hv0 hF
  · have hF := ite_t hF c21
    refine E_iconst (v := (1 : Int32)) rfl dX8_cancel_9 ?_
    refine E_goto (tgt := 26) rfl dX8_cancel_10 ?_
    refine E_sub [0, 1] rfl ?_
    exact T_X8_cancel_26 hfl fl hr  _ _ _ _ _ hv0 hv0 hF
set_option maxHeartbeats 4000000 in
set_option maxRecDepth 100000 in
theorem T_X8_advance_98 {l : Launch} (hfl : l.stackTraces = false) (fl : Nat) {r : Rs} {ρ : (Int32 × Mem)} (hr : r = (.inr (some (.int ρ.1)), NF, ρ.2)) {k43 : Nat → Int32 → Int32 → Int32 → Mem → Option (Int32 × Mem)} (hk43 : ∀ (v0 : Nat) (v1 : Int32) (v2 : Int32) (v3 : Int32) (s : Mem) (hv0 : shape v0 = some (.inl 10)), k43 v0 v1 v2 v3 s = some ρ → E l X_X8_advance r false NF s 0 0 43 [(0, .ref v0), (1, .int v1), (2, .int v2), (3, .int v3)] []) (v0 : Nat) (v1 : Int32) (v3 : Int32) (w0 : Int32) (w1 : Int32) (s : Mem) (hv0 : shape v0 = some (.inl 10)) (hF : B_X8_advance_98 k43 fl v0 v1 v3 w0 w1 s = some ρ) : E l X_X8_advance r false NF s 0 0 98 [(0, .ref v0), (1, .int v1), (3, .int v3)] [.int w1, .int w0] := by
  unfold B_X8_advance_98 at hF
  refine E_iadd dX8_advance_98 ?_
  refine E_istore_n (j := 2) (i := 2) (L' := [(2, .int (w0 + w1)), (0, .ref v0), (1, .int v1), (3, .int v3)]) rfl (Nat.le_of_ble_eq_true rfl) rfl dX8_advance_99 ?_
  refine E_iinc (q := 3) (v := (v3 + (1 : Int32))) (L' := [(3, .int (v3 + (1 : Int32))), (2, .int (w0 + w1)), (0, .ref v0), (1, .int v1)]) rfl rfl (Nat.le_of_ble_eq_true rfl) rfl dX8_advance_100 ?_
  refine E_goto (tgt := 43) rfl dX8_advance_103 ?_
  refine E_sub [2, 3, 1, 0] rfl ?_
  exact hk43 _ _ _ _ _ hv0 hF
set_option maxHeartbeats 4000000 in
set_option maxRecDepth 100000 in
theorem T_X8_advance_97 {l : Launch} (hfl : l.stackTraces = false) (fl : Nat) {r : Rs} {ρ : (Int32 × Mem)} (hr : r = (.inr (some (.int ρ.1)), NF, ρ.2)) {k43 : Nat → Int32 → Int32 → Int32 → Mem → Option (Int32 × Mem)} (hk43 : ∀ (v0 : Nat) (v1 : Int32) (v2 : Int32) (v3 : Int32) (s : Mem) (hv0 : shape v0 = some (.inl 10)), k43 v0 v1 v2 v3 s = some ρ → E l X_X8_advance r false NF s 0 0 43 [(0, .ref v0), (1, .int v1), (2, .int v2), (3, .int v3)] []) (v0 : Nat) (v1 : Int32) (v3 : Int32) (w0 : Int32) (s : Mem) (hv0 : shape v0 = some (.inl 10)) (hF : B_X8_advance_97 k43 fl v0 v1 v3 w0 s = some ρ) : E l X_X8_advance r false NF s 0 0 97 [(0, .ref v0), (1, .int v1), (3, .int v3)] [.int w0] := by
  unfold B_X8_advance_97 at hF
  refine E_iconst (v := (0 : Int32)) rfl dX8_advance_97 ?_
  refine E_sub [0, 1, 2] rfl ?_
  exact T_X8_advance_98 hfl fl hr hk43 _ _ _ _ _ _ hv0 hF
set_option maxHeartbeats 4000000 in
set_option maxRecDepth 100000 in
theorem T_X8_advance_43 {l : Launch} (hfl : l.stackTraces = false) (fl : Nat) {r : Rs} {ρ : (Int32 × Mem)} (hr : r = (.inr (some (.int ρ.1)), NF, ρ.2)) : ∀ (n : Nat) (v0 : Nat) (v1 : Int32) (v2 : Int32) (v3 : Int32) (s : Mem) (hv0 : shape v0 = some (.inl 10)), B_X8_advance_43 fl n v0 v1 v2 v3 s = some ρ → E l X_X8_advance r false NF s 0 0 43 [(0, .ref v0), (1, .int v1), (2, .int v2), (3, .int v3)] [] := by
  intro n
  induction n with
  | zero =>
    intro v0 v1 v2 v3 s hv0 hF
    cases hF
  | succ n ih =>
    intro v0 v1 v2 v3 s hv0 hF
    refine E_iload_n (j := 3) (i := 3) (q := 3) rfl rfl dX8_advance_43 ?_
    refine E_aload_n (j := 0) (i := 0) (q := 0) rfl rfl dX8_advance_44 ?_
    obtain ⟨r1, h2, hF⟩ := bd_inv hF
    have h2 := ldA_inv h2
    refine gf_RX8_9 rfl hv0 (shape_ord hv0).1 h2.1 dX8_advance_45 ?_
    refine E_iconst (v := (1 : Int32)) rfl dX8_advance_48 ?_
    obtain ⟨h3, hF⟩ := gd_inv hF
    refine E_iald _ h2.2 (shape_ord h2.2).1 h3 dX8_advance_49 ?_
    refine E_icmp_ge (tgt := 106) rfl dX8_advance_50 (fun c4 => ?_) (fun c4 => ?_)
    · have hF := ite_t hF c4
      refine E_aload_n (j := 0) (i := 0) (q := 0) rfl rfl dX8_advance_106 ?_
      obtain ⟨r5, h6, hF⟩ := bd_inv hF
      have h6 := ldA_inv h6
      refine gf_RX8_9 rfl hv0 (shape_ord hv0).1 h6.1 dX8_advance_107 ?_
      refine E_iconst (v := (3 : Int32)) rfl dX8_advance_110 ?_
      refine E_dup2 rfl rfl dX8_advance_111 ?_
      obtain ⟨h7, hF⟩ := gd_inv hF
      refine E_iald _ h6.2 (shape_ord h6.2).1 h7 dX8_advance_112 ?_
      refine E_iload_n (j := 1) (i := 1) (q := 1) rfl rfl dX8_advance_113 ?_
      refine E_iadd dX8_advance_114 ?_
      obtain ⟨h8, hF⟩ := gd_inv hF
      refine E_iast _ h6.2 (shape_ord h6.2).1 h8 dX8_advance_115 ?_
      obtain ⟨m9, e10, hF⟩ := nx_inv hF
      refine E_mem e10 ?_
      refine E_iload_n (j := 2) (i := 2) (q := 2) rfl rfl dX8_advance_116 ?_
      exact E_iret (Or.inl rfl) rfl (by cases hF; exact hr) dX8_advance_117
    · have hF := ite_f hF c4
      refine E_iload_n (j := 2) (i := 2) (q := 2) rfl rfl dX8_advance_53 ?_
      refine E_aload_n (j := 0) (i := 0) (q := 0) rfl rfl dX8_advance_54 ?_
      refine E_iload_n (j := 3) (i := 3) (q := 3) rfl rfl dX8_advance_55 ?_
      refine E_bipush (v := (8 : Int32)) rfl dX8_advance_56 ?_
      obtain ⟨q11, h12, hF⟩ := bd_inv hF
      refine E_callV (na := 2) (As := [.int v3, .int (8 : Int32)]) (S := [.int v2]) (kc := 0) (ks := 0) (ci := 10) rfl rfl hv0 (shape_ord hv0).1 cwV_RX8_97 ⟨Nat.le_of_ble_eq_true rfl, Nat.le_of_ble_eq_true rfl⟩ (T_X8_of hfl fl _ _ _ _ hv0 _ h12) rfl rfl rfl (Nat.le_of_ble_eq_true rfl) dX8_advance_58 ?_
      refine E_iconst (v := (1 : Int32)) rfl dX8_advance_61 ?_
      refine E_icmp_ne (tgt := 97) rfl dX8_advance_62 (fun c13 => ?_) (fun c13 => ?_)
      · have hF := ite_f hF c13
        refine E_sub [0, 1, 3] rfl ?_
        exact T_X8_advance_97 hfl fl hr ih _ _ _ _ _ hv0 hF
      · have hF := ite_t hF c13
        refine E_aload_n (j := 0) (i := 0) (q := 0) rfl rfl dX8_advance_65 ?_
        refine E_iload_n (j := 3) (i := 3) (q := 3) rfl rfl dX8_advance_66 ?_
        refine E_iconst (v := (4 : Int32)) rfl dX8_advance_67 ?_
        obtain ⟨q14, h15, hF⟩ := bd_inv hF
        refine E_callV (na := 2) (As := [.int v3, .int (4 : Int32)]) (S := [.int v2]) (kc := 0) (ks := 0) (ci := 10) rfl rfl hv0 (shape_ord hv0).1 cwV_RX8_97 ⟨Nat.le_of_ble_eq_true rfl, Nat.le_of_ble_eq_true rfl⟩ (T_X8_of hfl fl _ _ _ _ hv0 _ h15) rfl rfl rfl (Nat.le_of_ble_eq_true rfl) dX8_advance_68 ?_
        refine E_aload_n (j := 0) (i := 0) (q := 0) rfl rfl dX8_advance_71 ?_
        obtain ⟨r16, h17, hF⟩ := bd_inv hF
        have h17 := ldA_inv h17
        refine gf_RX8_9 rfl hv0 (shape_ord hv0).1 h17.1 dX8_advance_72 ?_
        refine E_iconst (v := (3 : Int32)) rfl dX8_advance_75 ?_
        obtain ⟨h18, hF⟩ := gd_inv hF
        refine E_iald _ h17.2 (shape_ord h17.2).1 h18 dX8_advance_76 ?_
        refine E_aload_n (j := 0) (i := 0) (q := 0) rfl rfl dX8_advance_77 ?_
        obtain ⟨r19, h20, hF⟩ := bd_inv hF
        have h20 := ldA_inv h20
        refine gf_RX8_9 rfl hv0 (shape_ord hv0).1 h20.1 dX8_advance_78 ?_
        refine E_iconst (v := (3 : Int32)) rfl dX8_advance_81 ?_
        obtain ⟨h21, hF⟩ := gd_inv hF
        refine E_iald _ h20.2 (shape_ord h20.2).1 h21 dX8_advance_82 ?_
        refine E_iload_n (j := 1) (i := 1) (q := 1) rfl rfl dX8_advance_83 ?_
        refine E_iadd dX8_advance_84 ?_
        refine E_iconst (v := (1 : Int32)) rfl dX8_advance_85 ?_
        refine E_isub dX8_advance_86 ?_
        obtain ⟨q22, h23, hF⟩ := bd_inv hF
        refine E_callS (na := 3) (As := [.int q14, .int (gI s r16.1 (3 : Int32).toNatClampNeg), .int (((gI s r19.1 (3 : Int32).toNatClampNeg) + v1) - (1 : Int32))]) (S := [.int v2]) (kc := 0) (ks := 0) cwS_RX8_52 ⟨Nat.le_of_ble_eq_true rfl, Nat.le_of_ble_eq_true rfl⟩ (T_X8_in hfl fl _ _ _ _  _ h23) rfl rfl rfl (Nat.le_of_ble_eq_true rfl) dX8_advance_87 ?_
        refine E_if_eq (tgt := 97) rfl dX8_advance_90 (fun c24 => ?_) (fun c24 => ?_)
        · have hF := ite_t hF c24
          refine E_sub [0, 1, 3] rfl ?_
          exact T_X8_advance_97 hfl fl hr ih _ _ _ _ _ hv0 hF
        · have hF := ite_f hF c24
          refine E_iconst (v := (1 : Int32)) rfl dX8_advance_93 ?_
          refine E_goto (tgt := 98) rfl dX8_advance_94 ?_
          refine E_sub [0, 1, 3] rfl ?_
          exact T_X8_advance_98 hfl fl hr ih _ _ _ _ _ _ hv0 hF
set_option maxHeartbeats 4000000 in
set_option maxRecDepth 100000 in
theorem T_X8_advance_23 {l : Launch} (hfl : l.stackTraces = false) (fl : Nat) {r : Rs} {ρ : (Int32 × Mem)} (hr : r = (.inr (some (.int ρ.1)), NF, ρ.2)) (v0 : Nat) (v1 : Int32) (w0 : Nat) (w1 : Int32) (s : Mem) (hv0 : shape v0 = some (.inl 10)) (hw0 : shape w0 = some (.inl 10)) (hF : B_X8_advance_23 fl v0 v1 w0 w1 s = some ρ) : E l X_X8_advance r false NF s 0 0 23 [(0, .ref v0), (1, .int v1)] [.int w1, .ref w0] := by
  unfold B_X8_advance_23 at hF
  refine pf_RX8_42 rfl hw0 (shape_ord hw0).1 dX8_advance_23 ?_
  obtain ⟨m25, e26, hF⟩ := nx_inv hF
  refine E_mem e26 ?_
  refine E_aload_n (j := 0) (i := 0) (q := 0) rfl rfl dX8_advance_26 ?_
  refine gf_RX8_42 rfl hv0 (shape_ord hv0).1 dX8_advance_27 ?_
  refine E_if_eq (tgt := 35) rfl dX8_advance_30 (fun c27 => ?_) (fun c27 => ?_)
  · have hF := ite_t hF c27
    refine E_aload_n (j := 0) (i := 0) (q := 0) rfl rfl dX8_advance_35 ?_
    obtain ⟨q28, h29, hF⟩ := bd_inv hF
    refine E_callV (na := 0) (As := []) (S := []) (kc := 0) (ks := 0) (ci := 10) rfl rfl hv0 (shape_ord hv0).1 cwV_RX8_56 ⟨Nat.le_of_ble_eq_true rfl, Nat.le_of_ble_eq_true rfl⟩ (T_X8_keeps hfl fl _ _ hv0 _ h29) rfl rfl rfl (Nat.le_of_ble_eq_true rfl) dX8_advance_36 ?_
    refine E_iconst (v := (0 : Int32)) rfl dX8_advance_39 ?_
    refine E_istore_n (j := 2) (i := 2) (L' := [(2, .int (0 : Int32)), (0, .ref v0), (1, .int v1)]) rfl (Nat.le_of_ble_eq_true rfl) rfl dX8_advance_40 ?_
    refine E_iconst (v := (0 : Int32)) rfl dX8_advance_41 ?_
    refine E_istore_n (j := 3) (i := 3) (L' := [(3, .int (0 : Int32)), (2, .int (0 : Int32)), (0, .ref v0), (1, .int v1)]) rfl (Nat.le_of_ble_eq_true rfl) rfl dX8_advance_42 ?_
    refine E_sub [2, 3, 1, 0] rfl ?_
    exact T_X8_advance_43 hfl fl hr  fl _ _ _ _ _ hv0 hF
  · have hF := ite_f hF c27
    refine E_iconst (v := (0 : Int32)) rfl dX8_advance_33 ?_
    exact E_iret (Or.inl rfl) rfl (by cases hF; exact hr) dX8_advance_34
set_option maxHeartbeats 4000000 in
set_option maxRecDepth 100000 in
theorem T_X8_advance {l : Launch} (hfl : l.stackTraces = false) (fl : Nat) (v0 : Nat) (v1 : Int32) (s : Mem) (hv0 : shape v0 = some (.inl 10)) (ρ : (Int32 × Mem)) (hF : F_X8_advance fl v0 v1 s = some ρ) : MetN l X_X8_advance false NF s [.ref v0, .int v1] (.inr (some (.int ρ.1)), NF, ρ.2) := by
  unfold F_X8_advance at hF
  obtain ⟨r, hr⟩ : ∃ r : Rs, r = (.inr (some (.int ρ.1)), NF, ρ.2) := ⟨_, rfl⟩
  rw [← hr]
  refine met_of_E rfl rfl (by decide +kernel) hfl rfl (Nat.le_of_ble_eq_true rfl) ?_
  show E l X_X8_advance r false NF s 0 0 0 [(0, .ref v0), (1, .int v1)] []
  refine E_aload_n (j := 0) (i := 0) (q := 0) rfl rfl dX8_advance_0 ?_
  refine E_iload_n (j := 1) (i := 1) (q := 1) rfl rfl dX8_advance_1 ?_
  refine E_iconst (v := (0 : Int32)) rfl dX8_advance_2 ?_
  refine E_bipush (v := (60 : Int32)) rfl dX8_advance_3 ?_
  refine E_aload_n (j := 0) (i := 0) (q := 0) rfl rfl dX8_advance_5 ?_
  obtain ⟨r30, h31, hF⟩ := bd_inv hF
  have h31 := ldA_inv h31
  refine gf_RX8_9 rfl hv0 (shape_ord hv0).1 h31.1 dX8_advance_6 ?_
  refine E_iconst (v := (3 : Int32)) rfl dX8_advance_9 ?_
  obtain ⟨h32, hF⟩ := gd_inv hF
  refine E_iald _ h31.2 (shape_ord h31.2).1 h32 dX8_advance_10 ?_
  refine E_isub dX8_advance_11 ?_
  obtain ⟨q33, h34, hF⟩ := bd_inv hF
  refine E_callS (na := 3) (As := [.int v1, .int (0 : Int32), .int ((60 : Int32) - (gI s r30.1 (3 : Int32).toNatClampNeg))]) (S := [.ref v0]) (kc := 0) (ks := 0) cwS_RX8_52 ⟨Nat.le_of_ble_eq_true rfl, Nat.le_of_ble_eq_true rfl⟩ (T_X8_in hfl fl _ _ _ _  _ h34) rfl rfl rfl (Nat.le_of_ble_eq_true rfl) dX8_advance_12 ?_
  refine E_if_eq (tgt := 22) rfl dX8_advance_15 (fun c35 => ?_) (fun c35 => ?_)
  · have hF := ite_t hF c35
    refine E_iconst (v := (1 : Int32)) rfl dX8_advance_22 ?_
    refine E_sub [0, 1] rfl ?_
    exact T_X8_advance_23 hfl fl hr  _ _ _ _ _ hv0 hv0 hF
  · have hF := ite_f hF c35
    refine E_iconst (v := (0 : Int32)) rfl dX8_advance_18 ?_
    refine E_goto (tgt := 23) rfl dX8_advance_19 ?_
    refine E_sub [0, 1] rfl ?_
    exact T_X8_advance_23 hfl fl hr  _ _ _ _ _ hv0 hv0 hF
set_option maxHeartbeats 4000000 in
set_option maxRecDepth 100000 in
theorem T_X8_tonight {l : Launch} (hfl : l.stackTraces = false) (fl : Nat) (v0 : Nat) (s : Mem) (hv0 : shape v0 = some (.inl 10)) (ρ : (Int32 × Mem)) (hF : F_X8_tonight fl v0 s = some ρ) : MetN l X_X8_tonight false NF s [.ref v0] (.inr (some (.int ρ.1)), NF, ρ.2) := by
  unfold F_X8_tonight at hF
  obtain ⟨r, hr⟩ : ∃ r : Rs, r = (.inr (some (.int ρ.1)), NF, ρ.2) := ⟨_, rfl⟩
  rw [← hr]
  refine met_of_E rfl rfl (by decide +kernel) hfl rfl (Nat.le_of_ble_eq_true rfl) ?_
  show E l X_X8_tonight r false NF s 0 0 0 [(0, .ref v0)] []
  refine E_aload_n (j := 0) (i := 0) (q := 0) rfl rfl dX8_tonight_0 ?_
  refine E_iconst (v := (0 : Int32)) rfl dX8_tonight_1 ?_
  refine pf_RX8_42 rfl hv0 (shape_ord hv0).1 dX8_tonight_2 ?_
  obtain ⟨m1, e2, hF⟩ := nx_inv hF
  refine E_mem e2 ?_
  refine E_aload_n (j := 0) (i := 0) (q := 0) rfl rfl dX8_tonight_5 ?_
  obtain ⟨r3, h4, hF⟩ := bd_inv hF
  have h4 := ldA_inv h4
  refine gf_RX8_9 rfl hv0 (shape_ord hv0).1 h4.1 dX8_tonight_6 ?_
  refine E_iconst (v := (3 : Int32)) rfl dX8_tonight_9 ?_
  obtain ⟨h5, hF⟩ := gd_inv hF
  refine E_iald _ h4.2 (shape_ord h4.2).1 h5 dX8_tonight_10 ?_
  exact E_iret (Or.inl rfl) rfl (by cases hF; exact hr) dX8_tonight_11
set_option maxHeartbeats 4000000 in
set_option maxRecDepth 100000 in
theorem T_X8_obstacle_22 {l : Launch} (hfl : l.stackTraces = false) (fl : Nat) {r : Rs} {ρ : (Int32 × Mem)} (hr : r = (.inr (some (.int ρ.1)), NF, ρ.2)) (v0 : Nat) (v1 : Int32) (v2 : Int32) (w0 : Nat) (w1 : Int32) (s : Mem) (hv0 : shape v0 = some (.inl 10)) (hw0 : shape w0 = some (.inl 10)) (hF : B_X8_obstacle_22 fl v0 v1 v2 w0 w1 s = some ρ) : E l X_X8_obstacle r false NF s 0 0 22 [(0, .ref v0), (1, .int v1), (2, .int v2)] [.int w1, .ref w0] := by
  unfold B_X8_obstacle_22 at hF
  refine pf_RX8_42 rfl hw0 (shape_ord hw0).1 dX8_obstacle_22 ?_
  obtain ⟨m1, e2, hF⟩ := nx_inv hF
  refine E_mem e2 ?_
  refine E_aload_n (j := 0) (i := 0) (q := 0) rfl rfl dX8_obstacle_25 ?_
  refine gf_RX8_42 rfl hv0 (shape_ord hv0).1 dX8_obstacle_26 ?_
  refine E_if_eq (tgt := 34) rfl dX8_obstacle_29 (fun c3 => ?_) (fun c3 => ?_)
  · have hF := ite_t hF c3
    refine E_aload_n (j := 0) (i := 0) (q := 0) rfl rfl dX8_obstacle_34 ?_
    refine E_iload_n (j := 1) (i := 1) (q := 1) rfl rfl dX8_obstacle_35 ?_
    obtain ⟨q4, h5, hF⟩ := bd_inv hF
    refine E_callV (na := 1) (As := [.int v1]) (S := []) (kc := 0) (ks := 0) (ci := 10) rfl rfl hv0 (shape_ord hv0).1 cwV_RX8_207 ⟨Nat.le_of_ble_eq_true rfl, Nat.le_of_ble_eq_true rfl⟩ (T_X8_comesAs hfl fl _ _ _ hv0 _ h5) rfl rfl rfl (Nat.le_of_ble_eq_true rfl) dX8_obstacle_36 ?_
    refine E_aload_n (j := 0) (i := 0) (q := 0) rfl rfl dX8_obstacle_39 ?_
    refine E_aload_n (j := 0) (i := 0) (q := 0) rfl rfl dX8_obstacle_40 ?_
    refine E_iload_n (j := 1) (i := 1) (q := 1) rfl rfl dX8_obstacle_41 ?_
    refine E_iconst (v := (0 : Int32)) rfl dX8_obstacle_42 ?_
    obtain ⟨q6, h7, hF⟩ := bd_inv hF
    refine E_callV (na := 2) (As := [.int v1, .int (0 : Int32)]) (S := [.ref v0]) (kc := 0) (ks := 0) (ci := 10) rfl rfl hv0 (shape_ord hv0).1 cwV_RX8_97 ⟨Nat.le_of_ble_eq_true rfl, Nat.le_of_ble_eq_true rfl⟩ (T_X8_of hfl fl _ _ _ _ hv0 _ h7) rfl rfl rfl (Nat.le_of_ble_eq_true rfl) dX8_obstacle_43 ?_
    refine E_aload_n (j := 0) (i := 0) (q := 0) rfl rfl dX8_obstacle_46 ?_
    refine E_iload_n (j := 1) (i := 1) (q := 1) rfl rfl dX8_obstacle_47 ?_
    refine E_iconst (v := (1 : Int32)) rfl dX8_obstacle_48 ?_
    obtain ⟨q8, h9, hF⟩ := bd_inv hF
    refine E_callV (na := 2) (As := [.int v1, .int (1 : Int32)]) (S := [.int q6, .ref v0]) (kc := 0) (ks := 0) (ci := 10) rfl rfl hv0 (shape_ord hv0).1 cwV_RX8_97 ⟨Nat.le_of_ble_eq_true rfl, Nat.le_of_ble_eq_true rfl⟩ (T_X8_of hfl fl _ _ _ _ hv0 _ h9) rfl rfl rfl (Nat.le_of_ble_eq_true rfl) dX8_obstacle_49 ?_
    refine E_aload_n (j := 0) (i := 0) (q := 0) rfl rfl dX8_obstacle_52 ?_
    refine E_iload_n (j := 1) (i := 1) (q := 1) rfl rfl dX8_obstacle_53 ?_
    refine E_iconst (v := (2 : Int32)) rfl dX8_obstacle_54 ?_
    obtain ⟨q10, h11, hF⟩ := bd_inv hF
    refine E_callV (na := 2) (As := [.int v1, .int (2 : Int32)]) (S := [.int q8, .int q6, .ref v0]) (kc := 0) (ks := 0) (ci := 10) rfl rfl hv0 (shape_ord hv0).1 cwV_RX8_97 ⟨Nat.le_of_ble_eq_true rfl, Nat.le_of_ble_eq_true rfl⟩ (T_X8_of hfl fl _ _ _ _ hv0 _ h11) rfl rfl rfl (Nat.le_of_ble_eq_true rfl) dX8_obstacle_55 ?_
    refine E_iload_n (j := 2) (i := 2) (q := 2) rfl rfl dX8_obstacle_58 ?_
    obtain ⟨q12, h13, hF⟩ := bd_inv hF
    refine E_callV (na := 4) (As := [.int q6, .int q8, .int q10, .int v2]) (S := []) (kc := 0) (ks := 0) (ci := 10) rfl rfl hv0 (shape_ord hv0).1 cwV_RX8_167 ⟨Nat.le_of_ble_eq_true rfl, Nat.le_of_ble_eq_true rfl⟩ (T_X8_obstacleOf hfl fl _ _ _ _ _ _ hv0 _ h13) rfl rfl rfl (Nat.le_of_ble_eq_true rfl) dX8_obstacle_59 ?_
    exact E_iret (Or.inl rfl) rfl (by cases hF; exact hr) dX8_obstacle_62
  · have hF := ite_f hF c3
    refine E_iconst (v := (0 : Int32)) rfl dX8_obstacle_32 ?_
    exact E_iret (Or.inl rfl) rfl (by cases hF; exact hr) dX8_obstacle_33
set_option maxHeartbeats 4000000 in
set_option maxRecDepth 100000 in
theorem T_X8_obstacle_21 {l : Launch} (hfl : l.stackTraces = false) (fl : Nat) {r : Rs} {ρ : (Int32 × Mem)} (hr : r = (.inr (some (.int ρ.1)), NF, ρ.2)) (v0 : Nat) (v1 : Int32) (v2 : Int32) (w0 : Nat) (s : Mem) (hv0 : shape v0 = some (.inl 10)) (hw0 : shape w0 = some (.inl 10)) (hF : B_X8_obstacle_21 fl v0 v1 v2 w0 s = some ρ) : E l X_X8_obstacle r false NF s 0 0 21 [(0, .ref v0), (1, .int v1), (2, .int v2)] [.ref w0] := by
  unfold B_X8_obstacle_21 at hF
  refine E_iconst (v := (1 : Int32)) rfl dX8_obstacle_21 ?_
  refine E_sub [0, 1, 2] rfl ?_
  exact T_X8_obstacle_22 hfl fl hr  _ _ _ _ _ _ hv0 hw0 hF
set_option maxHeartbeats 4000000 in
set_option maxRecDepth 100000 in
theorem T_X8_obstacle {l : Launch} (hfl : l.stackTraces = false) (fl : Nat) (v0 : Nat) (v1 : Int32) (v2 : Int32) (s : Mem) (hv0 : shape v0 = some (.inl 10)) (ρ : (Int32 × Mem)) (hF : F_X8_obstacle fl v0 v1 v2 s = some ρ) : MetN l X_X8_obstacle false NF s [.ref v0, .int v1, .int v2] (.inr (some (.int ρ.1)), NF, ρ.2) := by
  unfold F_X8_obstacle at hF
  obtain ⟨r, hr⟩ : ∃ r : Rs, r = (.inr (some (.int ρ.1)), NF, ρ.2) := ⟨_, rfl⟩
  rw [← hr]
  refine met_of_E rfl rfl (by decide +kernel) hfl rfl (Nat.le_of_ble_eq_true rfl) ?_
  show E l X_X8_obstacle r false NF s 0 0 0 [(0, .ref v0), (1, .int v1), (2, .int v2)] []
  refine E_aload_n (j := 0) (i := 0) (q := 0) rfl rfl dX8_obstacle_0 ?_
  refine E_aload_n (j := 0) (i := 0) (q := 0) rfl rfl dX8_obstacle_1 ?_
  refine E_iload_n (j := 1) (i := 1) (q := 1) rfl rfl dX8_obstacle_2 ?_
  obtain ⟨q14, h15, hF⟩ := bd_inv hF
  refine E_callV (na := 1) (As := [.int v1]) (S := [.ref v0]) (kc := 0) (ks := 0) (ci := 10) rfl rfl hv0 (shape_ord hv0).1 cwV_RX8_94 ⟨Nat.le_of_ble_eq_true rfl, Nat.le_of_ble_eq_true rfl⟩ (T_X8_isParty hfl fl _ _ _ hv0 _ h15) rfl rfl rfl (Nat.le_of_ble_eq_true rfl) dX8_obstacle_3 ?_
  refine E_if_eq (tgt := 21) rfl dX8_obstacle_6 (fun c16 => ?_) (fun c16 => ?_)
  · have hF := ite_t hF c16
    refine E_sub [0, 1, 2] rfl ?_
    exact T_X8_obstacle_21 hfl fl hr  _ _ _ _ _ hv0 hv0 hF
  · have hF := ite_f hF c16
    refine E_aload_n (j := 0) (i := 0) (q := 0) rfl rfl dX8_obstacle_9 ?_
    refine E_iload_n (j := 2) (i := 2) (q := 2) rfl rfl dX8_obstacle_10 ?_
    obtain ⟨q17, h18, hF⟩ := bd_inv hF
    refine E_callV (na := 1) (As := [.int v2]) (S := [.ref v0]) (kc := 0) (ks := 0) (ci := 10) rfl rfl hv0 (shape_ord hv0).1 cwV_RX8_59 ⟨Nat.le_of_ble_eq_true rfl, Nat.le_of_ble_eq_true rfl⟩ (T_X8_isPitch hfl fl _ _ _ hv0 _ h18) rfl rfl rfl (Nat.le_of_ble_eq_true rfl) dX8_obstacle_11 ?_
    refine E_if_eq (tgt := 21) rfl dX8_obstacle_14 (fun c19 => ?_) (fun c19 => ?_)
    · have hF := ite_t hF c19
      refine E_sub [0, 1, 2] rfl ?_
      exact T_X8_obstacle_21 hfl fl hr  _ _ _ _ _ hv0 hv0 hF
    · have hF := ite_f hF c19
      refine E_iconst (v := (0 : Int32)) rfl dX8_obstacle_17 ?_
      refine E_goto (tgt := 22) rfl dX8_obstacle_18 ?_
      refine E_sub [0, 1, 2] rfl ?_
      exact T_X8_obstacle_22 hfl fl hr  _ _ _ _ _ _ hv0 hv0 hF
set_option maxHeartbeats 4000000 in
set_option maxRecDepth 100000 in
theorem T_X8_occupant_86 {l : Launch} (hfl : l.stackTraces = false) (fl : Nat) {r : Rs} {ρ : (Int32 × Mem)} (hr : r = (.inr (some (.int ρ.1)), NF, ρ.2)) {k40 : Nat → Int32 → Int32 → Int32 → Mem → Option (Int32 × Mem)} (hk40 : ∀ (v0 : Nat) (v1 : Int32) (v2 : Int32) (v3 : Int32) (s : Mem) (hv0 : shape v0 = some (.inl 10)), k40 v0 v1 v2 v3 s = some ρ → E l X_X8_occupant r false NF s 0 0 40 [(0, .ref v0), (1, .int v1), (2, .int v2), (3, .int v3)] []) (v0 : Nat) (v1 : Int32) (v2 : Int32) (v3 : Int32) (s : Mem) (hv0 : shape v0 = some (.inl 10)) (hF : B_X8_occupant_86 k40 fl v0 v1 v2 v3 s = some ρ) : E l X_X8_occupant r false NF s 0 0 86 [(0, .ref v0), (1, .int v1), (2, .int v2), (3, .int v3)] [] := by
  unfold B_X8_occupant_86 at hF
  refine E_iinc (q := 3) (v := (v3 + (1 : Int32))) (L' := [(3, .int (v3 + (1 : Int32))), (0, .ref v0), (1, .int v1), (2, .int v2)]) rfl rfl (Nat.le_of_ble_eq_true rfl) rfl dX8_occupant_86 ?_
  refine E_goto (tgt := 40) rfl dX8_occupant_89 ?_
  refine E_sub [1, 2, 3, 0] rfl ?_
  exact hk40 _ _ _ _ _ hv0 hF
set_option maxHeartbeats 4000000 in
set_option maxRecDepth 100000 in
theorem T_X8_occupant_40 {l : Launch} (hfl : l.stackTraces = false) (fl : Nat) {r : Rs} {ρ : (Int32 × Mem)} (hr : r = (.inr (some (.int ρ.1)), NF, ρ.2)) : ∀ (n : Nat) (v0 : Nat) (v1 : Int32) (v2 : Int32) (v3 : Int32) (s : Mem) (hv0 : shape v0 = some (.inl 10)), B_X8_occupant_40 fl n v0 v1 v2 v3 s = some ρ → E l X_X8_occupant r false NF s 0 0 40 [(0, .ref v0), (1, .int v1), (2, .int v2), (3, .int v3)] [] := by
  intro n
  induction n with
  | zero =>
    intro v0 v1 v2 v3 s hv0 hF
    cases hF
  | succ n ih =>
    intro v0 v1 v2 v3 s hv0 hF
    refine E_iload_n (j := 3) (i := 3) (q := 3) rfl rfl dX8_occupant_40 ?_
    refine E_bipush (v := (12 : Int32)) rfl dX8_occupant_41 ?_
    refine E_icmp_ge (tgt := 92) rfl dX8_occupant_43 (fun c1 => ?_) (fun c1 => ?_)
    · have hF := ite_t hF c1
      refine E_iconst (v := (-1 : Int32)) rfl dX8_occupant_92 ?_
      exact E_iret (Or.inl rfl) rfl (by cases hF; exact hr) dX8_occupant_93
    · have hF := ite_f hF c1
      refine E_aload_n (j := 0) (i := 0) (q := 0) rfl rfl dX8_occupant_46 ?_
      obtain ⟨r2, h3, hF⟩ := bd_inv hF
      have h3 := ldA_inv h3
      refine gf_RX8_13 rfl hv0 (shape_ord hv0).1 h3.1 dX8_occupant_47 ?_
      refine E_iload_n (j := 3) (i := 3) (q := 3) rfl rfl dX8_occupant_50 ?_
      obtain ⟨h4, hF⟩ := gd_inv hF
      refine E_iald _ h3.2 (shape_ord h3.2).1 h4 dX8_occupant_51 ?_
      refine E_iload_n (j := 1) (i := 1) (q := 1) rfl rfl dX8_occupant_52 ?_
      refine E_icmp_ne (tgt := 86) rfl dX8_occupant_53 (fun c5 => ?_) (fun c5 => ?_)
      · have hF := ite_f hF c5
        refine E_sub [0, 1, 2, 3] rfl ?_
        exact T_X8_occupant_86 hfl fl hr ih _ _ _ _ _ hv0 hF
      · have hF := ite_t hF c5
        refine E_iload_n (j := 2) (i := 2) (q := 2) rfl rfl dX8_occupant_56 ?_
        refine E_aload_n (j := 0) (i := 0) (q := 0) rfl rfl dX8_occupant_57 ?_
        obtain ⟨r6, h7, hF⟩ := bd_inv hF
        have h7 := ldA_inv h7
        refine gf_RX8_16 rfl hv0 (shape_ord hv0).1 h7.1 dX8_occupant_58 ?_
        refine E_iload_n (j := 3) (i := 3) (q := 3) rfl rfl dX8_occupant_61 ?_
        obtain ⟨h8, hF⟩ := gd_inv hF
        refine E_iald _ h7.2 (shape_ord h7.2).1 h8 dX8_occupant_62 ?_
        refine E_aload_n (j := 0) (i := 0) (q := 0) rfl rfl dX8_occupant_63 ?_
        obtain ⟨r9, h10, hF⟩ := bd_inv hF
        have h10 := ldA_inv h10
        refine gf_RX8_16 rfl hv0 (shape_ord hv0).1 h10.1 dX8_occupant_64 ?_
        refine E_iload_n (j := 3) (i := 3) (q := 3) rfl rfl dX8_occupant_67 ?_
        obtain ⟨h11, hF⟩ := gd_inv hF
        refine E_iald _ h10.2 (shape_ord h10.2).1 h11 dX8_occupant_68 ?_
        refine E_aload_n (j := 0) (i := 0) (q := 0) rfl rfl dX8_occupant_69 ?_
        obtain ⟨r12, h13, hF⟩ := bd_inv hF
        have h13 := ldA_inv h13
        refine gf_RX8_19 rfl hv0 (shape_ord hv0).1 h13.1 dX8_occupant_70 ?_
        refine E_iload_n (j := 3) (i := 3) (q := 3) rfl rfl dX8_occupant_73 ?_
        obtain ⟨h14, hF⟩ := gd_inv hF
        refine E_iald _ h13.2 (shape_ord h13.2).1 h14 dX8_occupant_74 ?_
        refine E_iadd dX8_occupant_75 ?_
        refine E_iconst (v := (1 : Int32)) rfl dX8_occupant_76 ?_
        refine E_isub dX8_occupant_77 ?_
        obtain ⟨q15, h16, hF⟩ := bd_inv hF
        refine E_callS (na := 3) (As := [.int v2, .int (gI s r6.1 v3.toNatClampNeg), .int (((gI s r9.1 v3.toNatClampNeg) + (gI s r12.1 v3.toNatClampNeg)) - (1 : Int32))]) (S := []) (kc := 0) (ks := 0) cwS_RX8_52 ⟨Nat.le_of_ble_eq_true rfl, Nat.le_of_ble_eq_true rfl⟩ (T_X8_in hfl fl _ _ _ _  _ h16) rfl rfl rfl (Nat.le_of_ble_eq_true rfl) dX8_occupant_78 ?_
        refine E_if_eq (tgt := 86) rfl dX8_occupant_81 (fun c17 => ?_) (fun c17 => ?_)
        · have hF := ite_t hF c17
          refine E_sub [0, 1, 2, 3] rfl ?_
          exact T_X8_occupant_86 hfl fl hr ih _ _ _ _ _ hv0 hF
        · have hF := ite_f hF c17
          refine E_iload_n (j := 3) (i := 3) (q := 3) rfl rfl dX8_occupant_84 ?_
          exact E_iret (Or.inl rfl) rfl (by cases hF; exact hr) dX8_occupant_85
set_option maxHeartbeats 4000000 in
set_option maxRecDepth 100000 in
theorem T_X8_occupant_21 {l : Launch} (hfl : l.stackTraces = false) (fl : Nat) {r : Rs} {ρ : (Int32 × Mem)} (hr : r = (.inr (some (.int ρ.1)), NF, ρ.2)) (v0 : Nat) (v1 : Int32) (v2 : Int32) (w0 : Nat) (w1 : Int32) (s : Mem) (hv0 : shape v0 = some (.inl 10)) (hw0 : shape w0 = some (.inl 10)) (hF : B_X8_occupant_21 fl v0 v1 v2 w0 w1 s = some ρ) : E l X_X8_occupant r false NF s 0 0 21 [(0, .ref v0), (1, .int v1), (2, .int v2)] [.int w1, .ref w0] := by
  unfold B_X8_occupant_21 at hF
  refine pf_RX8_42 rfl hw0 (shape_ord hw0).1 dX8_occupant_21 ?_
  obtain ⟨m18, e19, hF⟩ := nx_inv hF
  refine E_mem e19 ?_
  refine E_aload_n (j := 0) (i := 0) (q := 0) rfl rfl dX8_occupant_24 ?_
  refine gf_RX8_42 rfl hv0 (shape_ord hv0).1 dX8_occupant_25 ?_
  refine E_if_eq (tgt := 33) rfl dX8_occupant_28 (fun c20 => ?_) (fun c20 => ?_)
  · have hF := ite_t hF c20
    refine E_aload_n (j := 0) (i := 0) (q := 0) rfl rfl dX8_occupant_33 ?_
    refine E_iconst (v := (-1 : Int32)) rfl dX8_occupant_34 ?_
    obtain ⟨q21, h22, hF⟩ := bd_inv hF
    refine E_callV (na := 1) (As := [.int (-1 : Int32)]) (S := []) (kc := 0) (ks := 0) (ci := 10) rfl rfl hv0 (shape_ord hv0).1 cwV_RX8_67 ⟨Nat.le_of_ble_eq_true rfl, Nat.le_of_ble_eq_true rfl⟩ (T_X8_loads hfl fl _ _ _ hv0 _ h22) rfl rfl rfl (Nat.le_of_ble_eq_true rfl) dX8_occupant_35 ?_
    refine E_iconst (v := (0 : Int32)) rfl dX8_occupant_38 ?_
    refine E_istore_n (j := 3) (i := 3) (L' := [(3, .int (0 : Int32)), (0, .ref v0), (1, .int v1), (2, .int v2)]) rfl (Nat.le_of_ble_eq_true rfl) rfl dX8_occupant_39 ?_
    refine E_sub [1, 2, 3, 0] rfl ?_
    exact T_X8_occupant_40 hfl fl hr  fl _ _ _ _ _ hv0 hF
  · have hF := ite_f hF c20
    refine E_iconst (v := (0 : Int32)) rfl dX8_occupant_31 ?_
    exact E_iret (Or.inl rfl) rfl (by cases hF; exact hr) dX8_occupant_32
set_option maxHeartbeats 4000000 in
set_option maxRecDepth 100000 in
theorem T_X8_occupant_20 {l : Launch} (hfl : l.stackTraces = false) (fl : Nat) {r : Rs} {ρ : (Int32 × Mem)} (hr : r = (.inr (some (.int ρ.1)), NF, ρ.2)) (v0 : Nat) (v1 : Int32) (v2 : Int32) (w0 : Nat) (s : Mem) (hv0 : shape v0 = some (.inl 10)) (hw0 : shape w0 = some (.inl 10)) (hF : B_X8_occupant_20 fl v0 v1 v2 w0 s = some ρ) : E l X_X8_occupant r false NF s 0 0 20 [(0, .ref v0), (1, .int v1), (2, .int v2)] [.ref w0] := by
  unfold B_X8_occupant_20 at hF
  refine E_iconst (v := (1 : Int32)) rfl dX8_occupant_20 ?_
  refine E_sub [0, 1, 2] rfl ?_
  exact T_X8_occupant_21 hfl fl hr  _ _ _ _ _ _ hv0 hw0 hF
set_option maxHeartbeats 4000000 in
set_option maxRecDepth 100000 in
theorem T_X8_occupant {l : Launch} (hfl : l.stackTraces = false) (fl : Nat) (v0 : Nat) (v1 : Int32) (v2 : Int32) (s : Mem) (hv0 : shape v0 = some (.inl 10)) (ρ : (Int32 × Mem)) (hF : F_X8_occupant fl v0 v1 v2 s = some ρ) : MetN l X_X8_occupant false NF s [.ref v0, .int v1, .int v2] (.inr (some (.int ρ.1)), NF, ρ.2) := by
  unfold F_X8_occupant at hF
  obtain ⟨r, hr⟩ : ∃ r : Rs, r = (.inr (some (.int ρ.1)), NF, ρ.2) := ⟨_, rfl⟩
  rw [← hr]
  refine met_of_E rfl rfl (by decide +kernel) hfl rfl (Nat.le_of_ble_eq_true rfl) ?_
  show E l X_X8_occupant r false NF s 0 0 0 [(0, .ref v0), (1, .int v1), (2, .int v2)] []
  refine E_aload_n (j := 0) (i := 0) (q := 0) rfl rfl dX8_occupant_0 ?_
  refine E_aload_n (j := 0) (i := 0) (q := 0) rfl rfl dX8_occupant_1 ?_
  refine E_iload_n (j := 1) (i := 1) (q := 1) rfl rfl dX8_occupant_2 ?_
  obtain ⟨q23, h24, hF⟩ := bd_inv hF
  refine E_callV (na := 1) (As := [.int v1]) (S := [.ref v0]) (kc := 0) (ks := 0) (ci := 10) rfl rfl hv0 (shape_ord hv0).1 cwV_RX8_59 ⟨Nat.le_of_ble_eq_true rfl, Nat.le_of_ble_eq_true rfl⟩ (T_X8_isPitch hfl fl _ _ _ hv0 _ h24) rfl rfl rfl (Nat.le_of_ble_eq_true rfl) dX8_occupant_3 ?_
  refine E_if_eq (tgt := 20) rfl dX8_occupant_6 (fun c25 => ?_) (fun c25 => ?_)
  · have hF := ite_t hF c25
    refine E_sub [0, 1, 2] rfl ?_
    exact T_X8_occupant_20 hfl fl hr  _ _ _ _ _ hv0 hv0 hF
  · have hF := ite_f hF c25
    refine E_iload_n (j := 2) (i := 2) (q := 2) rfl rfl dX8_occupant_9 ?_
    obtain ⟨q26, h27, hF⟩ := bd_inv hF
    refine E_callS (na := 1) (As := [.int v2]) (S := [.ref v0]) (kc := 0) (ks := 0) cwS_RX8_88 ⟨Nat.le_of_ble_eq_true rfl, Nat.le_of_ble_eq_true rfl⟩ (T_X8_isNight hfl fl _ _  _ h27) rfl rfl rfl (Nat.le_of_ble_eq_true rfl) dX8_occupant_10 ?_
    refine E_if_eq (tgt := 20) rfl dX8_occupant_13 (fun c28 => ?_) (fun c28 => ?_)
    · have hF := ite_t hF c28
      refine E_sub [0, 1, 2] rfl ?_
      exact T_X8_occupant_20 hfl fl hr  _ _ _ _ _ hv0 hv0 hF
    · have hF := ite_f hF c28
      refine E_iconst (v := (0 : Int32)) rfl dX8_occupant_16 ?_
      refine E_goto (tgt := 21) rfl dX8_occupant_17 ?_
      refine E_sub [0, 1, 2] rfl ?_
      exact T_X8_occupant_21 hfl fl hr  _ _ _ _ _ _ hv0 hv0 hF
set_option maxHeartbeats 4000000 in
set_option maxRecDepth 100000 in
theorem T_X8_busyNight_75 {l : Launch} (hfl : l.stackTraces = false) (fl : Nat) {r : Rs} {ρ : (Int32 × Mem)} (hr : r = (.inr (some (.int ρ.1)), NF, ρ.2)) {k43 : Nat → Int64 → Int32 → Int32 → Mem → Option (Int32 × Mem)} (hk43 : ∀ (v0 : Nat) (v3 : Int64) (v5 : Int32) (v6 : Int32) (s : Mem) (hv0 : shape v0 = some (.inl 10)), k43 v0 v3 v5 v6 s = some ρ → E l X_X8_busyNight r false NF s 0 0 43 [(0, .ref v0), (3, .long v3), (5, .int v5), (6, .int v6)] []) (v0 : Nat) (v3 : Int64) (v5 : Int32) (v6 : Int32) (s : Mem) (hv0 : shape v0 = some (.inl 10)) (hF : B_X8_busyNight_75 k43 fl v0 v3 v5 v6 s = some ρ) : E l X_X8_busyNight r false NF s 0 0 75 [(0, .ref v0), (3, .long v3), (5, .int v5), (6, .int v6)] [] := by
  unfold B_X8_busyNight_75 at hF
  refine E_iinc (q := 3) (v := (v6 + (1 : Int32))) (L' := [(6, .int (v6 + (1 : Int32))), (0, .ref v0), (3, .long v3), (5, .int v5)]) rfl rfl (Nat.le_of_ble_eq_true rfl) rfl dX8_busyNight_75 ?_
  refine E_goto (tgt := 43) rfl dX8_busyNight_78 ?_
  refine E_sub [1, 2, 3, 0] rfl ?_
  exact hk43 _ _ _ _ _ hv0 hF
set_option maxHeartbeats 4000000 in
set_option maxRecDepth 100000 in
theorem T_X8_busyNight_43 {l : Launch} (hfl : l.stackTraces = false) (fl : Nat) {r : Rs} {ρ : (Int32 × Mem)} (hr : r = (.inr (some (.int ρ.1)), NF, ρ.2)) : ∀ (n : Nat) (v0 : Nat) (v3 : Int64) (v5 : Int32) (v6 : Int32) (s : Mem) (hv0 : shape v0 = some (.inl 10)), B_X8_busyNight_43 fl n v0 v3 v5 v6 s = some ρ → E l X_X8_busyNight r false NF s 0 0 43 [(0, .ref v0), (3, .long v3), (5, .int v5), (6, .int v6)] [] := by
  intro n
  induction n with
  | zero =>
    intro v0 v3 v5 v6 s hv0 hF
    cases hF
  | succ n ih =>
    intro v0 v3 v5 v6 s hv0 hF
    refine E_iload (q := 3) rfl dX8_busyNight_43 ?_
    refine E_bipush (v := (60 : Int32)) rfl dX8_busyNight_45 ?_
    refine E_icmp_ge (tgt := 81) rfl dX8_busyNight_47 (fun c1 => ?_) (fun c1 => ?_)
    · have hF := ite_t hF c1
      refine E_aload_n (j := 0) (i := 0) (q := 0) rfl rfl dX8_busyNight_81 ?_
      refine E_iconst (v := (2 : Int32)) rfl dX8_busyNight_82 ?_
      refine pf_RX8_42 rfl hv0 (shape_ord hv0).1 dX8_busyNight_83 ?_
      obtain ⟨m2, e3, hF⟩ := nx_inv hF
      refine E_mem e3 ?_
      refine E_iconst (v := (0 : Int32)) rfl dX8_busyNight_86 ?_
      exact E_iret (Or.inl rfl) rfl (by cases hF; exact hr) dX8_busyNight_87
    · have hF := ite_f hF c1
      refine E_lload_n (j := 3) (i := 3) (q := 1) rfl rfl dX8_busyNight_50 ?_
      refine E_iload (q := 3) rfl dX8_busyNight_51 ?_
      refine E_lshr dX8_busyNight_53 ?_
      refine E_lconst (v := (1 : Int64)) rfl dX8_busyNight_54 ?_
      refine E_land dX8_busyNight_55 ?_
      refine E_lconst (v := (0 : Int64)) rfl dX8_busyNight_56 ?_
      refine E_lcmp dX8_busyNight_57 ?_
      refine E_if_ne (tgt := 64) rfl dX8_busyNight_58 (fun c4 => ?_) (fun c4 => ?_)
      · have hF := ite_f hF c4
        refine E_iload (q := 2) rfl dX8_busyNight_64 ?_
        refine E_if_ne (tgt := 72) rfl dX8_busyNight_66 (fun c5 => ?_) (fun c5 => ?_)
        · have hF := ite_f hF c5
          refine E_iinc (q := 2) (v := (v5 + (-1 : Int32))) (L' := [(5, .int (v5 + (-1 : Int32))), (0, .ref v0), (3, .long v3), (6, .int v6)]) rfl (congrArg (fun z => v5 + z) (by decide)) (Nat.le_of_ble_eq_true rfl) rfl dX8_busyNight_72 ?_
          refine E_sub [1, 2, 0, 3] rfl ?_
          exact T_X8_busyNight_75 hfl fl hr ih _ _ _ _ _ hv0 hF
        · have hF := ite_t hF c5
          refine E_iload (q := 3) rfl dX8_busyNight_69 ?_
          exact E_iret (Or.inl rfl) rfl (by cases hF; exact hr) dX8_busyNight_71
      · have hF := ite_t hF c4
        refine E_goto (tgt := 75) rfl dX8_busyNight_61 ?_
        refine E_sub [0, 1, 2, 3] rfl ?_
        exact T_X8_busyNight_75 hfl fl hr ih _ _ _ _ _ hv0 hF
set_option maxHeartbeats 4000000 in
set_option maxRecDepth 100000 in
theorem T_X8_busyNight_14 {l : Launch} (hfl : l.stackTraces = false) (fl : Nat) {r : Rs} {ρ : (Int32 × Mem)} (hr : r = (.inr (some (.int ρ.1)), NF, ρ.2)) (v0 : Nat) (v1 : Int32) (v2 : Int32) (w0 : Nat) (w1 : Int32) (s : Mem) (hv0 : shape v0 = some (.inl 10)) (hw0 : shape w0 = some (.inl 10)) (hF : B_X8_busyNight_14 fl v0 v1 v2 w0 w1 s = some ρ) : E l X_X8_busyNight r false NF s 0 0 14 [(0, .ref v0), (1, .int v1), (2, .int v2)] [.int w1, .ref w0] := by
  unfold B_X8_busyNight_14 at hF
  refine pf_RX8_42 rfl hw0 (shape_ord hw0).1 dX8_busyNight_14 ?_
  obtain ⟨m6, e7, hF⟩ := nx_inv hF
  refine E_mem e7 ?_
  refine E_aload_n (j := 0) (i := 0) (q := 0) rfl rfl dX8_busyNight_17 ?_
  refine gf_RX8_42 rfl hv0 (shape_ord hv0).1 dX8_busyNight_18 ?_
  refine E_if_eq (tgt := 26) rfl dX8_busyNight_21 (fun c8 => ?_) (fun c8 => ?_)
  · have hF := ite_t hF c8
    refine E_aload_n (j := 0) (i := 0) (q := 0) rfl rfl dX8_busyNight_26 ?_
    refine E_iconst (v := (-1 : Int32)) rfl dX8_busyNight_27 ?_
    obtain ⟨q9, h10, hF⟩ := bd_inv hF
    refine E_callV (na := 1) (As := [.int (-1 : Int32)]) (S := []) (kc := 0) (ks := 0) (ci := 10) rfl rfl hv0 (shape_ord hv0).1 cwV_RX8_67 ⟨Nat.le_of_ble_eq_true rfl, Nat.le_of_ble_eq_true rfl⟩ (T_X8_loads hfl fl _ _ _ hv0 _ h10) rfl rfl rfl (Nat.le_of_ble_eq_true rfl) dX8_busyNight_28 ?_
    refine E_aload_n (j := 0) (i := 0) (q := 0) rfl rfl dX8_busyNight_31 ?_
    refine E_iload_n (j := 1) (i := 1) (q := 1) rfl rfl dX8_busyNight_32 ?_
    obtain ⟨q11, h12, hF⟩ := bd_inv hF
    refine E_callV (na := 1) (As := [.int v1]) (S := []) (kc := 0) (ks := 0) (ci := 10) rfl rfl hv0 (shape_ord hv0).1 cwV_RX8_71 ⟨Nat.le_of_ble_eq_true rfl, Nat.le_of_ble_eq_true rfl⟩ (T_X8_maskOf hfl fl _ _ _ hv0 _ h12) rfl rfl rfl (Nat.le_of_ble_eq_true rfl) dX8_busyNight_33 ?_
    refine E_lstore_n (j := 3) (i := 3) (L' := [(3, .long q11), (0, .ref v0), (1, .int v1), (2, .int v2)]) rfl (Nat.le_of_ble_eq_true rfl) rfl dX8_busyNight_36 ?_
    refine E_iload_n (j := 2) (i := 2) (q := 3) rfl rfl dX8_busyNight_37 ?_
    refine E_istore (L' := [(5, .int v2), (3, .long q11), (0, .ref v0), (1, .int v1), (2, .int v2)]) (Nat.le_of_ble_eq_true rfl) rfl dX8_busyNight_38 ?_
    refine E_iconst (v := (0 : Int32)) rfl dX8_busyNight_40 ?_
    refine E_istore (L' := [(6, .int (0 : Int32)), (5, .int v2), (3, .long q11), (0, .ref v0), (1, .int v1), (2, .int v2)]) (Nat.le_of_ble_eq_true rfl) rfl dX8_busyNight_41 ?_
    refine E_sub [3, 2, 1, 0] rfl ?_
    exact T_X8_busyNight_43 hfl fl hr  fl _ _ _ _ _ hv0 hF
  · have hF := ite_f hF c8
    refine E_iconst (v := (0 : Int32)) rfl dX8_busyNight_24 ?_
    exact E_iret (Or.inl rfl) rfl (by cases hF; exact hr) dX8_busyNight_25
set_option maxHeartbeats 4000000 in
set_option maxRecDepth 100000 in
theorem T_X8_busyNight {l : Launch} (hfl : l.stackTraces = false) (fl : Nat) (v0 : Nat) (v1 : Int32) (v2 : Int32) (s : Mem) (hv0 : shape v0 = some (.inl 10)) (ρ : (Int32 × Mem)) (hF : F_X8_busyNight fl v0 v1 v2 s = some ρ) : MetN l X_X8_busyNight false NF s [.ref v0, .int v1, .int v2] (.inr (some (.int ρ.1)), NF, ρ.2) := by
  unfold F_X8_busyNight at hF
  obtain ⟨r, hr⟩ : ∃ r : Rs, r = (.inr (some (.int ρ.1)), NF, ρ.2) := ⟨_, rfl⟩
  rw [← hr]
  refine met_of_E rfl rfl (by decide +kernel) hfl rfl (Nat.le_of_ble_eq_true rfl) ?_
  show E l X_X8_busyNight r false NF s 0 0 0 [(0, .ref v0), (1, .int v1), (2, .int v2)] []
  refine E_aload_n (j := 0) (i := 0) (q := 0) rfl rfl dX8_busyNight_0 ?_
  refine E_aload_n (j := 0) (i := 0) (q := 0) rfl rfl dX8_busyNight_1 ?_
  refine E_iload_n (j := 1) (i := 1) (q := 1) rfl rfl dX8_busyNight_2 ?_
  obtain ⟨q13, h14, hF⟩ := bd_inv hF
  refine E_callV (na := 1) (As := [.int v1]) (S := [.ref v0]) (kc := 0) (ks := 0) (ci := 10) rfl rfl hv0 (shape_ord hv0).1 cwV_RX8_59 ⟨Nat.le_of_ble_eq_true rfl, Nat.le_of_ble_eq_true rfl⟩ (T_X8_isPitch hfl fl _ _ _ hv0 _ h14) rfl rfl rfl (Nat.le_of_ble_eq_true rfl) dX8_busyNight_3 ?_
  refine E_if_eq (tgt := 13) rfl dX8_busyNight_6 (fun c15 => ?_) (fun c15 => ?_)
  · have hF := ite_t hF c15
    refine E_iconst (v := (1 : Int32)) rfl dX8_busyNight_13 ?_
    refine E_sub [0, 1, 2] rfl ?_
    exact T_X8_busyNight_14 hfl fl hr  _ _ _ _ _ _ hv0 hv0 hF
  · have hF := ite_f hF c15
    refine E_iconst (v := (0 : Int32)) rfl dX8_busyNight_9 ?_
    refine E_goto (tgt := 14) rfl dX8_busyNight_10 ?_
    refine E_sub [0, 1, 2] rfl ?_
    exact T_X8_busyNight_14 hfl fl hr  _ _ _ _ _ _ hv0 hv0 hF
set_option maxHeartbeats 4000000 in
set_option maxRecDepth 100000 in
theorem T_X8_firstFree_62 {l : Launch} (hfl : l.stackTraces = false) (fl : Nat) {r : Rs} {ρ : (Int32 × Mem)} (hr : r = (.inr (some (.int ρ.1)), NF, ρ.2)) : ∀ (n : Nat) (v0 : Nat) (v3 : Int32) (v4 : Int64) (v6 : Int32) (s : Mem) (hv0 : shape v0 = some (.inl 10)), B_X8_firstFree_62 fl n v0 v3 v4 v6 s = some ρ → E l X_X8_firstFree r false NF s 0 0 62 [(0, .ref v0), (3, .int v3), (4, .long v4), (6, .int v6)] [] := by
  intro n
  induction n with
  | zero =>
    intro v0 v3 v4 v6 s hv0 hF
    cases hF
  | succ n ih =>
    intro v0 v3 v4 v6 s hv0 hF
    refine E_iload (q := 3) rfl dX8_firstFree_62 ?_
    refine E_iload_n (j := 3) (i := 3) (q := 1) rfl rfl dX8_firstFree_64 ?_
    refine E_iadd dX8_firstFree_65 ?_
    refine E_bipush (v := (60 : Int32)) rfl dX8_firstFree_66 ?_
    refine E_icmp_gt (tgt := 94) rfl dX8_firstFree_68 (fun c1 => ?_) (fun c1 => ?_)
    · have hF := ite_t hF c1
      refine E_aload_n (j := 0) (i := 0) (q := 0) rfl rfl dX8_firstFree_94 ?_
      refine E_iconst (v := (3 : Int32)) rfl dX8_firstFree_95 ?_
      refine pf_RX8_42 rfl hv0 (shape_ord hv0).1 dX8_firstFree_96 ?_
      obtain ⟨m2, e3, hF⟩ := nx_inv hF
      refine E_mem e3 ?_
      refine E_iconst (v := (0 : Int32)) rfl dX8_firstFree_99 ?_
      exact E_iret (Or.inl rfl) rfl (by cases hF; exact hr) dX8_firstFree_100
    · have hF := ite_f hF c1
      refine E_lload (q := 2) rfl dX8_firstFree_71 ?_
      refine E_iload (q := 3) rfl dX8_firstFree_73 ?_
      refine E_iload_n (j := 3) (i := 3) (q := 1) rfl rfl dX8_firstFree_75 ?_
      obtain ⟨q4, h5, hF⟩ := bd_inv hF
      refine E_callS (na := 2) (As := [.int v6, .int v3]) (S := [.long v4]) (kc := 0) (ks := 0) cwS_RX8_103 ⟨Nat.le_of_ble_eq_true rfl, Nat.le_of_ble_eq_true rfl⟩ (T_X8_mask hfl fl _ _ _  _ h5) rfl rfl rfl (Nat.le_of_ble_eq_true rfl) dX8_firstFree_76 ?_
      refine E_land dX8_firstFree_79 ?_
      refine E_lconst (v := (0 : Int64)) rfl dX8_firstFree_80 ?_
      refine E_lcmp dX8_firstFree_81 ?_
      refine E_if_ne (tgt := 88) rfl dX8_firstFree_82 (fun c6 => ?_) (fun c6 => ?_)
      · have hF := ite_f hF c6
        refine E_iinc (q := 3) (v := (v6 + (1 : Int32))) (L' := [(6, .int (v6 + (1 : Int32))), (0, .ref v0), (3, .int v3), (4, .long v4)]) rfl rfl (Nat.le_of_ble_eq_true rfl) rfl dX8_firstFree_88 ?_
        refine E_goto (tgt := 62) rfl dX8_firstFree_91 ?_
        refine E_sub [1, 2, 3, 0] rfl ?_
        exact ih _ _ _ _ _ hv0 hF
      · have hF := ite_t hF c6
        refine E_iload (q := 3) rfl dX8_firstFree_85 ?_
        exact E_iret (Or.inl rfl) rfl (by cases hF; exact hr) dX8_firstFree_87
set_option maxHeartbeats 4000000 in
set_option maxRecDepth 100000 in
theorem T_X8_firstFree_35 {l : Launch} (hfl : l.stackTraces = false) (fl : Nat) {r : Rs} {ρ : (Int32 × Mem)} (hr : r = (.inr (some (.int ρ.1)), NF, ρ.2)) (v0 : Nat) (v1 : Int32) (v2 : Int32) (v3 : Int32) (w0 : Nat) (w1 : Int32) (s : Mem) (hv0 : shape v0 = some (.inl 10)) (hw0 : shape w0 = some (.inl 10)) (hF : B_X8_firstFree_35 fl v0 v1 v2 v3 w0 w1 s = some ρ) : E l X_X8_firstFree r false NF s 0 0 35 [(0, .ref v0), (1, .int v1), (2, .int v2), (3, .int v3)] [.int w1, .ref w0] := by
  unfold B_X8_firstFree_35 at hF
  refine pf_RX8_42 rfl hw0 (shape_ord hw0).1 dX8_firstFree_35 ?_
  obtain ⟨m7, e8, hF⟩ := nx_inv hF
  refine E_mem e8 ?_
  refine E_aload_n (j := 0) (i := 0) (q := 0) rfl rfl dX8_firstFree_38 ?_
  refine gf_RX8_42 rfl hv0 (shape_ord hv0).1 dX8_firstFree_39 ?_
  refine E_if_eq (tgt := 47) rfl dX8_firstFree_42 (fun c9 => ?_) (fun c9 => ?_)
  · have hF := ite_t hF c9
    refine E_aload_n (j := 0) (i := 0) (q := 0) rfl rfl dX8_firstFree_47 ?_
    refine E_iconst (v := (-1 : Int32)) rfl dX8_firstFree_48 ?_
    obtain ⟨q10, h11, hF⟩ := bd_inv hF
    refine E_callV (na := 1) (As := [.int (-1 : Int32)]) (S := []) (kc := 0) (ks := 0) (ci := 10) rfl rfl hv0 (shape_ord hv0).1 cwV_RX8_67 ⟨Nat.le_of_ble_eq_true rfl, Nat.le_of_ble_eq_true rfl⟩ (T_X8_loads hfl fl _ _ _ hv0 _ h11) rfl rfl rfl (Nat.le_of_ble_eq_true rfl) dX8_firstFree_49 ?_
    refine E_aload_n (j := 0) (i := 0) (q := 0) rfl rfl dX8_firstFree_52 ?_
    refine E_iload_n (j := 1) (i := 1) (q := 1) rfl rfl dX8_firstFree_53 ?_
    obtain ⟨q12, h13, hF⟩ := bd_inv hF
    refine E_callV (na := 1) (As := [.int v1]) (S := []) (kc := 0) (ks := 0) (ci := 10) rfl rfl hv0 (shape_ord hv0).1 cwV_RX8_71 ⟨Nat.le_of_ble_eq_true rfl, Nat.le_of_ble_eq_true rfl⟩ (T_X8_maskOf hfl fl _ _ _ hv0 _ h13) rfl rfl rfl (Nat.le_of_ble_eq_true rfl) dX8_firstFree_54 ?_
    refine E_lstore (L' := [(4, .long q12), (0, .ref v0), (1, .int v1), (2, .int v2), (3, .int v3)]) (Nat.le_of_ble_eq_true rfl) rfl dX8_firstFree_57 ?_
    refine E_iload_n (j := 2) (i := 2) (q := 3) rfl rfl dX8_firstFree_59 ?_
    refine E_istore (L' := [(6, .int v2), (4, .long q12), (0, .ref v0), (1, .int v1), (2, .int v2), (3, .int v3)]) (Nat.le_of_ble_eq_true rfl) rfl dX8_firstFree_60 ?_
    refine E_sub [2, 5, 1, 0] rfl ?_
    exact T_X8_firstFree_62 hfl fl hr  fl _ _ _ _ _ hv0 hF
  · have hF := ite_f hF c9
    refine E_iconst (v := (0 : Int32)) rfl dX8_firstFree_45 ?_
    exact E_iret (Or.inl rfl) rfl (by cases hF; exact hr) dX8_firstFree_46
set_option maxHeartbeats 4000000 in
set_option maxRecDepth 100000 in
theorem T_X8_firstFree_34 {l : Launch} (hfl : l.stackTraces = false) (fl : Nat) {r : Rs} {ρ : (Int32 × Mem)} (hr : r = (.inr (some (.int ρ.1)), NF, ρ.2)) (v0 : Nat) (v1 : Int32) (v2 : Int32) (v3 : Int32) (w0 : Nat) (s : Mem) (hv0 : shape v0 = some (.inl 10)) (hw0 : shape w0 = some (.inl 10)) (hF : B_X8_firstFree_34 fl v0 v1 v2 v3 w0 s = some ρ) : E l X_X8_firstFree r false NF s 0 0 34 [(0, .ref v0), (1, .int v1), (2, .int v2), (3, .int v3)] [.ref w0] := by
  unfold B_X8_firstFree_34 at hF
  refine E_iconst (v := (2 : Int32)) rfl dX8_firstFree_34 ?_
  refine E_sub [0, 1, 2, 3] rfl ?_
  exact T_X8_firstFree_35 hfl fl hr  _ _ _ _ _ _ _ hv0 hw0 hF
set_option maxHeartbeats 4000000 in
set_option maxRecDepth 100000 in
theorem T_X8_firstFree {l : Launch} (hfl : l.stackTraces = false) (fl : Nat) (v0 : Nat) (v1 : Int32) (v2 : Int32) (v3 : Int32) (s : Mem) (hv0 : shape v0 = some (.inl 10)) (ρ : (Int32 × Mem)) (hF : F_X8_firstFree fl v0 v1 v2 v3 s = some ρ) : MetN l X_X8_firstFree false NF s [.ref v0, .int v1, .int v2, .int v3] (.inr (some (.int ρ.1)), NF, ρ.2) := by
  unfold F_X8_firstFree at hF
  obtain ⟨r, hr⟩ : ∃ r : Rs, r = (.inr (some (.int ρ.1)), NF, ρ.2) := ⟨_, rfl⟩
  rw [← hr]
  refine met_of_E rfl rfl (by decide +kernel) hfl rfl (Nat.le_of_ble_eq_true rfl) ?_
  show E l X_X8_firstFree r false NF s 0 0 0 [(0, .ref v0), (1, .int v1), (2, .int v2), (3, .int v3)] []
  refine E_aload_n (j := 0) (i := 0) (q := 0) rfl rfl dX8_firstFree_0 ?_
  refine E_aload_n (j := 0) (i := 0) (q := 0) rfl rfl dX8_firstFree_1 ?_
  refine E_iload_n (j := 1) (i := 1) (q := 1) rfl rfl dX8_firstFree_2 ?_
  obtain ⟨q14, h15, hF⟩ := bd_inv hF
  refine E_callV (na := 1) (As := [.int v1]) (S := [.ref v0]) (kc := 0) (ks := 0) (ci := 10) rfl rfl hv0 (shape_ord hv0).1 cwV_RX8_59 ⟨Nat.le_of_ble_eq_true rfl, Nat.le_of_ble_eq_true rfl⟩ (T_X8_isPitch hfl fl _ _ _ hv0 _ h15) rfl rfl rfl (Nat.le_of_ble_eq_true rfl) dX8_firstFree_3 ?_
  refine E_if_ne (tgt := 13) rfl dX8_firstFree_6 (fun c16 => ?_) (fun c16 => ?_)
  · have hF := ite_f hF c16
    refine E_iload_n (j := 2) (i := 2) (q := 2) rfl rfl dX8_firstFree_13 ?_
    obtain ⟨q17, h18, hF⟩ := bd_inv hF
    refine E_callS (na := 1) (As := [.int v2]) (S := [.ref v0]) (kc := 0) (ks := 0) cwS_RX8_88 ⟨Nat.le_of_ble_eq_true rfl, Nat.le_of_ble_eq_true rfl⟩ (T_X8_isNight hfl fl _ _  _ h18) rfl rfl rfl (Nat.le_of_ble_eq_true rfl) dX8_firstFree_14 ?_
    refine E_if_eq (tgt := 34) rfl dX8_firstFree_17 (fun c19 => ?_) (fun c19 => ?_)
    · have hF := ite_t hF c19
      refine E_sub [0, 1, 2, 3] rfl ?_
      exact T_X8_firstFree_34 hfl fl hr  _ _ _ _ _ _ hv0 hv0 hF
    · have hF := ite_f hF c19
      refine E_iload_n (j := 3) (i := 3) (q := 3) rfl rfl dX8_firstFree_20 ?_
      refine E_iconst (v := (1 : Int32)) rfl dX8_firstFree_21 ?_
      refine E_bipush (v := (14 : Int32)) rfl dX8_firstFree_22 ?_
      obtain ⟨q20, h21, hF⟩ := bd_inv hF
      refine E_callS (na := 3) (As := [.int v3, .int (1 : Int32), .int (14 : Int32)]) (S := [.ref v0]) (kc := 0) (ks := 0) cwS_RX8_52 ⟨Nat.le_of_ble_eq_true rfl, Nat.le_of_ble_eq_true rfl⟩ (T_X8_in hfl fl _ _ _ _  _ h21) rfl rfl rfl (Nat.le_of_ble_eq_true rfl) dX8_firstFree_24 ?_
      refine E_if_eq (tgt := 34) rfl dX8_firstFree_27 (fun c22 => ?_) (fun c22 => ?_)
      · have hF := ite_t hF c22
        refine E_sub [0, 1, 2, 3] rfl ?_
        exact T_X8_firstFree_34 hfl fl hr  _ _ _ _ _ _ hv0 hv0 hF
      · have hF := ite_f hF c22
        refine E_iconst (v := (0 : Int32)) rfl dX8_firstFree_30 ?_
        refine E_goto (tgt := 35) rfl dX8_firstFree_31 ?_
        refine E_sub [0, 1, 2, 3] rfl ?_
        exact T_X8_firstFree_35 hfl fl hr  _ _ _ _ _ _ _ hv0 hv0 hF
  · have hF := ite_t hF c16
    refine E_iconst (v := (1 : Int32)) rfl dX8_firstFree_9 ?_
    refine E_goto (tgt := 35) rfl dX8_firstFree_10 ?_
    refine E_sub [0, 1, 2, 3] rfl ?_
    exact T_X8_firstFree_35 hfl fl hr  _ _ _ _ _ _ _ hv0 hv0 hF
set_option maxHeartbeats 4000000 in
set_option maxRecDepth 100000 in
theorem T_X8_power_20 {l : Launch} (hfl : l.stackTraces = false) (fl : Nat) {r : Rs} {ρ : (Int32 × Mem)} (hr : r = (.inr (some (.int ρ.1)), NF, ρ.2)) (v0 : Nat) (v1 : Int32) (v2 : Int32) (w0 : Nat) (w1 : Int32) (s : Mem) (hv0 : shape v0 = some (.inl 10)) (hw0 : shape w0 = some (.inl 10)) (hF : B_X8_power_20 fl v0 v1 v2 w0 w1 s = some ρ) : E l X_X8_power r false NF s 0 0 20 [(0, .ref v0), (1, .int v1), (2, .int v2)] [.int w1, .ref w0] := by
  unfold B_X8_power_20 at hF
  refine pf_RX8_42 rfl hw0 (shape_ord hw0).1 dX8_power_20 ?_
  obtain ⟨m1, e2, hF⟩ := nx_inv hF
  refine E_mem e2 ?_
  refine E_aload_n (j := 0) (i := 0) (q := 0) rfl rfl dX8_power_23 ?_
  refine gf_RX8_42 rfl hv0 (shape_ord hv0).1 dX8_power_24 ?_
  refine E_if_eq (tgt := 32) rfl dX8_power_27 (fun c3 => ?_) (fun c3 => ?_)
  · have hF := ite_t hF c3
    refine E_aload_n (j := 0) (i := 0) (q := 0) rfl rfl dX8_power_32 ?_
    refine E_iconst (v := (-1 : Int32)) rfl dX8_power_33 ?_
    obtain ⟨q4, h5, hF⟩ := bd_inv hF
    refine E_callV (na := 1) (As := [.int (-1 : Int32)]) (S := []) (kc := 0) (ks := 0) (ci := 10) rfl rfl hv0 (shape_ord hv0).1 cwV_RX8_67 ⟨Nat.le_of_ble_eq_true rfl, Nat.le_of_ble_eq_true rfl⟩ (T_X8_loads hfl fl _ _ _ hv0 _ h5) rfl rfl rfl (Nat.le_of_ble_eq_true rfl) dX8_power_34 ?_
    refine E_aload_n (j := 0) (i := 0) (q := 0) rfl rfl dX8_power_37 ?_
    refine E_iload_n (j := 1) (i := 1) (q := 1) rfl rfl dX8_power_38 ?_
    refine E_iload_n (j := 2) (i := 2) (q := 2) rfl rfl dX8_power_39 ?_
    obtain ⟨q6, h7, hF⟩ := bd_inv hF
    refine E_callV (na := 2) (As := [.int v1, .int v2]) (S := []) (kc := 0) (ks := 0) (ci := 10) rfl rfl hv0 (shape_ord hv0).1 cwV_RX8_116 ⟨Nat.le_of_ble_eq_true rfl, Nat.le_of_ble_eq_true rfl⟩ (T_X8_powerAt hfl fl _ _ _ _ hv0 _ h7) rfl rfl rfl (Nat.le_of_ble_eq_true rfl) dX8_power_40 ?_
    exact E_iret (Or.inl rfl) rfl (by cases hF; exact hr) dX8_power_43
  · have hF := ite_f hF c3
    refine E_iconst (v := (0 : Int32)) rfl dX8_power_30 ?_
    exact E_iret (Or.inl rfl) rfl (by cases hF; exact hr) dX8_power_31
set_option maxHeartbeats 4000000 in
set_option maxRecDepth 100000 in
theorem T_X8_power_19 {l : Launch} (hfl : l.stackTraces = false) (fl : Nat) {r : Rs} {ρ : (Int32 × Mem)} (hr : r = (.inr (some (.int ρ.1)), NF, ρ.2)) (v0 : Nat) (v1 : Int32) (v2 : Int32) (w0 : Nat) (s : Mem) (hv0 : shape v0 = some (.inl 10)) (hw0 : shape w0 = some (.inl 10)) (hF : B_X8_power_19 fl v0 v1 v2 w0 s = some ρ) : E l X_X8_power r false NF s 0 0 19 [(0, .ref v0), (1, .int v1), (2, .int v2)] [.ref w0] := by
  unfold B_X8_power_19 at hF
  refine E_iconst (v := (1 : Int32)) rfl dX8_power_19 ?_
  refine E_sub [0, 1, 2] rfl ?_
  exact T_X8_power_20 hfl fl hr  _ _ _ _ _ _ hv0 hw0 hF
set_option maxHeartbeats 4000000 in
set_option maxRecDepth 100000 in
theorem T_X8_power {l : Launch} (hfl : l.stackTraces = false) (fl : Nat) (v0 : Nat) (v1 : Int32) (v2 : Int32) (s : Mem) (hv0 : shape v0 = some (.inl 10)) (ρ : (Int32 × Mem)) (hF : F_X8_power fl v0 v1 v2 s = some ρ) : MetN l X_X8_power false NF s [.ref v0, .int v1, .int v2] (.inr (some (.int ρ.1)), NF, ρ.2) := by
  unfold F_X8_power at hF
  obtain ⟨r, hr⟩ : ∃ r : Rs, r = (.inr (some (.int ρ.1)), NF, ρ.2) := ⟨_, rfl⟩
  rw [← hr]
  refine met_of_E rfl rfl (by decide +kernel) hfl rfl (Nat.le_of_ble_eq_true rfl) ?_
  show E l X_X8_power r false NF s 0 0 0 [(0, .ref v0), (1, .int v1), (2, .int v2)] []
  refine E_aload_n (j := 0) (i := 0) (q := 0) rfl rfl dX8_power_0 ?_
  refine E_iload_n (j := 1) (i := 1) (q := 1) rfl rfl dX8_power_1 ?_
  obtain ⟨q8, h9, hF⟩ := bd_inv hF
  refine E_callS (na := 1) (As := [.int v1]) (S := [.ref v0]) (kc := 0) (ks := 0) cwS_RX8_82 ⟨Nat.le_of_ble_eq_true rfl, Nat.le_of_ble_eq_true rfl⟩ (T_X8_isCircuit hfl fl _ _  _ h9) rfl rfl rfl (Nat.le_of_ble_eq_true rfl) dX8_power_2 ?_
  refine E_if_eq (tgt := 19) rfl dX8_power_5 (fun c10 => ?_) (fun c10 => ?_)
  · have hF := ite_t hF c10
    refine E_sub [0, 1, 2] rfl ?_
    exact T_X8_power_19 hfl fl hr  _ _ _ _ _ hv0 hv0 hF
  · have hF := ite_f hF c10
    refine E_iload_n (j := 2) (i := 2) (q := 2) rfl rfl dX8_power_8 ?_
    obtain ⟨q11, h12, hF⟩ := bd_inv hF
    refine E_callS (na := 1) (As := [.int v2]) (S := [.ref v0]) (kc := 0) (ks := 0) cwS_RX8_88 ⟨Nat.le_of_ble_eq_true rfl, Nat.le_of_ble_eq_true rfl⟩ (T_X8_isNight hfl fl _ _  _ h12) rfl rfl rfl (Nat.le_of_ble_eq_true rfl) dX8_power_9 ?_
    refine E_if_eq (tgt := 19) rfl dX8_power_12 (fun c13 => ?_) (fun c13 => ?_)
    · have hF := ite_t hF c13
      refine E_sub [0, 1, 2] rfl ?_
      exact T_X8_power_19 hfl fl hr  _ _ _ _ _ hv0 hv0 hF
    · have hF := ite_f hF c13
      refine E_iconst (v := (0 : Int32)) rfl dX8_power_15 ?_
      refine E_goto (tgt := 20) rfl dX8_power_16 ?_
      refine E_sub [0, 1, 2] rfl ?_
      exact T_X8_power_20 hfl fl hr  _ _ _ _ _ _ hv0 hv0 hF
set_option maxHeartbeats 4000000 in
set_option maxRecDepth 100000 in
theorem T_X8_peak_78 {l : Launch} (hfl : l.stackTraces = false) (fl : Nat) {r : Rs} {ρ : (Int32 × Mem)} (hr : r = (.inr (some (.int ρ.1)), NF, ρ.2)) {k37 : Nat → Int32 → Int32 → Int32 → Int32 → Mem → Option (Int32 × Mem)} (hk37 : ∀ (v0 : Nat) (v1 : Int32) (v2 : Int32) (v3 : Int32) (v4 : Int32) (s : Mem) (hv0 : shape v0 = some (.inl 10)), k37 v0 v1 v2 v3 v4 s = some ρ → E l X_X8_peak r false NF s 0 0 37 [(0, .ref v0), (1, .int v1), (2, .int v2), (3, .int v3), (4, .int v4)] []) (v0 : Nat) (v1 : Int32) (v3 : Int32) (v4 : Int32) (w0 : Int32) (s : Mem) (hv0 : shape v0 = some (.inl 10)) (hF : B_X8_peak_78 k37 fl v0 v1 v3 v4 w0 s = some ρ) : E l X_X8_peak r false NF s 0 0 78 [(0, .ref v0), (1, .int v1), (3, .int v3), (4, .int v4)] [.int w0] := by
  unfold B_X8_peak_78 at hF
  refine E_istore_n (j := 2) (i := 2) (L' := [(2, .int w0), (0, .ref v0), (1, .int v1), (3, .int v3), (4, .int v4)]) rfl (Nat.le_of_ble_eq_true rfl) rfl dX8_peak_78 ?_
  refine E_iinc (q := 4) (v := (v4 + (1 : Int32))) (L' := [(4, .int (v4 + (1 : Int32))), (2, .int w0), (0, .ref v0), (1, .int v1), (3, .int v3)]) rfl rfl (Nat.le_of_ble_eq_true rfl) rfl dX8_peak_79 ?_
  refine E_goto (tgt := 37) rfl dX8_peak_82 ?_
  refine E_sub [2, 3, 1, 4, 0] rfl ?_
  exact hk37 _ _ _ _ _ _ hv0 hF
set_option maxHeartbeats 4000000 in
set_option maxRecDepth 100000 in
theorem T_X8_peak_65 {l : Launch} (hfl : l.stackTraces = false) (fl : Nat) {r : Rs} {ρ : (Int32 × Mem)} (hr : r = (.inr (some (.int ρ.1)), NF, ρ.2)) {k37 : Nat → Int32 → Int32 → Int32 → Int32 → Mem → Option (Int32 × Mem)} (hk37 : ∀ (v0 : Nat) (v1 : Int32) (v2 : Int32) (v3 : Int32) (v4 : Int32) (s : Mem) (hv0 : shape v0 = some (.inl 10)), k37 v0 v1 v2 v3 v4 s = some ρ → E l X_X8_peak r false NF s 0 0 37 [(0, .ref v0), (1, .int v1), (2, .int v2), (3, .int v3), (4, .int v4)] []) (v0 : Nat) (v1 : Int32) (v2 : Int32) (v4 : Int32) (v5 : Int32) (w0 : Int32) (s : Mem) (hv0 : shape v0 = some (.inl 10)) (hF : B_X8_peak_65 k37 fl v0 v1 v2 v4 v5 w0 s = some ρ) : E l X_X8_peak r false NF s 0 0 65 [(0, .ref v0), (1, .int v1), (2, .int v2), (4, .int v4), (5, .int v5)] [.int w0] := by
  unfold B_X8_peak_65 at hF
  refine E_istore_n (j := 3) (i := 3) (L' := [(3, .int w0), (0, .ref v0), (1, .int v1), (2, .int v2), (4, .int v4), (5, .int v5)]) rfl (Nat.le_of_ble_eq_true rfl) rfl dX8_peak_65 ?_
  refine E_iload (q := 5) rfl dX8_peak_66 ?_
  refine E_iload_n (j := 2) (i := 2) (q := 3) rfl rfl dX8_peak_68 ?_
  refine E_icmp_le (tgt := 77) rfl dX8_peak_69 (fun c1 => ?_) (fun c1 => ?_)
  · have hF := ite_t hF c1
    refine E_iload_n (j := 2) (i := 2) (q := 3) rfl rfl dX8_peak_77 ?_
    refine E_sub [1, 2, 0, 4] rfl ?_
    exact T_X8_peak_78 hfl fl hr hk37 _ _ _ _ _ _ hv0 hF
  · have hF := ite_f hF c1
    refine E_iload (q := 5) rfl dX8_peak_72 ?_
    refine E_goto (tgt := 78) rfl dX8_peak_74 ?_
    refine E_sub [1, 2, 0, 4] rfl ?_
    exact T_X8_peak_78 hfl fl hr hk37 _ _ _ _ _ _ hv0 hF
set_option maxHeartbeats 4000000 in
set_option maxRecDepth 100000 in
theorem T_X8_peak_95 {l : Launch} (hfl : l.stackTraces = false) (fl : Nat) {r : Rs} {ρ : (Int32 × Mem)} (hr : r = (.inr (some (.int ρ.1)), NF, ρ.2)) (v0 : Nat) (v3 : Int32) (w0 : Nat) (w1 : Int32) (s : Mem) (hv0 : shape v0 = some (.inl 10)) (hw0 : shape w0 = some (.inl 10)) (hF : B_X8_peak_95 fl v0 v3 w0 w1 s = some ρ) : E l X_X8_peak r false NF s 0 0 95 [(0, .ref v0), (3, .int v3)] [.int w1, .ref w0] := by
  unfold B_X8_peak_95 at hF
  refine pf_RX8_42 rfl hw0 (shape_ord hw0).1 dX8_peak_95 ?_
  obtain ⟨m2, e3, hF⟩ := nx_inv hF
  refine E_mem e3 ?_
  refine E_aload_n (j := 0) (i := 0) (q := 0) rfl rfl dX8_peak_98 ?_
  refine gf_RX8_42 rfl hv0 (shape_ord hv0).1 dX8_peak_99 ?_
  refine E_if_ne (tgt := 109) rfl dX8_peak_102 (fun c4 => ?_) (fun c4 => ?_)
  · have hF := ite_f hF c4
    refine E_iconst (v := (0 : Int32)) rfl dX8_peak_109 ?_
    exact E_iret (Or.inl rfl) rfl (by cases hF; exact hr) dX8_peak_110
  · have hF := ite_t hF c4
    refine E_iload_n (j := 3) (i := 3) (q := 1) rfl rfl dX8_peak_105 ?_
    refine E_goto (tgt := 110) rfl dX8_peak_106 ?_
    exact E_iret (Or.inl rfl) rfl (by cases hF; exact hr) dX8_peak_110
set_option maxHeartbeats 4000000 in
set_option maxRecDepth 100000 in
theorem T_X8_peak_37 {l : Launch} (hfl : l.stackTraces = false) (fl : Nat) {r : Rs} {ρ : (Int32 × Mem)} (hr : r = (.inr (some (.int ρ.1)), NF, ρ.2)) : ∀ (n : Nat) (v0 : Nat) (v1 : Int32) (v2 : Int32) (v3 : Int32) (v4 : Int32) (s : Mem) (hv0 : shape v0 = some (.inl 10)), B_X8_peak_37 fl n v0 v1 v2 v3 v4 s = some ρ → E l X_X8_peak r false NF s 0 0 37 [(0, .ref v0), (1, .int v1), (2, .int v2), (3, .int v3), (4, .int v4)] [] := by
  intro n
  induction n with
  | zero =>
    intro v0 v1 v2 v3 v4 s hv0 hF
    cases hF
  | succ n ih =>
    intro v0 v1 v2 v3 v4 s hv0 hF
    refine E_iload (q := 4) rfl dX8_peak_37 ?_
    refine E_bipush (v := (60 : Int32)) rfl dX8_peak_39 ?_
    refine E_icmp_ge (tgt := 85) rfl dX8_peak_41 (fun c5 => ?_) (fun c5 => ?_)
    · have hF := ite_t hF c5
      refine E_aload_n (j := 0) (i := 0) (q := 0) rfl rfl dX8_peak_85 ?_
      refine E_iload_n (j := 2) (i := 2) (q := 2) rfl rfl dX8_peak_86 ?_
      refine E_if_ne (tgt := 94) rfl dX8_peak_87 (fun c6 => ?_) (fun c6 => ?_)
      · have hF := ite_f hF c6
        refine E_iconst (v := (0 : Int32)) rfl dX8_peak_94 ?_
        refine E_sub [0, 3] rfl ?_
        exact T_X8_peak_95 hfl fl hr  _ _ _ _ _ hv0 hv0 hF
      · have hF := ite_t hF c6
        refine E_iconst (v := (2 : Int32)) rfl dX8_peak_90 ?_
        refine E_goto (tgt := 95) rfl dX8_peak_91 ?_
        refine E_sub [0, 3] rfl ?_
        exact T_X8_peak_95 hfl fl hr  _ _ _ _ _ hv0 hv0 hF
    · have hF := ite_f hF c5
      refine E_aload_n (j := 0) (i := 0) (q := 0) rfl rfl dX8_peak_44 ?_
      refine E_iload_n (j := 1) (i := 1) (q := 1) rfl rfl dX8_peak_45 ?_
      refine E_iload (q := 4) rfl dX8_peak_46 ?_
      obtain ⟨q7, h8, hF⟩ := bd_inv hF
      refine E_callV (na := 2) (As := [.int v1, .int v4]) (S := []) (kc := 0) (ks := 0) (ci := 10) rfl rfl hv0 (shape_ord hv0).1 cwV_RX8_116 ⟨Nat.le_of_ble_eq_true rfl, Nat.le_of_ble_eq_true rfl⟩ (T_X8_powerAt hfl fl _ _ _ _ hv0 _ h8) rfl rfl rfl (Nat.le_of_ble_eq_true rfl) dX8_peak_48 ?_
      refine E_istore (L' := [(5, .int q7), (0, .ref v0), (1, .int v1), (2, .int v2), (3, .int v3), (4, .int v4)]) (Nat.le_of_ble_eq_true rfl) rfl dX8_peak_51 ?_
      refine E_iload (q := 0) rfl dX8_peak_53 ?_
      refine E_iload_n (j := 2) (i := 2) (q := 3) rfl rfl dX8_peak_55 ?_
      refine E_icmp_le (tgt := 64) rfl dX8_peak_56 (fun c9 => ?_) (fun c9 => ?_)
      · have hF := ite_t hF c9
        refine E_iload_n (j := 3) (i := 3) (q := 4) rfl rfl dX8_peak_64 ?_
        refine E_sub [1, 2, 3, 5, 0] rfl ?_
        exact T_X8_peak_65 hfl fl hr ih _ _ _ _ _ _ _ hv0 hF
      · have hF := ite_f hF c9
        refine E_iload (q := 5) rfl dX8_peak_59 ?_
        refine E_goto (tgt := 65) rfl dX8_peak_61 ?_
        refine E_sub [1, 2, 3, 5, 0] rfl ?_
        exact T_X8_peak_65 hfl fl hr ih _ _ _ _ _ _ _ hv0 hF
set_option maxHeartbeats 4000000 in
set_option maxRecDepth 100000 in
theorem T_X8_peak_13 {l : Launch} (hfl : l.stackTraces = false) (fl : Nat) {r : Rs} {ρ : (Int32 × Mem)} (hr : r = (.inr (some (.int ρ.1)), NF, ρ.2)) (v0 : Nat) (v1 : Int32) (w0 : Nat) (w1 : Int32) (s : Mem) (hv0 : shape v0 = some (.inl 10)) (hw0 : shape w0 = some (.inl 10)) (hF : B_X8_peak_13 fl v0 v1 w0 w1 s = some ρ) : E l X_X8_peak r false NF s 0 0 13 [(0, .ref v0), (1, .int v1)] [.int w1, .ref w0] := by
  unfold B_X8_peak_13 at hF
  refine pf_RX8_42 rfl hw0 (shape_ord hw0).1 dX8_peak_13 ?_
  obtain ⟨m10, e11, hF⟩ := nx_inv hF
  refine E_mem e11 ?_
  refine E_aload_n (j := 0) (i := 0) (q := 0) rfl rfl dX8_peak_16 ?_
  refine gf_RX8_42 rfl hv0 (shape_ord hv0).1 dX8_peak_17 ?_
  refine E_if_eq (tgt := 25) rfl dX8_peak_20 (fun c12 => ?_) (fun c12 => ?_)
  · have hF := ite_t hF c12
    refine E_aload_n (j := 0) (i := 0) (q := 0) rfl rfl dX8_peak_25 ?_
    refine E_iconst (v := (-1 : Int32)) rfl dX8_peak_26 ?_
    obtain ⟨q13, h14, hF⟩ := bd_inv hF
    refine E_callV (na := 1) (As := [.int (-1 : Int32)]) (S := []) (kc := 0) (ks := 0) (ci := 10) rfl rfl hv0 (shape_ord hv0).1 cwV_RX8_67 ⟨Nat.le_of_ble_eq_true rfl, Nat.le_of_ble_eq_true rfl⟩ (T_X8_loads hfl fl _ _ _ hv0 _ h14) rfl rfl rfl (Nat.le_of_ble_eq_true rfl) dX8_peak_27 ?_
    refine E_iconst (v := (0 : Int32)) rfl dX8_peak_30 ?_
    refine E_istore_n (j := 2) (i := 2) (L' := [(2, .int (0 : Int32)), (0, .ref v0), (1, .int v1)]) rfl (Nat.le_of_ble_eq_true rfl) rfl dX8_peak_31 ?_
    refine E_iconst (v := (0 : Int32)) rfl dX8_peak_32 ?_
    refine E_istore_n (j := 3) (i := 3) (L' := [(3, .int (0 : Int32)), (2, .int (0 : Int32)), (0, .ref v0), (1, .int v1)]) rfl (Nat.le_of_ble_eq_true rfl) rfl dX8_peak_33 ?_
    refine E_iconst (v := (0 : Int32)) rfl dX8_peak_34 ?_
    refine E_istore (L' := [(4, .int (0 : Int32)), (3, .int (0 : Int32)), (2, .int (0 : Int32)), (0, .ref v0), (1, .int v1)]) (Nat.le_of_ble_eq_true rfl) rfl dX8_peak_35 ?_
    refine E_sub [3, 4, 2, 1, 0] rfl ?_
    exact T_X8_peak_37 hfl fl hr  fl _ _ _ _ _ _ hv0 hF
  · have hF := ite_f hF c12
    refine E_iconst (v := (0 : Int32)) rfl dX8_peak_23 ?_
    exact E_iret (Or.inl rfl) rfl (by cases hF; exact hr) dX8_peak_24
set_option maxHeartbeats 4000000 in
set_option maxRecDepth 100000 in
theorem T_X8_peak {l : Launch} (hfl : l.stackTraces = false) (fl : Nat) (v0 : Nat) (v1 : Int32) (s : Mem) (hv0 : shape v0 = some (.inl 10)) (ρ : (Int32 × Mem)) (hF : F_X8_peak fl v0 v1 s = some ρ) : MetN l X_X8_peak false NF s [.ref v0, .int v1] (.inr (some (.int ρ.1)), NF, ρ.2) := by
  unfold F_X8_peak at hF
  obtain ⟨r, hr⟩ : ∃ r : Rs, r = (.inr (some (.int ρ.1)), NF, ρ.2) := ⟨_, rfl⟩
  rw [← hr]
  refine met_of_E rfl rfl (by decide +kernel) hfl rfl (Nat.le_of_ble_eq_true rfl) ?_
  show E l X_X8_peak r false NF s 0 0 0 [(0, .ref v0), (1, .int v1)] []
  refine E_aload_n (j := 0) (i := 0) (q := 0) rfl rfl dX8_peak_0 ?_
  refine E_iload_n (j := 1) (i := 1) (q := 1) rfl rfl dX8_peak_1 ?_
  obtain ⟨q15, h16, hF⟩ := bd_inv hF
  refine E_callS (na := 1) (As := [.int v1]) (S := [.ref v0]) (kc := 0) (ks := 0) cwS_RX8_82 ⟨Nat.le_of_ble_eq_true rfl, Nat.le_of_ble_eq_true rfl⟩ (T_X8_isCircuit hfl fl _ _  _ h16) rfl rfl rfl (Nat.le_of_ble_eq_true rfl) dX8_peak_2 ?_
  refine E_if_eq (tgt := 12) rfl dX8_peak_5 (fun c17 => ?_) (fun c17 => ?_)
  · have hF := ite_t hF c17
    refine E_iconst (v := (1 : Int32)) rfl dX8_peak_12 ?_
    refine E_sub [0, 1] rfl ?_
    exact T_X8_peak_13 hfl fl hr  _ _ _ _ _ hv0 hv0 hF
  · have hF := ite_f hF c17
    refine E_iconst (v := (0 : Int32)) rfl dX8_peak_8 ?_
    refine E_goto (tgt := 13) rfl dX8_peak_9 ?_
    refine E_sub [0, 1] rfl ?_
    exact T_X8_peak_13 hfl fl hr  _ _ _ _ _ hv0 hv0 hF
set_option maxHeartbeats 4000000 in
set_option maxRecDepth 100000 in
theorem T_X8_gap_57 {l : Launch} (hfl : l.stackTraces = false) (fl : Nat) {r : Rs} {ρ : (Int32 × Mem)} (hr : r = (.inr (some (.int ρ.1)), NF, ρ.2)) (v0 : Nat) (v3 : Int32) (w0 : Nat) (w1 : Int32) (s : Mem) (hv0 : shape v0 = some (.inl 10)) (hw0 : shape w0 = some (.inl 10)) (hF : B_X8_gap_57 fl v0 v3 w0 w1 s = some ρ) : E l X_X8_gap r false NF s 0 0 57 [(0, .ref v0), (3, .int v3)] [.int w1, .ref w0] := by
  unfold B_X8_gap_57 at hF
  refine pf_RX8_42 rfl hw0 (shape_ord hw0).1 dX8_gap_57 ?_
  obtain ⟨m1, e2, hF⟩ := nx_inv hF
  refine E_mem e2 ?_
  refine E_aload_n (j := 0) (i := 0) (q := 0) rfl rfl dX8_gap_60 ?_
  refine gf_RX8_42 rfl hv0 (shape_ord hv0).1 dX8_gap_61 ?_
  refine E_if_eq (tgt := 71) rfl dX8_gap_64 (fun c3 => ?_) (fun c3 => ?_)
  · have hF := ite_t hF c3
    refine E_iload_n (j := 3) (i := 3) (q := 1) rfl rfl dX8_gap_71 ?_
    refine E_if_eq (tgt := 82) rfl dX8_gap_72 (fun c4 => ?_) (fun c4 => ?_)
    · have hF := ite_t hF c4
      refine E_aload_n (j := 0) (i := 0) (q := 0) rfl rfl dX8_gap_82 ?_
      refine gf_RX8_106 rfl hv0 (shape_ord hv0).1 dX8_gap_83 ?_
      exact E_iret (Or.inl rfl) rfl (by cases hF; exact hr) dX8_gap_86
    · have hF := ite_f hF c4
      refine E_aload_n (j := 0) (i := 0) (q := 0) rfl rfl dX8_gap_75 ?_
      refine gf_RX8_109 rfl hv0 (shape_ord hv0).1 dX8_gap_76 ?_
      refine E_goto (tgt := 86) rfl dX8_gap_79 ?_
      exact E_iret (Or.inl rfl) rfl (by cases hF; exact hr) dX8_gap_86
  · have hF := ite_f hF c3
    refine E_iconst (v := (0 : Int32)) rfl dX8_gap_67 ?_
    refine E_goto (tgt := 86) rfl dX8_gap_68 ?_
    exact E_iret (Or.inl rfl) rfl (by cases hF; exact hr) dX8_gap_86
set_option maxHeartbeats 4000000 in
set_option maxRecDepth 100000 in
theorem T_X8_gap_14 {l : Launch} (hfl : l.stackTraces = false) (fl : Nat) {r : Rs} {ρ : (Int32 × Mem)} (hr : r = (.inr (some (.int ρ.1)), NF, ρ.2)) (v0 : Nat) (v1 : Int32) (v2 : Int32) (v3 : Int32) (w0 : Nat) (w1 : Int32) (s : Mem) (hv0 : shape v0 = some (.inl 10)) (hw0 : shape w0 = some (.inl 10)) (hF : B_X8_gap_14 fl v0 v1 v2 v3 w0 w1 s = some ρ) : E l X_X8_gap r false NF s 0 0 14 [(0, .ref v0), (1, .int v1), (2, .int v2), (3, .int v3)] [.int w1, .ref w0] := by
  unfold B_X8_gap_14 at hF
  refine pf_RX8_42 rfl hw0 (shape_ord hw0).1 dX8_gap_14 ?_
  obtain ⟨m5, e6, hF⟩ := nx_inv hF
  refine E_mem e6 ?_
  refine E_aload_n (j := 0) (i := 0) (q := 0) rfl rfl dX8_gap_17 ?_
  refine gf_RX8_42 rfl hv0 (shape_ord hv0).1 dX8_gap_18 ?_
  refine E_if_eq (tgt := 26) rfl dX8_gap_21 (fun c7 => ?_) (fun c7 => ?_)
  · have hF := ite_t hF c7
    refine E_aload_n (j := 0) (i := 0) (q := 0) rfl rfl dX8_gap_26 ?_
    refine E_iconst (v := (-1 : Int32)) rfl dX8_gap_27 ?_
    obtain ⟨q8, h9, hF⟩ := bd_inv hF
    refine E_callV (na := 1) (As := [.int (-1 : Int32)]) (S := []) (kc := 0) (ks := 0) (ci := 10) rfl rfl hv0 (shape_ord hv0).1 cwV_RX8_67 ⟨Nat.le_of_ble_eq_true rfl, Nat.le_of_ble_eq_true rfl⟩ (T_X8_loads hfl fl _ _ _ hv0 _ h9) rfl rfl rfl (Nat.le_of_ble_eq_true rfl) dX8_gap_28 ?_
    refine E_aload_n (j := 0) (i := 0) (q := 0) rfl rfl dX8_gap_31 ?_
    refine E_iload_n (j := 2) (i := 2) (q := 2) rfl rfl dX8_gap_32 ?_
    refine E_iconst (v := (0 : Int32)) rfl dX8_gap_33 ?_
    refine E_aload_n (j := 0) (i := 0) (q := 0) rfl rfl dX8_gap_34 ?_
    refine E_aload_n (j := 0) (i := 0) (q := 0) rfl rfl dX8_gap_35 ?_
    refine E_iload_n (j := 1) (i := 1) (q := 1) rfl rfl dX8_gap_36 ?_
    obtain ⟨q10, h11, hF⟩ := bd_inv hF
    refine E_callV (na := 1) (As := [.int v1]) (S := [.ref v0, .int (0 : Int32), .int v2, .ref v0]) (kc := 0) (ks := 0) (ci := 10) rfl rfl hv0 (shape_ord hv0).1 cwV_RX8_71 ⟨Nat.le_of_ble_eq_true rfl, Nat.le_of_ble_eq_true rfl⟩ (T_X8_maskOf hfl fl _ _ _ hv0 _ h11) rfl rfl rfl (Nat.le_of_ble_eq_true rfl) dX8_gap_37 ?_
    refine E_iload_n (j := 2) (i := 2) (q := 2) rfl rfl dX8_gap_40 ?_
    obtain ⟨q12, h13, hF⟩ := bd_inv hF
    refine E_callV (na := 2) (As := [.long q10, .int v2]) (S := [.int (0 : Int32), .int v2, .ref v0]) (kc := 0) (ks := 0) (ci := 10) rfl rfl hv0 (shape_ord hv0).1 cwV_RX8_112 ⟨Nat.le_of_ble_eq_true rfl, Nat.le_of_ble_eq_true rfl⟩ (T_X8_gaps hfl fl _ _ _ _ hv0 _ h13) rfl rfl rfl (Nat.le_of_ble_eq_true rfl) dX8_gap_41 ?_
    refine E_iconst (v := (1 : Int32)) rfl dX8_gap_44 ?_
    refine E_isub dX8_gap_45 ?_
    obtain ⟨q14, h15, hF⟩ := bd_inv hF
    refine E_callS (na := 3) (As := [.int v2, .int (0 : Int32), .int (q12.1 - (1 : Int32))]) (S := [.ref v0]) (kc := 0) (ks := 0) cwS_RX8_52 ⟨Nat.le_of_ble_eq_true rfl, Nat.le_of_ble_eq_true rfl⟩ (T_X8_in hfl fl _ _ _ _  _ h15) rfl rfl rfl (Nat.le_of_ble_eq_true rfl) dX8_gap_46 ?_
    refine E_if_eq (tgt := 56) rfl dX8_gap_49 (fun c16 => ?_) (fun c16 => ?_)
    · have hF := ite_t hF c16
      refine E_iconst (v := (2 : Int32)) rfl dX8_gap_56 ?_
      refine E_sub [0, 3] rfl ?_
      exact T_X8_gap_57 hfl fl hr  _ _ _ _ _ hv0 hv0 hF
    · have hF := ite_f hF c16
      refine E_iconst (v := (0 : Int32)) rfl dX8_gap_52 ?_
      refine E_goto (tgt := 57) rfl dX8_gap_53 ?_
      refine E_sub [0, 3] rfl ?_
      exact T_X8_gap_57 hfl fl hr  _ _ _ _ _ hv0 hv0 hF
  · have hF := ite_f hF c7
    refine E_iconst (v := (0 : Int32)) rfl dX8_gap_24 ?_
    exact E_iret (Or.inl rfl) rfl (by cases hF; exact hr) dX8_gap_25
set_option maxHeartbeats 4000000 in
set_option maxRecDepth 100000 in
theorem T_X8_gap {l : Launch} (hfl : l.stackTraces = false) (fl : Nat) (v0 : Nat) (v1 : Int32) (v2 : Int32) (v3 : Int32) (s : Mem) (hv0 : shape v0 = some (.inl 10)) (ρ : (Int32 × Mem)) (hF : F_X8_gap fl v0 v1 v2 v3 s = some ρ) : MetN l X_X8_gap false NF s [.ref v0, .int v1, .int v2, .int v3] (.inr (some (.int ρ.1)), NF, ρ.2) := by
  unfold F_X8_gap at hF
  obtain ⟨r, hr⟩ : ∃ r : Rs, r = (.inr (some (.int ρ.1)), NF, ρ.2) := ⟨_, rfl⟩
  rw [← hr]
  refine met_of_E rfl rfl (by decide +kernel) hfl rfl (Nat.le_of_ble_eq_true rfl) ?_
  show E l X_X8_gap r false NF s 0 0 0 [(0, .ref v0), (1, .int v1), (2, .int v2), (3, .int v3)] []
  refine E_aload_n (j := 0) (i := 0) (q := 0) rfl rfl dX8_gap_0 ?_
  refine E_aload_n (j := 0) (i := 0) (q := 0) rfl rfl dX8_gap_1 ?_
  refine E_iload_n (j := 1) (i := 1) (q := 1) rfl rfl dX8_gap_2 ?_
  obtain ⟨q17, h18, hF⟩ := bd_inv hF
  refine E_callV (na := 1) (As := [.int v1]) (S := [.ref v0]) (kc := 0) (ks := 0) (ci := 10) rfl rfl hv0 (shape_ord hv0).1 cwV_RX8_59 ⟨Nat.le_of_ble_eq_true rfl, Nat.le_of_ble_eq_true rfl⟩ (T_X8_isPitch hfl fl _ _ _ hv0 _ h18) rfl rfl rfl (Nat.le_of_ble_eq_true rfl) dX8_gap_3 ?_
  refine E_if_eq (tgt := 13) rfl dX8_gap_6 (fun c19 => ?_) (fun c19 => ?_)
  · have hF := ite_t hF c19
    refine E_iconst (v := (1 : Int32)) rfl dX8_gap_13 ?_
    refine E_sub [0, 1, 2, 3] rfl ?_
    exact T_X8_gap_14 hfl fl hr  _ _ _ _ _ _ _ hv0 hv0 hF
  · have hF := ite_f hF c19
    refine E_iconst (v := (0 : Int32)) rfl dX8_gap_9 ?_
    refine E_goto (tgt := 14) rfl dX8_gap_10 ?_
    refine E_sub [0, 1, 2, 3] rfl ?_
    exact T_X8_gap_14 hfl fl hr  _ _ _ _ _ _ _ hv0 hv0 hF
set_option maxHeartbeats 4000000 in
set_option maxRecDepth 100000 in
theorem T_X8_sum_48 {l : Launch} (hfl : l.stackTraces = false) (fl : Nat) {r : Rs} {ρ : Int32} {s : Mem} (hr : r = (.inr (some (.int ρ)), NF, s)) {k5 : Nat → Int32 → Int32 → Int32 → Int32 → Option Int32} (hk5 : ∀ (v0 : Nat) (v1 : Int32) (v2 : Int32) (v3 : Int32) (v4 : Int32) (hv0 : shape v0 = some (.inl 10)), k5 v0 v1 v2 v3 v4 = some ρ → E l X_X8_sum r false NF s 0 0 5 [(0, .ref v0), (1, .int v1), (2, .int v2), (3, .int v3), (4, .int v4)] []) (v0 : Nat) (v1 : Int32) (v2 : Int32) (v4 : Int32) (w0 : Int32) (w1 : Int32) (hv0 : shape v0 = some (.inl 10)) (hF : B_X8_sum_48 k5 fl s v0 v1 v2 v4 w0 w1 = some ρ) : E l X_X8_sum r false NF s 0 0 48 [(0, .ref v0), (1, .int v1), (2, .int v2), (4, .int v4)] [.int w1, .int w0] := by
  unfold B_X8_sum_48 at hF
  refine E_iadd dX8_sum_48 ?_
  refine E_istore_n (j := 3) (i := 3) (L' := [(3, .int (w0 + w1)), (0, .ref v0), (1, .int v1), (2, .int v2), (4, .int v4)]) rfl (Nat.le_of_ble_eq_true rfl) rfl dX8_sum_49 ?_
  refine E_iinc (q := 4) (v := (v4 + (1 : Int32))) (L' := [(4, .int (v4 + (1 : Int32))), (3, .int (w0 + w1)), (0, .ref v0), (1, .int v1), (2, .int v2)]) rfl rfl (Nat.le_of_ble_eq_true rfl) rfl dX8_sum_50 ?_
  refine E_goto (tgt := 5) rfl dX8_sum_53 ?_
  refine E_sub [2, 3, 4, 1, 0] rfl ?_
  exact hk5 _ _ _ _ _ hv0 hF
set_option maxHeartbeats 4000000 in
set_option maxRecDepth 100000 in
theorem T_X8_sum_5 {l : Launch} (hfl : l.stackTraces = false) (fl : Nat) {r : Rs} {ρ : Int32} {s : Mem} (hr : r = (.inr (some (.int ρ)), NF, s)) : ∀ (n : Nat) (v0 : Nat) (v1 : Int32) (v2 : Int32) (v3 : Int32) (v4 : Int32) (hv0 : shape v0 = some (.inl 10)), B_X8_sum_5 fl s n v0 v1 v2 v3 v4 = some ρ → E l X_X8_sum r false NF s 0 0 5 [(0, .ref v0), (1, .int v1), (2, .int v2), (3, .int v3), (4, .int v4)] [] := by
  intro n
  induction n with
  | zero =>
    intro v0 v1 v2 v3 v4 hv0 hF
    cases hF
  | succ n ih =>
    intro v0 v1 v2 v3 v4 hv0 hF
    refine E_iload (q := 4) rfl dX8_sum_5 ?_
    refine E_aload_n (j := 0) (i := 0) (q := 0) rfl rfl dX8_sum_7 ?_
    obtain ⟨r1, h2, hF⟩ := bd_inv hF
    have h2 := ldA_inv h2
    refine gf_RX8_9 rfl hv0 (shape_ord hv0).1 h2.1 dX8_sum_8 ?_
    refine E_iconst (v := (1 : Int32)) rfl dX8_sum_11 ?_
    obtain ⟨h3, hF⟩ := gd_inv hF
    refine E_iald _ h2.2 (shape_ord h2.2).1 h3 dX8_sum_12 ?_
    refine E_icmp_ge (tgt := 56) rfl dX8_sum_13 (fun c4 => ?_) (fun c4 => ?_)
    · have hF := ite_t hF c4
      refine E_iload_n (j := 3) (i := 3) (q := 3) rfl rfl dX8_sum_56 ?_
      exact E_iret (Or.inl rfl) rfl (by cases hF; exact hr) dX8_sum_57
    · have hF := ite_f hF c4
      refine E_iload_n (j := 3) (i := 3) (q := 3) rfl rfl dX8_sum_16 ?_
      refine E_aload_n (j := 0) (i := 0) (q := 0) rfl rfl dX8_sum_17 ?_
      refine E_iload (q := 4) rfl dX8_sum_18 ?_
      refine E_bipush (v := (8 : Int32)) rfl dX8_sum_20 ?_
      obtain ⟨q5, h6, hF⟩ := bd_inv hF
      refine E_callV (na := 2) (As := [.int v4, .int (8 : Int32)]) (S := [.int v3]) (kc := 0) (ks := 0) (ci := 10) rfl rfl hv0 (shape_ord hv0).1 cwV_RX8_97 ⟨Nat.le_of_ble_eq_true rfl, Nat.le_of_ble_eq_true rfl⟩ (T_X8_of hfl fl _ _ _ _ hv0 _ h6) rfl rfl rfl (Nat.le_of_ble_eq_true rfl) dX8_sum_22 ?_
      refine E_iload_n (j := 2) (i := 2) (q := 2) rfl rfl dX8_sum_25 ?_
      refine E_icmp_eq (tgt := 33) rfl dX8_sum_26 (fun c7 => ?_) (fun c7 => ?_)
      · have hF := ite_t hF c7
        refine E_iload_n (j := 1) (i := 1) (q := 1) rfl rfl dX8_sum_33 ?_
        refine E_if_ge (tgt := 41) rfl dX8_sum_34 (fun c8 => ?_) (fun c8 => ?_)
        · have hF := ite_t hF c8
          refine E_aload_n (j := 0) (i := 0) (q := 0) rfl rfl dX8_sum_41 ?_
          refine E_iload (q := 4) rfl dX8_sum_42 ?_
          refine E_iload_n (j := 1) (i := 1) (q := 1) rfl rfl dX8_sum_44 ?_
          obtain ⟨q9, h10, hF⟩ := bd_inv hF
          refine E_callV (na := 2) (As := [.int v4, .int v1]) (S := [.int v3]) (kc := 0) (ks := 0) (ci := 10) rfl rfl hv0 (shape_ord hv0).1 cwV_RX8_97 ⟨Nat.le_of_ble_eq_true rfl, Nat.le_of_ble_eq_true rfl⟩ (T_X8_of hfl fl _ _ _ _ hv0 _ h10) rfl rfl rfl (Nat.le_of_ble_eq_true rfl) dX8_sum_45 ?_
          refine E_sub [0, 1, 2, 4] rfl ?_
          exact T_X8_sum_48 hfl fl hr ih _ _ _ _ _ _ hv0 hF
        · have hF := ite_f hF c8
          refine E_iconst (v := (1 : Int32)) rfl dX8_sum_37 ?_
          refine E_goto (tgt := 48) rfl dX8_sum_38 ?_
          refine E_sub [0, 1, 2, 4] rfl ?_
          exact T_X8_sum_48 hfl fl hr ih _ _ _ _ _ _ hv0 hF
      · have hF := ite_f hF c7
        refine E_iconst (v := (0 : Int32)) rfl dX8_sum_29 ?_
        refine E_goto (tgt := 48) rfl dX8_sum_30 ?_
        refine E_sub [0, 1, 2, 4] rfl ?_
        exact T_X8_sum_48 hfl fl hr ih _ _ _ _ _ _ hv0 hF
set_option maxHeartbeats 4000000 in
set_option maxRecDepth 100000 in
theorem T_X8_sum {l : Launch} (hfl : l.stackTraces = false) (fl : Nat) (v0 : Nat) (v1 : Int32) (v2 : Int32) (s : Mem) (hv0 : shape v0 = some (.inl 10)) (ρ : Int32) (hF : F_X8_sum fl v0 v1 v2 s = some ρ) : MetN l X_X8_sum false NF s [.ref v0, .int v1, .int v2] (.inr (some (.int ρ)), NF, s) := by
  unfold F_X8_sum at hF
  obtain ⟨r, hr⟩ : ∃ r : Rs, r = (.inr (some (.int ρ)), NF, s) := ⟨_, rfl⟩
  rw [← hr]
  refine met_of_E rfl rfl (by decide +kernel) hfl rfl (Nat.le_of_ble_eq_true rfl) ?_
  show E l X_X8_sum r false NF s 0 0 0 [(0, .ref v0), (1, .int v1), (2, .int v2)] []
  refine E_iconst (v := (0 : Int32)) rfl dX8_sum_0 ?_
  refine E_istore_n (j := 3) (i := 3) (L' := [(3, .int (0 : Int32)), (0, .ref v0), (1, .int v1), (2, .int v2)]) rfl (Nat.le_of_ble_eq_true rfl) rfl dX8_sum_1 ?_
  refine E_iconst (v := (0 : Int32)) rfl dX8_sum_2 ?_
  refine E_istore (L' := [(4, .int (0 : Int32)), (3, .int (0 : Int32)), (0, .ref v0), (1, .int v1), (2, .int v2)]) (Nat.le_of_ble_eq_true rfl) rfl dX8_sum_3 ?_
  refine E_sub [2, 3, 4, 1, 0] rfl ?_
  exact T_X8_sum_5 hfl fl hr  fl _ _ _ _ _ hv0 hF
set_option maxHeartbeats 4000000 in
set_option maxRecDepth 100000 in
theorem T_X8_busyNights_9 {l : Launch} (hfl : l.stackTraces = false) (fl : Nat) {r : Rs} {ρ : (Int32 × Mem)} (hr : r = (.inr (some (.int ρ.1)), NF, ρ.2)) : ∀ (n : Nat) (v0 : Nat) (v1 : Int32) (v2 : Int32) (s : Mem) (hv0 : shape v0 = some (.inl 10)), B_X8_busyNights_9 fl n v0 v1 v2 s = some ρ → E l X_X8_busyNights r false NF s 0 0 9 [(0, .ref v0), (1, .int v1), (2, .int v2)] [] := by
  intro n
  induction n with
  | zero =>
    intro v0 v1 v2 s hv0 hF
    cases hF
  | succ n ih =>
    intro v0 v1 v2 s hv0 hF
    refine E_iload_n (j := 2) (i := 2) (q := 2) rfl rfl dX8_busyNights_9 ?_
    refine E_aload_n (j := 0) (i := 0) (q := 0) rfl rfl dX8_busyNights_10 ?_
    obtain ⟨r1, h2, hF⟩ := bd_inv hF
    have h2 := ldA_inv h2
    refine gf_RX8_9 rfl hv0 (shape_ord hv0).1 h2.1 dX8_busyNights_11 ?_
    refine E_iconst (v := (0 : Int32)) rfl dX8_busyNights_14 ?_
    obtain ⟨h3, hF⟩ := gd_inv hF
    refine E_iald _ h2.2 (shape_ord h2.2).1 h3 dX8_busyNights_15 ?_
    refine E_icmp_ge (tgt := 36) rfl dX8_busyNights_16 (fun c4 => ?_) (fun c4 => ?_)
    · have hF := ite_t hF c4
      refine E_iload_n (j := 1) (i := 1) (q := 1) rfl rfl dX8_busyNights_36 ?_
      exact E_iret (Or.inl rfl) rfl (by cases hF; exact hr) dX8_busyNights_37
    · have hF := ite_f hF c4
      refine E_iload_n (j := 1) (i := 1) (q := 1) rfl rfl dX8_busyNights_19 ?_
      refine E_aload_n (j := 0) (i := 0) (q := 0) rfl rfl dX8_busyNights_20 ?_
      refine E_iload_n (j := 2) (i := 2) (q := 2) rfl rfl dX8_busyNights_21 ?_
      obtain ⟨q5, h6, hF⟩ := bd_inv hF
      refine E_callV (na := 1) (As := [.int v2]) (S := [.int v1]) (kc := 0) (ks := 0) (ci := 10) rfl rfl hv0 (shape_ord hv0).1 cwV_RX8_71 ⟨Nat.le_of_ble_eq_true rfl, Nat.le_of_ble_eq_true rfl⟩ (T_X8_maskOf hfl fl _ _ _ hv0 _ h6) rfl rfl rfl (Nat.le_of_ble_eq_true rfl) dX8_busyNights_22 ?_
      obtain ⟨q7, h8, hF⟩ := bd_inv hF
      refine E_callS (na := 1) (As := [.long q5]) (S := [.int v1]) (kc := 0) (ks := 0) cwS_RX8_75 ⟨Nat.le_of_ble_eq_true rfl, Nat.le_of_ble_eq_true rfl⟩ (T_X8_bits hfl fl _ _  _ h8) rfl rfl rfl (Nat.le_of_ble_eq_true rfl) dX8_busyNights_25 ?_
      refine E_iadd dX8_busyNights_28 ?_
      refine E_istore_n (j := 1) (i := 1) (L' := [(1, .int (v1 + q7)), (0, .ref v0), (2, .int v2)]) rfl (Nat.le_of_ble_eq_true rfl) rfl dX8_busyNights_29 ?_
      refine E_iinc (q := 2) (v := (v2 + (1 : Int32))) (L' := [(2, .int (v2 + (1 : Int32))), (1, .int (v1 + q7)), (0, .ref v0)]) rfl rfl (Nat.le_of_ble_eq_true rfl) rfl dX8_busyNights_30 ?_
      refine E_goto (tgt := 9) rfl dX8_busyNights_33 ?_
      refine E_sub [2, 1, 0] rfl ?_
      exact ih _ _ _ _ hv0 hF
set_option maxHeartbeats 4000000 in
set_option maxRecDepth 100000 in
theorem T_X8_busyNights {l : Launch} (hfl : l.stackTraces = false) (fl : Nat) (v0 : Nat) (s : Mem) (hv0 : shape v0 = some (.inl 10)) (ρ : (Int32 × Mem)) (hF : F_X8_busyNights fl v0 s = some ρ) : MetN l X_X8_busyNights false NF s [.ref v0] (.inr (some (.int ρ.1)), NF, ρ.2) := by
  unfold F_X8_busyNights at hF
  obtain ⟨r, hr⟩ : ∃ r : Rs, r = (.inr (some (.int ρ.1)), NF, ρ.2) := ⟨_, rfl⟩
  rw [← hr]
  refine met_of_E rfl rfl (by decide +kernel) hfl rfl (Nat.le_of_ble_eq_true rfl) ?_
  show E l X_X8_busyNights r false NF s 0 0 0 [(0, .ref v0)] []
  refine E_aload_n (j := 0) (i := 0) (q := 0) rfl rfl dX8_busyNights_0 ?_
  refine E_iconst (v := (-1 : Int32)) rfl dX8_busyNights_1 ?_
  obtain ⟨q9, h10, hF⟩ := bd_inv hF
  refine E_callV (na := 1) (As := [.int (-1 : Int32)]) (S := []) (kc := 0) (ks := 0) (ci := 10) rfl rfl hv0 (shape_ord hv0).1 cwV_RX8_67 ⟨Nat.le_of_ble_eq_true rfl, Nat.le_of_ble_eq_true rfl⟩ (T_X8_loads hfl fl _ _ _ hv0 _ h10) rfl rfl rfl (Nat.le_of_ble_eq_true rfl) dX8_busyNights_2 ?_
  refine E_iconst (v := (0 : Int32)) rfl dX8_busyNights_5 ?_
  refine E_istore_n (j := 1) (i := 1) (L' := [(1, .int (0 : Int32)), (0, .ref v0)]) rfl (Nat.le_of_ble_eq_true rfl) rfl dX8_busyNights_6 ?_
  refine E_iconst (v := (0 : Int32)) rfl dX8_busyNights_7 ?_
  refine E_istore_n (j := 2) (i := 2) (L' := [(2, .int (0 : Int32)), (1, .int (0 : Int32)), (0, .ref v0)]) rfl (Nat.le_of_ble_eq_true rfl) rfl dX8_busyNights_8 ?_
  refine E_sub [2, 1, 0] rfl ?_
  exact T_X8_busyNights_9 hfl fl hr  fl _ _ _ _ hv0 hF
