set_option maxHeartbeats 8000000 in
set_option maxRecDepth 100000 in
theorem T_L_law_192 {l : Launch} (hfl : l.stackTraces = false) (fl : Nat) {Ln : Nat} {xs : Nat → Int32} {r : Rs} {kcv ksv : Nat} {k28 : Int32 → Mem → Option Int32} (hk28 : ∀ (v5 : Int32) (s : Mem), k28 v5 s = some 1 → E l (X_law Ln xs) r false NF s kcv ksv 28 [(0, .ref 400), (1, .ref 320), (2, .ref 340), (3, .ref 350), (4, .ref 351), (5, .int v5)] []) (v5 : Int32) (s : Mem) (hF : B_L_law_192 k28 fl xs Ln v5 s = some 1) : E l (X_law Ln xs) r false NF s (kcv + 8) (ksv + 48) 192 [(0, .ref 400), (1, .ref 320), (2, .ref 340), (3, .ref 350), (4, .ref 351), (5, .int v5)] [] := by
  unfold B_L_law_192 at hF
  refine E_aload_n (j := 1) (i := 1) (q := 1) rfl rfl dL_law_192 ?_
  refine E_aload_n (j := 0) (i := 0) (q := 0) rfl rfl dL_law_193 ?_
  refine E_iload (q := 5) rfl dL_law_194 ?_
  refine E_iconst (v := (1 : Int32)) rfl dL_law_196 ?_
  refine E_iadd dL_law_197 ?_
  obtain ⟨h1, hF⟩ := gd_inv hF
  refine E_sld rfl h1 dL_law_198 ?_
  refine E_aload_n (j := 0) (i := 0) (q := 0) rfl rfl dL_law_199 ?_
  refine E_iload (q := 5) rfl dL_law_200 ?_
  refine E_iconst (v := (2 : Int32)) rfl dL_law_202 ?_
  refine E_iadd dL_law_203 ?_
  obtain ⟨h2, hF⟩ := gd_inv hF
  refine E_sld rfl h2 dL_law_204 ?_
  refine E_aload_n (j := 0) (i := 0) (q := 0) rfl rfl dL_law_205 ?_
  refine E_iload (q := 5) rfl dL_law_206 ?_
  refine E_iconst (v := (3 : Int32)) rfl dL_law_208 ?_
  refine E_iadd dL_law_209 ?_
  obtain ⟨h3, hF⟩ := gd_inv hF
  refine E_sld rfl h3 dL_law_210 ?_
  refine E_aload_n (j := 0) (i := 0) (q := 0) rfl rfl dL_law_211 ?_
  refine E_iload (q := 5) rfl dL_law_212 ?_
  refine E_iconst (v := (4 : Int32)) rfl dL_law_214 ?_
  refine E_iadd dL_law_215 ?_
  obtain ⟨h4, hF⟩ := gd_inv hF
  refine E_sld rfl h4 dL_law_216 ?_
  refine E_aload_n (j := 3) (i := 3) (q := 3) rfl rfl dL_law_217 ?_
  obtain ⟨q5, h6, hF⟩ := bd_inv hF
  refine E_weak (kc' := (kcv + 7) + 1) (ks' := (ksv + 42) + 6) (by omega) (by omega) ?_
  refine E_callSH (na := 6) (As := [.ref 320, .int (xs (v5 + (1 : Int32)).toNatClampNeg), .int (xs (v5 + (2 : Int32)).toNatClampNeg), .int (xs (v5 + (3 : Int32)).toNatClampNeg), .int (xs (v5 + (4 : Int32)).toNatClampNeg), .ref 350]) (S := []) (kc := (kcv + 7)) (ks := (ksv + 42)) cwSH_RL_121 ⟨Nat.le_of_ble_eq_true rfl, Nat.le_of_ble_eq_true rfl⟩ (T_L_addPitch hfl fl _ _ _ _ _ _ _ sh320 _ h6) rfl rfl rfl (Nat.le_of_ble_eq_true rfl) dL_law_218 ?_
  refine E_istore (L' := [(6, .int q5.1), (0, .ref 400), (1, .ref 320), (2, .ref 340), (3, .ref 350), (4, .ref 351), (5, .int v5)]) (Nat.le_of_ble_eq_true rfl) rfl dL_law_221 ?_
  refine E_aload_n (j := 2) (i := 2) (q := 3) rfl rfl dL_law_223 ?_
  refine E_aload_n (j := 0) (i := 0) (q := 1) rfl rfl dL_law_224 ?_
  refine E_iload (q := 6) rfl dL_law_225 ?_
  refine E_iconst (v := (1 : Int32)) rfl dL_law_227 ?_
  refine E_iadd dL_law_228 ?_
  obtain ⟨h7, hF⟩ := gd_inv hF
  refine E_sld rfl h7 dL_law_229 ?_
  refine E_aload_n (j := 0) (i := 0) (q := 1) rfl rfl dL_law_230 ?_
  refine E_iload (q := 6) rfl dL_law_231 ?_
  refine E_iconst (v := (2 : Int32)) rfl dL_law_233 ?_
  refine E_iadd dL_law_234 ?_
  obtain ⟨h8, hF⟩ := gd_inv hF
  refine E_sld rfl h8 dL_law_235 ?_
  refine E_aload_n (j := 0) (i := 0) (q := 1) rfl rfl dL_law_236 ?_
  refine E_iload (q := 6) rfl dL_law_237 ?_
  refine E_iconst (v := (3 : Int32)) rfl dL_law_239 ?_
  refine E_iadd dL_law_240 ?_
  obtain ⟨h9, hF⟩ := gd_inv hF
  refine E_sld rfl h9 dL_law_241 ?_
  refine E_aload_n (j := 0) (i := 0) (q := 1) rfl rfl dL_law_242 ?_
  refine E_iload (q := 6) rfl dL_law_243 ?_
  refine E_iconst (v := (4 : Int32)) rfl dL_law_245 ?_
  refine E_iadd dL_law_246 ?_
  obtain ⟨h10, hF⟩ := gd_inv hF
  refine E_sld rfl h10 dL_law_247 ?_
  obtain ⟨q11, h12, hF⟩ := bd_inv hF
  refine E_callV (na := 4) (As := [.int (xs (v5 + (1 : Int32)).toNatClampNeg), .int (xs (v5 + (2 : Int32)).toNatClampNeg), .int (xs (v5 + (3 : Int32)).toNatClampNeg), .int (xs (v5 + (4 : Int32)).toNatClampNeg)]) (S := []) (kc := (kcv + 7)) (ks := (ksv + 42)) (ci := 10) rfl rfl sh340 (by decide) cwV_RL_126 ⟨Nat.le_of_ble_eq_true rfl, Nat.le_of_ble_eq_true rfl⟩ (T_X8_addPitch hfl fl _ _ _ _ _ _ sh340 _ h12) rfl rfl rfl (Nat.le_of_ble_eq_true rfl) dL_law_248 ?_
  refine E_istore (L' := [(7, .int q11.1), (6, .int q5.1), (0, .ref 400), (1, .ref 320), (2, .ref 340), (3, .ref 350), (4, .ref 351), (5, .int v5)]) (Nat.le_of_ble_eq_true rfl) rfl dL_law_251 ?_
  refine E_aload_n (j := 2) (i := 2) (q := 4) rfl rfl dL_law_253 ?_
  obtain ⟨q13, h14, hF⟩ := bd_inv hF
  refine E_callV (na := 0) (As := []) (S := []) (kc := (kcv + 7)) (ks := (ksv + 42)) (ci := 10) rfl rfl sh340 (by decide) cwV_RL_127 ⟨Nat.le_of_ble_eq_true rfl, Nat.le_of_ble_eq_true rfl⟩ (T_X8_thrown hfl fl _ _ sh340 _ h14) rfl rfl rfl (Nat.le_of_ble_eq_true rfl) dL_law_254 ?_
  refine E_iload (q := 1) rfl dL_law_257 ?_
  refine E_icmp_eq (tgt := 264) rfl dL_law_259 (fun c15 => ?_) (fun c15 => ?_)
  · have hF := ite_t hF c15
    refine E_iload (q := 1) rfl dL_law_264 ?_
    refine E_if_ne (tgt := 281) rfl dL_law_266 (fun c16 => ?_) (fun c16 => ?_)
    · have hF := ite_f hF c16
      refine E_goto (tgt := 2119) rfl dL_law_281 ?_
      refine E_iinc (q := 7) (v := (v5 + (7 : Int32))) (L' := [(5, .int (v5 + (7 : Int32))), (7, .int q11.1), (6, .int q5.1), (0, .ref 400), (1, .ref 320), (2, .ref 340), (3, .ref 350), (4, .ref 351)]) rfl rfl (Nat.le_of_ble_eq_true rfl) rfl dL_law_2119 ?_
      refine E_goto (tgt := 28) rfl dL_law_2122 ?_
      refine E_weak (kc' := kcv) (ks' := ksv) (by omega) (by omega) ?_
      refine E_sub [3, 4, 5, 6, 7, 0] rfl ?_
      exact hk28 _ _ hF
    · have hF := ite_t hF c16
      refine E_aload_n (j := 3) (i := 3) (q := 5) rfl rfl dL_law_269 ?_
      refine E_iconst (v := (0 : Int32)) rfl dL_law_270 ?_
      refine E_lald _ sh350 (by decide) (by decide : inR (0 : Int32) 1) dL_law_271 ?_
      refine E_iload (q := 0) rfl dL_law_272 ?_
      refine E_i2l dL_law_274 ?_
      refine E_lcmp dL_law_275 ?_
      refine E_if_eq (tgt := 281) rfl dL_law_276 (fun c17 => ?_) (fun c17 => ?_)
      · have hF := ite_t hF c17
        refine E_goto (tgt := 2119) rfl dL_law_281 ?_
        refine E_iinc (q := 7) (v := (v5 + (7 : Int32))) (L' := [(5, .int (v5 + (7 : Int32))), (7, .int q11.1), (6, .int q5.1), (0, .ref 400), (1, .ref 320), (2, .ref 340), (3, .ref 350), (4, .ref 351)]) rfl rfl (Nat.le_of_ble_eq_true rfl) rfl dL_law_2119 ?_
        refine E_goto (tgt := 28) rfl dL_law_2122 ?_
        refine E_weak (kc' := kcv) (ks' := ksv) (by omega) (by omega) ?_
        refine E_sub [3, 4, 5, 6, 7, 0] rfl ?_
        exact hk28 _ _ hF
      · have hF := ite_f hF c17
        refine E_iconst (v := (0 : Int32)) rfl dL_law_279 ?_
        exact absurd (Option.some.inj hF) (by decide)
  · have hF := ite_f hF c15
    refine E_iconst (v := (0 : Int32)) rfl dL_law_262 ?_
    exact absurd (Option.some.inj hF) (by decide)
set_option maxHeartbeats 8000000 in
set_option maxRecDepth 100000 in
theorem T_L_law_284 {l : Launch} (hfl : l.stackTraces = false) (fl : Nat) {Ln : Nat} {xs : Nat → Int32} {r : Rs} {kcv ksv : Nat} {k28 : Int32 → Mem → Option Int32} (hk28 : ∀ (v5 : Int32) (s : Mem), k28 v5 s = some 1 → E l (X_law Ln xs) r false NF s kcv ksv 28 [(0, .ref 400), (1, .ref 320), (2, .ref 340), (3, .ref 350), (4, .ref 351), (5, .int v5)] []) (v5 : Int32) (s : Mem) (hF : B_L_law_284 k28 fl xs Ln v5 s = some 1) : E l (X_law Ln xs) r false NF s (kcv + 8) (ksv + 48) 284 [(0, .ref 400), (1, .ref 320), (2, .ref 340), (3, .ref 350), (4, .ref 351), (5, .int v5)] [] := by
  unfold B_L_law_284 at hF
  refine E_aload_n (j := 1) (i := 1) (q := 1) rfl rfl dL_law_284 ?_
  refine E_aload_n (j := 0) (i := 0) (q := 0) rfl rfl dL_law_285 ?_
  refine E_iload (q := 5) rfl dL_law_286 ?_
  refine E_iconst (v := (1 : Int32)) rfl dL_law_288 ?_
  refine E_iadd dL_law_289 ?_
  obtain ⟨h18, hF⟩ := gd_inv hF
  refine E_sld rfl h18 dL_law_290 ?_
  refine E_aload_n (j := 0) (i := 0) (q := 0) rfl rfl dL_law_291 ?_
  refine E_iload (q := 5) rfl dL_law_292 ?_
  refine E_iconst (v := (2 : Int32)) rfl dL_law_294 ?_
  refine E_iadd dL_law_295 ?_
  obtain ⟨h19, hF⟩ := gd_inv hF
  refine E_sld rfl h19 dL_law_296 ?_
  refine E_aload_n (j := 3) (i := 3) (q := 3) rfl rfl dL_law_297 ?_
  obtain ⟨q20, h21, hF⟩ := bd_inv hF
  refine E_weak (kc' := (kcv + 6) + 2) (ks' := (ksv + 36) + 12) (by omega) (by omega) ?_
  refine E_callSH (na := 4) (As := [.ref 320, .int (xs (v5 + (1 : Int32)).toNatClampNeg), .int (xs (v5 + (2 : Int32)).toNatClampNeg), .ref 350]) (S := []) (kc := (kcv + 6)) (ks := (ksv + 36)) cwSH_RL_130 ⟨Nat.le_of_ble_eq_true rfl, Nat.le_of_ble_eq_true rfl⟩ (T_L_pitch hfl fl _ _ _ _ _ sh320 _ h21) rfl rfl rfl (Nat.le_of_ble_eq_true rfl) dL_law_298 ?_
  refine E_istore (L' := [(6, .int q20.1), (0, .ref 400), (1, .ref 320), (2, .ref 340), (3, .ref 350), (4, .ref 351), (5, .int v5)]) (Nat.le_of_ble_eq_true rfl) rfl dL_law_301 ?_
  refine E_aload_n (j := 2) (i := 2) (q := 3) rfl rfl dL_law_303 ?_
  refine E_aload_n (j := 0) (i := 0) (q := 1) rfl rfl dL_law_304 ?_
  refine E_iload (q := 6) rfl dL_law_305 ?_
  refine E_iconst (v := (1 : Int32)) rfl dL_law_307 ?_
  refine E_iadd dL_law_308 ?_
  obtain ⟨h22, hF⟩ := gd_inv hF
  refine E_sld rfl h22 dL_law_309 ?_
  refine E_aload_n (j := 0) (i := 0) (q := 1) rfl rfl dL_law_310 ?_
  refine E_iload (q := 6) rfl dL_law_311 ?_
  refine E_iconst (v := (2 : Int32)) rfl dL_law_313 ?_
  refine E_iadd dL_law_314 ?_
  obtain ⟨h23, hF⟩ := gd_inv hF
  refine E_sld rfl h23 dL_law_315 ?_
  obtain ⟨q24, h25, hF⟩ := bd_inv hF
  refine E_callV (na := 2) (As := [.int (xs (v5 + (1 : Int32)).toNatClampNeg), .int (xs (v5 + (2 : Int32)).toNatClampNeg)]) (S := []) (kc := (kcv + 6)) (ks := (ksv + 36)) (ci := 10) rfl rfl sh340 (by decide) cwV_RL_133 ⟨Nat.le_of_ble_eq_true rfl, Nat.le_of_ble_eq_true rfl⟩ (T_X8_pitch hfl fl _ _ _ _ sh340 _ h25) rfl rfl rfl (Nat.le_of_ble_eq_true rfl) dL_law_316 ?_
  refine E_istore (L' := [(7, .int q24.1), (6, .int q20.1), (0, .ref 400), (1, .ref 320), (2, .ref 340), (3, .ref 350), (4, .ref 351), (5, .int v5)]) (Nat.le_of_ble_eq_true rfl) rfl dL_law_319 ?_
  refine E_aload_n (j := 2) (i := 2) (q := 4) rfl rfl dL_law_321 ?_
  obtain ⟨q26, h27, hF⟩ := bd_inv hF
  refine E_callV (na := 0) (As := []) (S := []) (kc := (kcv + 6)) (ks := (ksv + 36)) (ci := 10) rfl rfl sh340 (by decide) cwV_RL_127 ⟨Nat.le_of_ble_eq_true rfl, Nat.le_of_ble_eq_true rfl⟩ (T_X8_thrown hfl fl _ _ sh340 _ h27) rfl rfl rfl (Nat.le_of_ble_eq_true rfl) dL_law_322 ?_
  refine E_iload (q := 1) rfl dL_law_325 ?_
  refine E_icmp_eq (tgt := 332) rfl dL_law_327 (fun c28 => ?_) (fun c28 => ?_)
  · have hF := ite_t hF c28
    refine E_iload (q := 1) rfl dL_law_332 ?_
    refine E_if_ne (tgt := 349) rfl dL_law_334 (fun c29 => ?_) (fun c29 => ?_)
    · have hF := ite_f hF c29
      refine E_goto (tgt := 2119) rfl dL_law_349 ?_
      refine E_iinc (q := 7) (v := (v5 + (7 : Int32))) (L' := [(5, .int (v5 + (7 : Int32))), (7, .int q24.1), (6, .int q20.1), (0, .ref 400), (1, .ref 320), (2, .ref 340), (3, .ref 350), (4, .ref 351)]) rfl rfl (Nat.le_of_ble_eq_true rfl) rfl dL_law_2119 ?_
      refine E_goto (tgt := 28) rfl dL_law_2122 ?_
      refine E_weak (kc' := kcv) (ks' := ksv) (by omega) (by omega) ?_
      refine E_sub [3, 4, 5, 6, 7, 0] rfl ?_
      exact hk28 _ _ hF
    · have hF := ite_t hF c29
      refine E_aload_n (j := 3) (i := 3) (q := 5) rfl rfl dL_law_337 ?_
      refine E_iconst (v := (0 : Int32)) rfl dL_law_338 ?_
      refine E_lald _ sh350 (by decide) (by decide : inR (0 : Int32) 1) dL_law_339 ?_
      refine E_iload (q := 0) rfl dL_law_340 ?_
      refine E_i2l dL_law_342 ?_
      refine E_lcmp dL_law_343 ?_
      refine E_if_eq (tgt := 349) rfl dL_law_344 (fun c30 => ?_) (fun c30 => ?_)
      · have hF := ite_t hF c30
        refine E_goto (tgt := 2119) rfl dL_law_349 ?_
        refine E_iinc (q := 7) (v := (v5 + (7 : Int32))) (L' := [(5, .int (v5 + (7 : Int32))), (7, .int q24.1), (6, .int q20.1), (0, .ref 400), (1, .ref 320), (2, .ref 340), (3, .ref 350), (4, .ref 351)]) rfl rfl (Nat.le_of_ble_eq_true rfl) rfl dL_law_2119 ?_
        refine E_goto (tgt := 28) rfl dL_law_2122 ?_
        refine E_weak (kc' := kcv) (ks' := ksv) (by omega) (by omega) ?_
        refine E_sub [3, 4, 5, 6, 7, 0] rfl ?_
        exact hk28 _ _ hF
      · have hF := ite_f hF c30
        refine E_iconst (v := (0 : Int32)) rfl dL_law_347 ?_
        exact absurd (Option.some.inj hF) (by decide)
  · have hF := ite_f hF c28
    refine E_iconst (v := (0 : Int32)) rfl dL_law_330 ?_
    exact absurd (Option.some.inj hF) (by decide)
set_option maxHeartbeats 8000000 in
set_option maxRecDepth 100000 in
theorem T_L_law_352 {l : Launch} (hfl : l.stackTraces = false) (fl : Nat) {Ln : Nat} {xs : Nat → Int32} {r : Rs} {kcv ksv : Nat} {k28 : Int32 → Mem → Option Int32} (hk28 : ∀ (v5 : Int32) (s : Mem), k28 v5 s = some 1 → E l (X_law Ln xs) r false NF s kcv ksv 28 [(0, .ref 400), (1, .ref 320), (2, .ref 340), (3, .ref 350), (4, .ref 351), (5, .int v5)] []) (v5 : Int32) (s : Mem) (hF : B_L_law_352 k28 fl xs Ln v5 s = some 1) : E l (X_law Ln xs) r false NF s (kcv + 8) (ksv + 48) 352 [(0, .ref 400), (1, .ref 320), (2, .ref 340), (3, .ref 350), (4, .ref 351), (5, .int v5)] [] := by
  unfold B_L_law_352 at hF
  refine E_aload_n (j := 1) (i := 1) (q := 1) rfl rfl dL_law_352 ?_
  refine E_aload_n (j := 0) (i := 0) (q := 0) rfl rfl dL_law_353 ?_
  refine E_iload (q := 5) rfl dL_law_354 ?_
  refine E_iconst (v := (1 : Int32)) rfl dL_law_356 ?_
  refine E_iadd dL_law_357 ?_
  obtain ⟨h31, hF⟩ := gd_inv hF
  refine E_sld rfl h31 dL_law_358 ?_
  refine E_aload_n (j := 0) (i := 0) (q := 0) rfl rfl dL_law_359 ?_
  refine E_iload (q := 5) rfl dL_law_360 ?_
  refine E_iconst (v := (2 : Int32)) rfl dL_law_362 ?_
  refine E_iadd dL_law_363 ?_
  obtain ⟨h32, hF⟩ := gd_inv hF
  refine E_sld rfl h32 dL_law_364 ?_
  refine E_aload_n (j := 3) (i := 3) (q := 3) rfl rfl dL_law_365 ?_
  obtain ⟨q33, h34, hF⟩ := bd_inv hF
  refine E_weak (kc' := (kcv + 6) + 2) (ks' := (ksv + 36) + 12) (by omega) (by omega) ?_
  refine E_callSH (na := 4) (As := [.ref 320, .int (xs (v5 + (1 : Int32)).toNatClampNeg), .int (xs (v5 + (2 : Int32)).toNatClampNeg), .ref 350]) (S := []) (kc := (kcv + 6)) (ks := (ksv + 36)) cwSH_RL_134 ⟨Nat.le_of_ble_eq_true rfl, Nat.le_of_ble_eq_true rfl⟩ (T_L_setLimit hfl fl _ _ _ _ _ sh320 _ h34) rfl rfl rfl (Nat.le_of_ble_eq_true rfl) dL_law_366 ?_
  refine E_istore (L' := [(6, .int q33.1), (0, .ref 400), (1, .ref 320), (2, .ref 340), (3, .ref 350), (4, .ref 351), (5, .int v5)]) (Nat.le_of_ble_eq_true rfl) rfl dL_law_369 ?_
  refine E_aload_n (j := 2) (i := 2) (q := 3) rfl rfl dL_law_371 ?_
  refine E_aload_n (j := 0) (i := 0) (q := 1) rfl rfl dL_law_372 ?_
  refine E_iload (q := 6) rfl dL_law_373 ?_
  refine E_iconst (v := (1 : Int32)) rfl dL_law_375 ?_
  refine E_iadd dL_law_376 ?_
  obtain ⟨h35, hF⟩ := gd_inv hF
  refine E_sld rfl h35 dL_law_377 ?_
  refine E_aload_n (j := 0) (i := 0) (q := 1) rfl rfl dL_law_378 ?_
  refine E_iload (q := 6) rfl dL_law_379 ?_
  refine E_iconst (v := (2 : Int32)) rfl dL_law_381 ?_
  refine E_iadd dL_law_382 ?_
  obtain ⟨h36, hF⟩ := gd_inv hF
  refine E_sld rfl h36 dL_law_383 ?_
  obtain ⟨q37, h38, hF⟩ := bd_inv hF
  refine E_callV (na := 2) (As := [.int (xs (v5 + (1 : Int32)).toNatClampNeg), .int (xs (v5 + (2 : Int32)).toNatClampNeg)]) (S := []) (kc := (kcv + 6)) (ks := (ksv + 36)) (ci := 10) rfl rfl sh340 (by decide) cwV_RL_136 ⟨Nat.le_of_ble_eq_true rfl, Nat.le_of_ble_eq_true rfl⟩ (T_X8_setLimit hfl fl _ _ _ _ sh340 _ h38) rfl rfl rfl (Nat.le_of_ble_eq_true rfl) dL_law_384 ?_
  refine E_istore (L' := [(7, .int q37.1), (6, .int q33.1), (0, .ref 400), (1, .ref 320), (2, .ref 340), (3, .ref 350), (4, .ref 351), (5, .int v5)]) (Nat.le_of_ble_eq_true rfl) rfl dL_law_387 ?_
  refine E_aload_n (j := 2) (i := 2) (q := 4) rfl rfl dL_law_389 ?_
  obtain ⟨q39, h40, hF⟩ := bd_inv hF
  refine E_callV (na := 0) (As := []) (S := []) (kc := (kcv + 6)) (ks := (ksv + 36)) (ci := 10) rfl rfl sh340 (by decide) cwV_RL_127 ⟨Nat.le_of_ble_eq_true rfl, Nat.le_of_ble_eq_true rfl⟩ (T_X8_thrown hfl fl _ _ sh340 _ h40) rfl rfl rfl (Nat.le_of_ble_eq_true rfl) dL_law_390 ?_
  refine E_iload (q := 1) rfl dL_law_393 ?_
  refine E_icmp_eq (tgt := 400) rfl dL_law_395 (fun c41 => ?_) (fun c41 => ?_)
  · have hF := ite_t hF c41
    refine E_iload (q := 1) rfl dL_law_400 ?_
    refine E_if_ne (tgt := 417) rfl dL_law_402 (fun c42 => ?_) (fun c42 => ?_)
    · have hF := ite_f hF c42
      refine E_goto (tgt := 2119) rfl dL_law_417 ?_
      refine E_iinc (q := 7) (v := (v5 + (7 : Int32))) (L' := [(5, .int (v5 + (7 : Int32))), (7, .int q37.1), (6, .int q33.1), (0, .ref 400), (1, .ref 320), (2, .ref 340), (3, .ref 350), (4, .ref 351)]) rfl rfl (Nat.le_of_ble_eq_true rfl) rfl dL_law_2119 ?_
      refine E_goto (tgt := 28) rfl dL_law_2122 ?_
      refine E_weak (kc' := kcv) (ks' := ksv) (by omega) (by omega) ?_
      refine E_sub [3, 4, 5, 6, 7, 0] rfl ?_
      exact hk28 _ _ hF
    · have hF := ite_t hF c42
      refine E_aload_n (j := 3) (i := 3) (q := 5) rfl rfl dL_law_405 ?_
      refine E_iconst (v := (0 : Int32)) rfl dL_law_406 ?_
      refine E_lald _ sh350 (by decide) (by decide : inR (0 : Int32) 1) dL_law_407 ?_
      refine E_iload (q := 0) rfl dL_law_408 ?_
      refine E_i2l dL_law_410 ?_
      refine E_lcmp dL_law_411 ?_
      refine E_if_eq (tgt := 417) rfl dL_law_412 (fun c43 => ?_) (fun c43 => ?_)
      · have hF := ite_t hF c43
        refine E_goto (tgt := 2119) rfl dL_law_417 ?_
        refine E_iinc (q := 7) (v := (v5 + (7 : Int32))) (L' := [(5, .int (v5 + (7 : Int32))), (7, .int q37.1), (6, .int q33.1), (0, .ref 400), (1, .ref 320), (2, .ref 340), (3, .ref 350), (4, .ref 351)]) rfl rfl (Nat.le_of_ble_eq_true rfl) rfl dL_law_2119 ?_
        refine E_goto (tgt := 28) rfl dL_law_2122 ?_
        refine E_weak (kc' := kcv) (ks' := ksv) (by omega) (by omega) ?_
        refine E_sub [3, 4, 5, 6, 7, 0] rfl ?_
        exact hk28 _ _ hF
      · have hF := ite_f hF c43
        refine E_iconst (v := (0 : Int32)) rfl dL_law_415 ?_
        exact absurd (Option.some.inj hF) (by decide)
  · have hF := ite_f hF c41
    refine E_iconst (v := (0 : Int32)) rfl dL_law_398 ?_
    exact absurd (Option.some.inj hF) (by decide)
set_option maxHeartbeats 8000000 in
set_option maxRecDepth 100000 in
theorem T_L_law_420 {l : Launch} (hfl : l.stackTraces = false) (fl : Nat) {Ln : Nat} {xs : Nat → Int32} {r : Rs} {kcv ksv : Nat} {k28 : Int32 → Mem → Option Int32} (hk28 : ∀ (v5 : Int32) (s : Mem), k28 v5 s = some 1 → E l (X_law Ln xs) r false NF s kcv ksv 28 [(0, .ref 400), (1, .ref 320), (2, .ref 340), (3, .ref 350), (4, .ref 351), (5, .int v5)] []) (v5 : Int32) (s : Mem) (hF : B_L_law_420 k28 fl xs Ln v5 s = some 1) : E l (X_law Ln xs) r false NF s (kcv + 8) (ksv + 48) 420 [(0, .ref 400), (1, .ref 320), (2, .ref 340), (3, .ref 350), (4, .ref 351), (5, .int v5)] [] := by
  unfold B_L_law_420 at hF
  refine E_aload_n (j := 1) (i := 1) (q := 1) rfl rfl dL_law_420 ?_
  refine E_aload_n (j := 0) (i := 0) (q := 0) rfl rfl dL_law_421 ?_
  refine E_iload (q := 5) rfl dL_law_422 ?_
  refine E_iconst (v := (1 : Int32)) rfl dL_law_424 ?_
  refine E_iadd dL_law_425 ?_
  obtain ⟨h44, hF⟩ := gd_inv hF
  refine E_sld rfl h44 dL_law_426 ?_
  refine E_aload_n (j := 0) (i := 0) (q := 0) rfl rfl dL_law_427 ?_
  refine E_iload (q := 5) rfl dL_law_428 ?_
  refine E_iconst (v := (2 : Int32)) rfl dL_law_430 ?_
  refine E_iadd dL_law_431 ?_
  obtain ⟨h45, hF⟩ := gd_inv hF
  refine E_sld rfl h45 dL_law_432 ?_
  refine E_aload_n (j := 3) (i := 3) (q := 3) rfl rfl dL_law_433 ?_
  obtain ⟨q46, h47, hF⟩ := bd_inv hF
  refine E_weak (kc' := (kcv + 6) + 2) (ks' := (ksv + 36) + 12) (by omega) (by omega) ?_
  refine E_callSH (na := 4) (As := [.ref 320, .int (xs (v5 + (1 : Int32)).toNatClampNeg), .int (xs (v5 + (2 : Int32)).toNatClampNeg), .ref 350]) (S := []) (kc := (kcv + 6)) (ks := (ksv + 36)) cwSH_RL_137 ⟨Nat.le_of_ble_eq_true rfl, Nat.le_of_ble_eq_true rfl⟩ (T_L_setRate hfl fl _ _ _ _ _ sh320 _ h47) rfl rfl rfl (Nat.le_of_ble_eq_true rfl) dL_law_434 ?_
  refine E_istore (L' := [(6, .int q46.1), (0, .ref 400), (1, .ref 320), (2, .ref 340), (3, .ref 350), (4, .ref 351), (5, .int v5)]) (Nat.le_of_ble_eq_true rfl) rfl dL_law_437 ?_
  refine E_aload_n (j := 2) (i := 2) (q := 3) rfl rfl dL_law_439 ?_
  refine E_aload_n (j := 0) (i := 0) (q := 1) rfl rfl dL_law_440 ?_
  refine E_iload (q := 6) rfl dL_law_441 ?_
  refine E_iconst (v := (1 : Int32)) rfl dL_law_443 ?_
  refine E_iadd dL_law_444 ?_
  obtain ⟨h48, hF⟩ := gd_inv hF
  refine E_sld rfl h48 dL_law_445 ?_
  refine E_aload_n (j := 0) (i := 0) (q := 1) rfl rfl dL_law_446 ?_
  refine E_iload (q := 6) rfl dL_law_447 ?_
  refine E_iconst (v := (2 : Int32)) rfl dL_law_449 ?_
  refine E_iadd dL_law_450 ?_
  obtain ⟨h49, hF⟩ := gd_inv hF
  refine E_sld rfl h49 dL_law_451 ?_
  obtain ⟨q50, h51, hF⟩ := bd_inv hF
  refine E_callV (na := 2) (As := [.int (xs (v5 + (1 : Int32)).toNatClampNeg), .int (xs (v5 + (2 : Int32)).toNatClampNeg)]) (S := []) (kc := (kcv + 6)) (ks := (ksv + 36)) (ci := 10) rfl rfl sh340 (by decide) cwV_RL_139 ⟨Nat.le_of_ble_eq_true rfl, Nat.le_of_ble_eq_true rfl⟩ (T_X8_setRate hfl fl _ _ _ _ sh340 _ h51) rfl rfl rfl (Nat.le_of_ble_eq_true rfl) dL_law_452 ?_
  refine E_istore (L' := [(7, .int q50.1), (6, .int q46.1), (0, .ref 400), (1, .ref 320), (2, .ref 340), (3, .ref 350), (4, .ref 351), (5, .int v5)]) (Nat.le_of_ble_eq_true rfl) rfl dL_law_455 ?_
  refine E_aload_n (j := 2) (i := 2) (q := 4) rfl rfl dL_law_457 ?_
  obtain ⟨q52, h53, hF⟩ := bd_inv hF
  refine E_callV (na := 0) (As := []) (S := []) (kc := (kcv + 6)) (ks := (ksv + 36)) (ci := 10) rfl rfl sh340 (by decide) cwV_RL_127 ⟨Nat.le_of_ble_eq_true rfl, Nat.le_of_ble_eq_true rfl⟩ (T_X8_thrown hfl fl _ _ sh340 _ h53) rfl rfl rfl (Nat.le_of_ble_eq_true rfl) dL_law_458 ?_
  refine E_iload (q := 1) rfl dL_law_461 ?_
  refine E_icmp_eq (tgt := 468) rfl dL_law_463 (fun c54 => ?_) (fun c54 => ?_)
  · have hF := ite_t hF c54
    refine E_iload (q := 1) rfl dL_law_468 ?_
    refine E_if_ne (tgt := 485) rfl dL_law_470 (fun c55 => ?_) (fun c55 => ?_)
    · have hF := ite_f hF c55
      refine E_goto (tgt := 2119) rfl dL_law_485 ?_
      refine E_iinc (q := 7) (v := (v5 + (7 : Int32))) (L' := [(5, .int (v5 + (7 : Int32))), (7, .int q50.1), (6, .int q46.1), (0, .ref 400), (1, .ref 320), (2, .ref 340), (3, .ref 350), (4, .ref 351)]) rfl rfl (Nat.le_of_ble_eq_true rfl) rfl dL_law_2119 ?_
      refine E_goto (tgt := 28) rfl dL_law_2122 ?_
      refine E_weak (kc' := kcv) (ks' := ksv) (by omega) (by omega) ?_
      refine E_sub [3, 4, 5, 6, 7, 0] rfl ?_
      exact hk28 _ _ hF
    · have hF := ite_t hF c55
      refine E_aload_n (j := 3) (i := 3) (q := 5) rfl rfl dL_law_473 ?_
      refine E_iconst (v := (0 : Int32)) rfl dL_law_474 ?_
      refine E_lald _ sh350 (by decide) (by decide : inR (0 : Int32) 1) dL_law_475 ?_
      refine E_iload (q := 0) rfl dL_law_476 ?_
      refine E_i2l dL_law_478 ?_
      refine E_lcmp dL_law_479 ?_
      refine E_if_eq (tgt := 485) rfl dL_law_480 (fun c56 => ?_) (fun c56 => ?_)
      · have hF := ite_t hF c56
        refine E_goto (tgt := 2119) rfl dL_law_485 ?_
        refine E_iinc (q := 7) (v := (v5 + (7 : Int32))) (L' := [(5, .int (v5 + (7 : Int32))), (7, .int q50.1), (6, .int q46.1), (0, .ref 400), (1, .ref 320), (2, .ref 340), (3, .ref 350), (4, .ref 351)]) rfl rfl (Nat.le_of_ble_eq_true rfl) rfl dL_law_2119 ?_
        refine E_goto (tgt := 28) rfl dL_law_2122 ?_
        refine E_weak (kc' := kcv) (ks' := ksv) (by omega) (by omega) ?_
        refine E_sub [3, 4, 5, 6, 7, 0] rfl ?_
        exact hk28 _ _ hF
      · have hF := ite_f hF c56
        refine E_iconst (v := (0 : Int32)) rfl dL_law_483 ?_
        exact absurd (Option.some.inj hF) (by decide)
  · have hF := ite_f hF c54
    refine E_iconst (v := (0 : Int32)) rfl dL_law_466 ?_
    exact absurd (Option.some.inj hF) (by decide)
set_option maxHeartbeats 8000000 in
set_option maxRecDepth 100000 in
theorem T_L_law_488 {l : Launch} (hfl : l.stackTraces = false) (fl : Nat) {Ln : Nat} {xs : Nat → Int32} {r : Rs} {kcv ksv : Nat} {k28 : Int32 → Mem → Option Int32} (hk28 : ∀ (v5 : Int32) (s : Mem), k28 v5 s = some 1 → E l (X_law Ln xs) r false NF s kcv ksv 28 [(0, .ref 400), (1, .ref 320), (2, .ref 340), (3, .ref 350), (4, .ref 351), (5, .int v5)] []) (v5 : Int32) (s : Mem) (hF : B_L_law_488 k28 fl xs Ln v5 s = some 1) : E l (X_law Ln xs) r false NF s (kcv + 8) (ksv + 48) 488 [(0, .ref 400), (1, .ref 320), (2, .ref 340), (3, .ref 350), (4, .ref 351), (5, .int v5)] [] := by
  unfold B_L_law_488 at hF
  refine E_aload_n (j := 1) (i := 1) (q := 1) rfl rfl dL_law_488 ?_
  refine E_aload_n (j := 0) (i := 0) (q := 0) rfl rfl dL_law_489 ?_
  refine E_iload (q := 5) rfl dL_law_490 ?_
  refine E_iconst (v := (1 : Int32)) rfl dL_law_492 ?_
  refine E_iadd dL_law_493 ?_
  obtain ⟨h57, hF⟩ := gd_inv hF
  refine E_sld rfl h57 dL_law_494 ?_
  refine E_aload_n (j := 3) (i := 3) (q := 3) rfl rfl dL_law_495 ?_
  obtain ⟨q58, h59, hF⟩ := bd_inv hF
  refine E_weak (kc' := (kcv + 7) + 1) (ks' := (ksv + 42) + 6) (by omega) (by omega) ?_
  refine E_callSH (na := 3) (As := [.ref 320, .int (xs (v5 + (1 : Int32)).toNatClampNeg), .ref 350]) (S := []) (kc := (kcv + 7)) (ks := (ksv + 42)) cwSH_RL_140 ⟨Nat.le_of_ble_eq_true rfl, Nat.le_of_ble_eq_true rfl⟩ (T_L_setGap hfl fl _ _ _ _ sh320 _ h59) rfl rfl rfl (Nat.le_of_ble_eq_true rfl) dL_law_496 ?_
  refine E_istore (L' := [(6, .int q58.1), (0, .ref 400), (1, .ref 320), (2, .ref 340), (3, .ref 350), (4, .ref 351), (5, .int v5)]) (Nat.le_of_ble_eq_true rfl) rfl dL_law_499 ?_
  refine E_aload_n (j := 2) (i := 2) (q := 3) rfl rfl dL_law_501 ?_
  refine E_aload_n (j := 0) (i := 0) (q := 1) rfl rfl dL_law_502 ?_
  refine E_iload (q := 6) rfl dL_law_503 ?_
  refine E_iconst (v := (1 : Int32)) rfl dL_law_505 ?_
  refine E_iadd dL_law_506 ?_
  obtain ⟨h60, hF⟩ := gd_inv hF
  refine E_sld rfl h60 dL_law_507 ?_
  obtain ⟨q61, h62, hF⟩ := bd_inv hF
  refine E_callV (na := 1) (As := [.int (xs (v5 + (1 : Int32)).toNatClampNeg)]) (S := []) (kc := (kcv + 7)) (ks := (ksv + 42)) (ci := 10) rfl rfl sh340 (by decide) cwV_RL_143 ⟨Nat.le_of_ble_eq_true rfl, Nat.le_of_ble_eq_true rfl⟩ (T_X8_setGap hfl fl _ _ _ sh340 _ h62) rfl rfl rfl (Nat.le_of_ble_eq_true rfl) dL_law_508 ?_
  refine E_istore (L' := [(7, .int q61.1), (6, .int q58.1), (0, .ref 400), (1, .ref 320), (2, .ref 340), (3, .ref 350), (4, .ref 351), (5, .int v5)]) (Nat.le_of_ble_eq_true rfl) rfl dL_law_511 ?_
  refine E_aload_n (j := 2) (i := 2) (q := 4) rfl rfl dL_law_513 ?_
  obtain ⟨q63, h64, hF⟩ := bd_inv hF
  refine E_callV (na := 0) (As := []) (S := []) (kc := (kcv + 7)) (ks := (ksv + 42)) (ci := 10) rfl rfl sh340 (by decide) cwV_RL_127 ⟨Nat.le_of_ble_eq_true rfl, Nat.le_of_ble_eq_true rfl⟩ (T_X8_thrown hfl fl _ _ sh340 _ h64) rfl rfl rfl (Nat.le_of_ble_eq_true rfl) dL_law_514 ?_
  refine E_iload (q := 1) rfl dL_law_517 ?_
  refine E_icmp_eq (tgt := 524) rfl dL_law_519 (fun c65 => ?_) (fun c65 => ?_)
  · have hF := ite_t hF c65
    refine E_iload (q := 1) rfl dL_law_524 ?_
    refine E_if_ne (tgt := 541) rfl dL_law_526 (fun c66 => ?_) (fun c66 => ?_)
    · have hF := ite_f hF c66
      refine E_goto (tgt := 2119) rfl dL_law_541 ?_
      refine E_iinc (q := 7) (v := (v5 + (7 : Int32))) (L' := [(5, .int (v5 + (7 : Int32))), (7, .int q61.1), (6, .int q58.1), (0, .ref 400), (1, .ref 320), (2, .ref 340), (3, .ref 350), (4, .ref 351)]) rfl rfl (Nat.le_of_ble_eq_true rfl) rfl dL_law_2119 ?_
      refine E_goto (tgt := 28) rfl dL_law_2122 ?_
      refine E_weak (kc' := kcv) (ks' := ksv) (by omega) (by omega) ?_
      refine E_sub [3, 4, 5, 6, 7, 0] rfl ?_
      exact hk28 _ _ hF
    · have hF := ite_t hF c66
      refine E_aload_n (j := 3) (i := 3) (q := 5) rfl rfl dL_law_529 ?_
      refine E_iconst (v := (0 : Int32)) rfl dL_law_530 ?_
      refine E_lald _ sh350 (by decide) (by decide : inR (0 : Int32) 1) dL_law_531 ?_
      refine E_iload (q := 0) rfl dL_law_532 ?_
      refine E_i2l dL_law_534 ?_
      refine E_lcmp dL_law_535 ?_
      refine E_if_eq (tgt := 541) rfl dL_law_536 (fun c67 => ?_) (fun c67 => ?_)
      · have hF := ite_t hF c67
        refine E_goto (tgt := 2119) rfl dL_law_541 ?_
        refine E_iinc (q := 7) (v := (v5 + (7 : Int32))) (L' := [(5, .int (v5 + (7 : Int32))), (7, .int q61.1), (6, .int q58.1), (0, .ref 400), (1, .ref 320), (2, .ref 340), (3, .ref 350), (4, .ref 351)]) rfl rfl (Nat.le_of_ble_eq_true rfl) rfl dL_law_2119 ?_
        refine E_goto (tgt := 28) rfl dL_law_2122 ?_
        refine E_weak (kc' := kcv) (ks' := ksv) (by omega) (by omega) ?_
        refine E_sub [3, 4, 5, 6, 7, 0] rfl ?_
        exact hk28 _ _ hF
      · have hF := ite_f hF c67
        refine E_iconst (v := (0 : Int32)) rfl dL_law_539 ?_
        exact absurd (Option.some.inj hF) (by decide)
  · have hF := ite_f hF c65
    refine E_iconst (v := (0 : Int32)) rfl dL_law_522 ?_
    exact absurd (Option.some.inj hF) (by decide)
set_option maxHeartbeats 8000000 in
set_option maxRecDepth 100000 in
theorem T_L_law_544 {l : Launch} (hfl : l.stackTraces = false) (fl : Nat) {Ln : Nat} {xs : Nat → Int32} {r : Rs} {kcv ksv : Nat} {k28 : Int32 → Mem → Option Int32} (hk28 : ∀ (v5 : Int32) (s : Mem), k28 v5 s = some 1 → E l (X_law Ln xs) r false NF s kcv ksv 28 [(0, .ref 400), (1, .ref 320), (2, .ref 340), (3, .ref 350), (4, .ref 351), (5, .int v5)] []) (v5 : Int32) (s : Mem) (hF : B_L_law_544 k28 fl xs Ln v5 s = some 1) : E l (X_law Ln xs) r false NF s (kcv + 8) (ksv + 48) 544 [(0, .ref 400), (1, .ref 320), (2, .ref 340), (3, .ref 350), (4, .ref 351), (5, .int v5)] [] := by
  unfold B_L_law_544 at hF
  refine E_aload_n (j := 1) (i := 1) (q := 1) rfl rfl dL_law_544 ?_
  refine E_aload_n (j := 0) (i := 0) (q := 0) rfl rfl dL_law_545 ?_
  refine E_iload (q := 5) rfl dL_law_546 ?_
  refine E_iconst (v := (1 : Int32)) rfl dL_law_548 ?_
  refine E_iadd dL_law_549 ?_
  obtain ⟨h68, hF⟩ := gd_inv hF
  refine E_sld rfl h68 dL_law_550 ?_
  refine E_aload_n (j := 0) (i := 0) (q := 0) rfl rfl dL_law_551 ?_
  refine E_iload (q := 5) rfl dL_law_552 ?_
  refine E_iconst (v := (2 : Int32)) rfl dL_law_554 ?_
  refine E_iadd dL_law_555 ?_
  obtain ⟨h69, hF⟩ := gd_inv hF
  refine E_sld rfl h69 dL_law_556 ?_
  refine E_aload_n (j := 0) (i := 0) (q := 0) rfl rfl dL_law_557 ?_
  refine E_iload (q := 5) rfl dL_law_558 ?_
  refine E_iconst (v := (3 : Int32)) rfl dL_law_560 ?_
  refine E_iadd dL_law_561 ?_
  obtain ⟨h70, hF⟩ := gd_inv hF
  refine E_sld rfl h70 dL_law_562 ?_
  refine E_aload_n (j := 3) (i := 3) (q := 3) rfl rfl dL_law_563 ?_
  obtain ⟨q71, h72, hF⟩ := bd_inv hF
  refine E_weak (kc' := (kcv + 7) + 1) (ks' := (ksv + 42) + 6) (by omega) (by omega) ?_
  refine E_callSH (na := 5) (As := [.ref 320, .int (xs (v5 + (1 : Int32)).toNatClampNeg), .int (xs (v5 + (2 : Int32)).toNatClampNeg), .int (xs (v5 + (3 : Int32)).toNatClampNeg), .ref 350]) (S := []) (kc := (kcv + 7)) (ks := (ksv + 42)) cwSH_RL_144 ⟨Nat.le_of_ble_eq_true rfl, Nat.le_of_ble_eq_true rfl⟩ (T_L_addSeason hfl fl _ _ _ _ _ _ sh320 _ h72) rfl rfl rfl (Nat.le_of_ble_eq_true rfl) dL_law_564 ?_
  refine E_istore (L' := [(6, .int q71.1), (0, .ref 400), (1, .ref 320), (2, .ref 340), (3, .ref 350), (4, .ref 351), (5, .int v5)]) (Nat.le_of_ble_eq_true rfl) rfl dL_law_567 ?_
  refine E_aload_n (j := 2) (i := 2) (q := 3) rfl rfl dL_law_569 ?_
  refine E_aload_n (j := 0) (i := 0) (q := 1) rfl rfl dL_law_570 ?_
  refine E_iload (q := 6) rfl dL_law_571 ?_
  refine E_iconst (v := (1 : Int32)) rfl dL_law_573 ?_
  refine E_iadd dL_law_574 ?_
  obtain ⟨h73, hF⟩ := gd_inv hF
  refine E_sld rfl h73 dL_law_575 ?_
  refine E_aload_n (j := 0) (i := 0) (q := 1) rfl rfl dL_law_576 ?_
  refine E_iload (q := 6) rfl dL_law_577 ?_
  refine E_iconst (v := (2 : Int32)) rfl dL_law_579 ?_
  refine E_iadd dL_law_580 ?_
  obtain ⟨h74, hF⟩ := gd_inv hF
  refine E_sld rfl h74 dL_law_581 ?_
  refine E_aload_n (j := 0) (i := 0) (q := 1) rfl rfl dL_law_582 ?_
  refine E_iload (q := 6) rfl dL_law_583 ?_
  refine E_iconst (v := (3 : Int32)) rfl dL_law_585 ?_
  refine E_iadd dL_law_586 ?_
  obtain ⟨h75, hF⟩ := gd_inv hF
  refine E_sld rfl h75 dL_law_587 ?_
  obtain ⟨q76, h77, hF⟩ := bd_inv hF
  refine E_callV (na := 3) (As := [.int (xs (v5 + (1 : Int32)).toNatClampNeg), .int (xs (v5 + (2 : Int32)).toNatClampNeg), .int (xs (v5 + (3 : Int32)).toNatClampNeg)]) (S := []) (kc := (kcv + 7)) (ks := (ksv + 42)) (ci := 10) rfl rfl sh340 (by decide) cwV_RL_147 ⟨Nat.le_of_ble_eq_true rfl, Nat.le_of_ble_eq_true rfl⟩ (T_X8_addSeason hfl fl _ _ _ _ _ sh340 _ h77) rfl rfl rfl (Nat.le_of_ble_eq_true rfl) dL_law_588 ?_
  refine E_istore (L' := [(7, .int q76.1), (6, .int q71.1), (0, .ref 400), (1, .ref 320), (2, .ref 340), (3, .ref 350), (4, .ref 351), (5, .int v5)]) (Nat.le_of_ble_eq_true rfl) rfl dL_law_591 ?_
  refine E_aload_n (j := 2) (i := 2) (q := 4) rfl rfl dL_law_593 ?_
  obtain ⟨q78, h79, hF⟩ := bd_inv hF
  refine E_callV (na := 0) (As := []) (S := []) (kc := (kcv + 7)) (ks := (ksv + 42)) (ci := 10) rfl rfl sh340 (by decide) cwV_RL_127 ⟨Nat.le_of_ble_eq_true rfl, Nat.le_of_ble_eq_true rfl⟩ (T_X8_thrown hfl fl _ _ sh340 _ h79) rfl rfl rfl (Nat.le_of_ble_eq_true rfl) dL_law_594 ?_
  refine E_iload (q := 1) rfl dL_law_597 ?_
  refine E_icmp_eq (tgt := 604) rfl dL_law_599 (fun c80 => ?_) (fun c80 => ?_)
  · have hF := ite_t hF c80
    refine E_iload (q := 1) rfl dL_law_604 ?_
    refine E_if_ne (tgt := 621) rfl dL_law_606 (fun c81 => ?_) (fun c81 => ?_)
    · have hF := ite_f hF c81
      refine E_goto (tgt := 2119) rfl dL_law_621 ?_
      refine E_iinc (q := 7) (v := (v5 + (7 : Int32))) (L' := [(5, .int (v5 + (7 : Int32))), (7, .int q76.1), (6, .int q71.1), (0, .ref 400), (1, .ref 320), (2, .ref 340), (3, .ref 350), (4, .ref 351)]) rfl rfl (Nat.le_of_ble_eq_true rfl) rfl dL_law_2119 ?_
      refine E_goto (tgt := 28) rfl dL_law_2122 ?_
      refine E_weak (kc' := kcv) (ks' := ksv) (by omega) (by omega) ?_
      refine E_sub [3, 4, 5, 6, 7, 0] rfl ?_
      exact hk28 _ _ hF
    · have hF := ite_t hF c81
      refine E_aload_n (j := 3) (i := 3) (q := 5) rfl rfl dL_law_609 ?_
      refine E_iconst (v := (0 : Int32)) rfl dL_law_610 ?_
      refine E_lald _ sh350 (by decide) (by decide : inR (0 : Int32) 1) dL_law_611 ?_
      refine E_iload (q := 0) rfl dL_law_612 ?_
      refine E_i2l dL_law_614 ?_
      refine E_lcmp dL_law_615 ?_
      refine E_if_eq (tgt := 621) rfl dL_law_616 (fun c82 => ?_) (fun c82 => ?_)
      · have hF := ite_t hF c82
        refine E_goto (tgt := 2119) rfl dL_law_621 ?_
        refine E_iinc (q := 7) (v := (v5 + (7 : Int32))) (L' := [(5, .int (v5 + (7 : Int32))), (7, .int q76.1), (6, .int q71.1), (0, .ref 400), (1, .ref 320), (2, .ref 340), (3, .ref 350), (4, .ref 351)]) rfl rfl (Nat.le_of_ble_eq_true rfl) rfl dL_law_2119 ?_
        refine E_goto (tgt := 28) rfl dL_law_2122 ?_
        refine E_weak (kc' := kcv) (ks' := ksv) (by omega) (by omega) ?_
        refine E_sub [3, 4, 5, 6, 7, 0] rfl ?_
        exact hk28 _ _ hF
      · have hF := ite_f hF c82
        refine E_iconst (v := (0 : Int32)) rfl dL_law_619 ?_
        exact absurd (Option.some.inj hF) (by decide)
  · have hF := ite_f hF c80
    refine E_iconst (v := (0 : Int32)) rfl dL_law_602 ?_
    exact absurd (Option.some.inj hF) (by decide)
set_option maxHeartbeats 8000000 in
set_option maxRecDepth 100000 in
theorem T_L_law_624 {l : Launch} (hfl : l.stackTraces = false) (fl : Nat) {Ln : Nat} {xs : Nat → Int32} {r : Rs} {kcv ksv : Nat} {k28 : Int32 → Mem → Option Int32} (hk28 : ∀ (v5 : Int32) (s : Mem), k28 v5 s = some 1 → E l (X_law Ln xs) r false NF s kcv ksv 28 [(0, .ref 400), (1, .ref 320), (2, .ref 340), (3, .ref 350), (4, .ref 351), (5, .int v5)] []) (v5 : Int32) (s : Mem) (hF : B_L_law_624 k28 fl xs Ln v5 s = some 1) : E l (X_law Ln xs) r false NF s (kcv + 8) (ksv + 48) 624 [(0, .ref 400), (1, .ref 320), (2, .ref 340), (3, .ref 350), (4, .ref 351), (5, .int v5)] [] := by
  unfold B_L_law_624 at hF
  refine E_aload_n (j := 1) (i := 1) (q := 1) rfl rfl dL_law_624 ?_
  refine E_aload_n (j := 0) (i := 0) (q := 0) rfl rfl dL_law_625 ?_
  refine E_iload (q := 5) rfl dL_law_626 ?_
  refine E_iconst (v := (1 : Int32)) rfl dL_law_628 ?_
  refine E_iadd dL_law_629 ?_
  obtain ⟨h83, hF⟩ := gd_inv hF
  refine E_sld rfl h83 dL_law_630 ?_
  refine E_aload_n (j := 3) (i := 3) (q := 3) rfl rfl dL_law_631 ?_
  obtain ⟨q84, h85, hF⟩ := bd_inv hF
  refine E_weak (kc' := (kcv + 7) + 1) (ks' := (ksv + 42) + 6) (by omega) (by omega) ?_
  refine E_callSH (na := 3) (As := [.ref 320, .int (xs (v5 + (1 : Int32)).toNatClampNeg), .ref 350]) (S := []) (kc := (kcv + 7)) (ks := (ksv + 42)) cwSH_RL_148 ⟨Nat.le_of_ble_eq_true rfl, Nat.le_of_ble_eq_true rfl⟩ (T_L_dropSeason hfl fl _ _ _ _ sh320 _ h85) rfl rfl rfl (Nat.le_of_ble_eq_true rfl) dL_law_632 ?_
  refine E_istore (L' := [(6, .int q84.1), (0, .ref 400), (1, .ref 320), (2, .ref 340), (3, .ref 350), (4, .ref 351), (5, .int v5)]) (Nat.le_of_ble_eq_true rfl) rfl dL_law_635 ?_
  refine E_aload_n (j := 2) (i := 2) (q := 3) rfl rfl dL_law_637 ?_
  refine E_aload_n (j := 0) (i := 0) (q := 1) rfl rfl dL_law_638 ?_
  refine E_iload (q := 6) rfl dL_law_639 ?_
  refine E_iconst (v := (1 : Int32)) rfl dL_law_641 ?_
  refine E_iadd dL_law_642 ?_
  obtain ⟨h86, hF⟩ := gd_inv hF
  refine E_sld rfl h86 dL_law_643 ?_
  obtain ⟨q87, h88, hF⟩ := bd_inv hF
  refine E_callV (na := 1) (As := [.int (xs (v5 + (1 : Int32)).toNatClampNeg)]) (S := []) (kc := (kcv + 7)) (ks := (ksv + 42)) (ci := 10) rfl rfl sh340 (by decide) cwV_RL_150 ⟨Nat.le_of_ble_eq_true rfl, Nat.le_of_ble_eq_true rfl⟩ (T_X8_dropSeason hfl fl _ _ _ sh340 _ h88) rfl rfl rfl (Nat.le_of_ble_eq_true rfl) dL_law_644 ?_
  refine E_istore (L' := [(7, .int q87.1), (6, .int q84.1), (0, .ref 400), (1, .ref 320), (2, .ref 340), (3, .ref 350), (4, .ref 351), (5, .int v5)]) (Nat.le_of_ble_eq_true rfl) rfl dL_law_647 ?_
  refine E_aload_n (j := 2) (i := 2) (q := 4) rfl rfl dL_law_649 ?_
  obtain ⟨q89, h90, hF⟩ := bd_inv hF
  refine E_callV (na := 0) (As := []) (S := []) (kc := (kcv + 7)) (ks := (ksv + 42)) (ci := 10) rfl rfl sh340 (by decide) cwV_RL_127 ⟨Nat.le_of_ble_eq_true rfl, Nat.le_of_ble_eq_true rfl⟩ (T_X8_thrown hfl fl _ _ sh340 _ h90) rfl rfl rfl (Nat.le_of_ble_eq_true rfl) dL_law_650 ?_
  refine E_iload (q := 1) rfl dL_law_653 ?_
  refine E_icmp_eq (tgt := 660) rfl dL_law_655 (fun c91 => ?_) (fun c91 => ?_)
  · have hF := ite_t hF c91
    refine E_iload (q := 1) rfl dL_law_660 ?_
    refine E_if_ne (tgt := 677) rfl dL_law_662 (fun c92 => ?_) (fun c92 => ?_)
    · have hF := ite_f hF c92
      refine E_goto (tgt := 2119) rfl dL_law_677 ?_
      refine E_iinc (q := 7) (v := (v5 + (7 : Int32))) (L' := [(5, .int (v5 + (7 : Int32))), (7, .int q87.1), (6, .int q84.1), (0, .ref 400), (1, .ref 320), (2, .ref 340), (3, .ref 350), (4, .ref 351)]) rfl rfl (Nat.le_of_ble_eq_true rfl) rfl dL_law_2119 ?_
      refine E_goto (tgt := 28) rfl dL_law_2122 ?_
      refine E_weak (kc' := kcv) (ks' := ksv) (by omega) (by omega) ?_
      refine E_sub [3, 4, 5, 6, 7, 0] rfl ?_
      exact hk28 _ _ hF
    · have hF := ite_t hF c92
      refine E_aload_n (j := 3) (i := 3) (q := 5) rfl rfl dL_law_665 ?_
      refine E_iconst (v := (0 : Int32)) rfl dL_law_666 ?_
      refine E_lald _ sh350 (by decide) (by decide : inR (0 : Int32) 1) dL_law_667 ?_
      refine E_iload (q := 0) rfl dL_law_668 ?_
      refine E_i2l dL_law_670 ?_
      refine E_lcmp dL_law_671 ?_
      refine E_if_eq (tgt := 677) rfl dL_law_672 (fun c93 => ?_) (fun c93 => ?_)
      · have hF := ite_t hF c93
        refine E_goto (tgt := 2119) rfl dL_law_677 ?_
        refine E_iinc (q := 7) (v := (v5 + (7 : Int32))) (L' := [(5, .int (v5 + (7 : Int32))), (7, .int q87.1), (6, .int q84.1), (0, .ref 400), (1, .ref 320), (2, .ref 340), (3, .ref 350), (4, .ref 351)]) rfl rfl (Nat.le_of_ble_eq_true rfl) rfl dL_law_2119 ?_
        refine E_goto (tgt := 28) rfl dL_law_2122 ?_
        refine E_weak (kc' := kcv) (ks' := ksv) (by omega) (by omega) ?_
        refine E_sub [3, 4, 5, 6, 7, 0] rfl ?_
        exact hk28 _ _ hF
      · have hF := ite_f hF c93
        refine E_iconst (v := (0 : Int32)) rfl dL_law_675 ?_
        exact absurd (Option.some.inj hF) (by decide)
  · have hF := ite_f hF c91
    refine E_iconst (v := (0 : Int32)) rfl dL_law_658 ?_
    exact absurd (Option.some.inj hF) (by decide)
set_option maxHeartbeats 8000000 in
set_option maxRecDepth 100000 in
theorem T_L_law_680 {l : Launch} (hfl : l.stackTraces = false) (fl : Nat) {Ln : Nat} {xs : Nat → Int32} {r : Rs} {kcv ksv : Nat} {k28 : Int32 → Mem → Option Int32} (hk28 : ∀ (v5 : Int32) (s : Mem), k28 v5 s = some 1 → E l (X_law Ln xs) r false NF s kcv ksv 28 [(0, .ref 400), (1, .ref 320), (2, .ref 340), (3, .ref 350), (4, .ref 351), (5, .int v5)] []) (v5 : Int32) (s : Mem) (hF : B_L_law_680 k28 fl xs Ln v5 s = some 1) : E l (X_law Ln xs) r false NF s (kcv + 8) (ksv + 48) 680 [(0, .ref 400), (1, .ref 320), (2, .ref 340), (3, .ref 350), (4, .ref 351), (5, .int v5)] [] := by
  unfold B_L_law_680 at hF
  refine E_aload_n (j := 1) (i := 1) (q := 1) rfl rfl dL_law_680 ?_
  refine E_aload_n (j := 0) (i := 0) (q := 0) rfl rfl dL_law_681 ?_
  refine E_iload (q := 5) rfl dL_law_682 ?_
  refine E_iconst (v := (1 : Int32)) rfl dL_law_684 ?_
  refine E_iadd dL_law_685 ?_
  obtain ⟨h94, hF⟩ := gd_inv hF
  refine E_sld rfl h94 dL_law_686 ?_
  refine E_aload_n (j := 0) (i := 0) (q := 0) rfl rfl dL_law_687 ?_
  refine E_iload (q := 5) rfl dL_law_688 ?_
  refine E_iconst (v := (2 : Int32)) rfl dL_law_690 ?_
  refine E_iadd dL_law_691 ?_
  obtain ⟨h95, hF⟩ := gd_inv hF
  refine E_sld rfl h95 dL_law_692 ?_
  refine E_aload_n (j := 3) (i := 3) (q := 3) rfl rfl dL_law_693 ?_
  obtain ⟨q96, h97, hF⟩ := bd_inv hF
  refine E_weak (kc' := (kcv + 6) + 2) (ks' := (ksv + 36) + 12) (by omega) (by omega) ?_
  refine E_callSH (na := 4) (As := [.ref 320, .int (xs (v5 + (1 : Int32)).toNatClampNeg), .int (xs (v5 + (2 : Int32)).toNatClampNeg), .ref 350]) (S := []) (kc := (kcv + 6)) (ks := (ksv + 36)) cwSH_RL_151 ⟨Nat.le_of_ble_eq_true rfl, Nat.le_of_ble_eq_true rfl⟩ (T_L_season hfl fl _ _ _ _ _ sh320 _ h97) rfl rfl rfl (Nat.le_of_ble_eq_true rfl) dL_law_694 ?_
  refine E_istore (L' := [(6, .int q96.1), (0, .ref 400), (1, .ref 320), (2, .ref 340), (3, .ref 350), (4, .ref 351), (5, .int v5)]) (Nat.le_of_ble_eq_true rfl) rfl dL_law_697 ?_
  refine E_aload_n (j := 2) (i := 2) (q := 3) rfl rfl dL_law_699 ?_
  refine E_aload_n (j := 0) (i := 0) (q := 1) rfl rfl dL_law_700 ?_
  refine E_iload (q := 6) rfl dL_law_701 ?_
  refine E_iconst (v := (1 : Int32)) rfl dL_law_703 ?_
  refine E_iadd dL_law_704 ?_
  obtain ⟨h98, hF⟩ := gd_inv hF
  refine E_sld rfl h98 dL_law_705 ?_
  refine E_aload_n (j := 0) (i := 0) (q := 1) rfl rfl dL_law_706 ?_
  refine E_iload (q := 6) rfl dL_law_707 ?_
  refine E_iconst (v := (2 : Int32)) rfl dL_law_709 ?_
  refine E_iadd dL_law_710 ?_
  obtain ⟨h99, hF⟩ := gd_inv hF
  refine E_sld rfl h99 dL_law_711 ?_
  obtain ⟨q100, h101, hF⟩ := bd_inv hF
  refine E_callV (na := 2) (As := [.int (xs (v5 + (1 : Int32)).toNatClampNeg), .int (xs (v5 + (2 : Int32)).toNatClampNeg)]) (S := []) (kc := (kcv + 6)) (ks := (ksv + 36)) (ci := 10) rfl rfl sh340 (by decide) cwV_RL_153 ⟨Nat.le_of_ble_eq_true rfl, Nat.le_of_ble_eq_true rfl⟩ (T_X8_season hfl fl _ _ _ _ sh340 _ h101) rfl rfl rfl (Nat.le_of_ble_eq_true rfl) dL_law_712 ?_
  refine E_istore (L' := [(7, .int q100.1), (6, .int q96.1), (0, .ref 400), (1, .ref 320), (2, .ref 340), (3, .ref 350), (4, .ref 351), (5, .int v5)]) (Nat.le_of_ble_eq_true rfl) rfl dL_law_715 ?_
  refine E_aload_n (j := 2) (i := 2) (q := 4) rfl rfl dL_law_717 ?_
  obtain ⟨q102, h103, hF⟩ := bd_inv hF
  refine E_callV (na := 0) (As := []) (S := []) (kc := (kcv + 6)) (ks := (ksv + 36)) (ci := 10) rfl rfl sh340 (by decide) cwV_RL_127 ⟨Nat.le_of_ble_eq_true rfl, Nat.le_of_ble_eq_true rfl⟩ (T_X8_thrown hfl fl _ _ sh340 _ h103) rfl rfl rfl (Nat.le_of_ble_eq_true rfl) dL_law_718 ?_
  refine E_iload (q := 1) rfl dL_law_721 ?_
  refine E_icmp_eq (tgt := 728) rfl dL_law_723 (fun c104 => ?_) (fun c104 => ?_)
  · have hF := ite_t hF c104
    refine E_iload (q := 1) rfl dL_law_728 ?_
    refine E_if_ne (tgt := 745) rfl dL_law_730 (fun c105 => ?_) (fun c105 => ?_)
    · have hF := ite_f hF c105
      refine E_goto (tgt := 2119) rfl dL_law_745 ?_
      refine E_iinc (q := 7) (v := (v5 + (7 : Int32))) (L' := [(5, .int (v5 + (7 : Int32))), (7, .int q100.1), (6, .int q96.1), (0, .ref 400), (1, .ref 320), (2, .ref 340), (3, .ref 350), (4, .ref 351)]) rfl rfl (Nat.le_of_ble_eq_true rfl) rfl dL_law_2119 ?_
      refine E_goto (tgt := 28) rfl dL_law_2122 ?_
      refine E_weak (kc' := kcv) (ks' := ksv) (by omega) (by omega) ?_
      refine E_sub [3, 4, 5, 6, 7, 0] rfl ?_
      exact hk28 _ _ hF
    · have hF := ite_t hF c105
      refine E_aload_n (j := 3) (i := 3) (q := 5) rfl rfl dL_law_733 ?_
      refine E_iconst (v := (0 : Int32)) rfl dL_law_734 ?_
      refine E_lald _ sh350 (by decide) (by decide : inR (0 : Int32) 1) dL_law_735 ?_
      refine E_iload (q := 0) rfl dL_law_736 ?_
      refine E_i2l dL_law_738 ?_
      refine E_lcmp dL_law_739 ?_
      refine E_if_eq (tgt := 745) rfl dL_law_740 (fun c106 => ?_) (fun c106 => ?_)
      · have hF := ite_t hF c106
        refine E_goto (tgt := 2119) rfl dL_law_745 ?_
        refine E_iinc (q := 7) (v := (v5 + (7 : Int32))) (L' := [(5, .int (v5 + (7 : Int32))), (7, .int q100.1), (6, .int q96.1), (0, .ref 400), (1, .ref 320), (2, .ref 340), (3, .ref 350), (4, .ref 351)]) rfl rfl (Nat.le_of_ble_eq_true rfl) rfl dL_law_2119 ?_
        refine E_goto (tgt := 28) rfl dL_law_2122 ?_
        refine E_weak (kc' := kcv) (ks' := ksv) (by omega) (by omega) ?_
        refine E_sub [3, 4, 5, 6, 7, 0] rfl ?_
        exact hk28 _ _ hF
      · have hF := ite_f hF c106
        refine E_iconst (v := (0 : Int32)) rfl dL_law_743 ?_
        exact absurd (Option.some.inj hF) (by decide)
  · have hF := ite_f hF c104
    refine E_iconst (v := (0 : Int32)) rfl dL_law_726 ?_
    exact absurd (Option.some.inj hF) (by decide)
set_option maxHeartbeats 8000000 in
set_option maxRecDepth 100000 in
theorem T_L_law_748 {l : Launch} (hfl : l.stackTraces = false) (fl : Nat) {Ln : Nat} {xs : Nat → Int32} {r : Rs} {kcv ksv : Nat} {k28 : Int32 → Mem → Option Int32} (hk28 : ∀ (v5 : Int32) (s : Mem), k28 v5 s = some 1 → E l (X_law Ln xs) r false NF s kcv ksv 28 [(0, .ref 400), (1, .ref 320), (2, .ref 340), (3, .ref 350), (4, .ref 351), (5, .int v5)] []) (v5 : Int32) (s : Mem) (hF : B_L_law_748 k28 fl xs Ln v5 s = some 1) : E l (X_law Ln xs) r false NF s (kcv + 8) (ksv + 48) 748 [(0, .ref 400), (1, .ref 320), (2, .ref 340), (3, .ref 350), (4, .ref 351), (5, .int v5)] [] := by
  unfold B_L_law_748 at hF
  refine E_aload_n (j := 1) (i := 1) (q := 1) rfl rfl dL_law_748 ?_
  refine E_aload_n (j := 0) (i := 0) (q := 0) rfl rfl dL_law_749 ?_
  refine E_iload (q := 5) rfl dL_law_750 ?_
  refine E_iconst (v := (1 : Int32)) rfl dL_law_752 ?_
  refine E_iadd dL_law_753 ?_
  obtain ⟨h107, hF⟩ := gd_inv hF
  refine E_sld rfl h107 dL_law_754 ?_
  refine E_aload_n (j := 0) (i := 0) (q := 0) rfl rfl dL_law_755 ?_
  refine E_iload (q := 5) rfl dL_law_756 ?_
  refine E_iconst (v := (2 : Int32)) rfl dL_law_758 ?_
  refine E_iadd dL_law_759 ?_
  obtain ⟨h108, hF⟩ := gd_inv hF
  refine E_sld rfl h108 dL_law_760 ?_
  refine E_aload_n (j := 3) (i := 3) (q := 3) rfl rfl dL_law_761 ?_
  obtain ⟨q109, h110, hF⟩ := bd_inv hF
  refine E_weak (kc' := (kcv + 7) + 1) (ks' := (ksv + 42) + 6) (by omega) (by omega) ?_
  refine E_callSH (na := 4) (As := [.ref 320, .int (xs (v5 + (1 : Int32)).toNatClampNeg), .int (xs (v5 + (2 : Int32)).toNatClampNeg), .ref 350]) (S := []) (kc := (kcv + 7)) (ks := (ksv + 42)) cwSH_RL_154 ⟨Nat.le_of_ble_eq_true rfl, Nat.le_of_ble_eq_true rfl⟩ (T_L_leastStay hfl fl _ _ _ _ _ sh320 _ h110) rfl rfl rfl (Nat.le_of_ble_eq_true rfl) dL_law_762 ?_
  refine E_istore (L' := [(6, .int q109.1), (0, .ref 400), (1, .ref 320), (2, .ref 340), (3, .ref 350), (4, .ref 351), (5, .int v5)]) (Nat.le_of_ble_eq_true rfl) rfl dL_law_765 ?_
  refine E_aload_n (j := 2) (i := 2) (q := 3) rfl rfl dL_law_767 ?_
  refine E_aload_n (j := 0) (i := 0) (q := 1) rfl rfl dL_law_768 ?_
  refine E_iload (q := 6) rfl dL_law_769 ?_
  refine E_iconst (v := (1 : Int32)) rfl dL_law_771 ?_
  refine E_iadd dL_law_772 ?_
  obtain ⟨h111, hF⟩ := gd_inv hF
  refine E_sld rfl h111 dL_law_773 ?_
  refine E_aload_n (j := 0) (i := 0) (q := 1) rfl rfl dL_law_774 ?_
  refine E_iload (q := 6) rfl dL_law_775 ?_
  refine E_iconst (v := (2 : Int32)) rfl dL_law_777 ?_
  refine E_iadd dL_law_778 ?_
  obtain ⟨h112, hF⟩ := gd_inv hF
  refine E_sld rfl h112 dL_law_779 ?_
  obtain ⟨q113, h114, hF⟩ := bd_inv hF
  refine E_callV (na := 2) (As := [.int (xs (v5 + (1 : Int32)).toNatClampNeg), .int (xs (v5 + (2 : Int32)).toNatClampNeg)]) (S := []) (kc := (kcv + 7)) (ks := (ksv + 42)) (ci := 10) rfl rfl sh340 (by decide) cwV_RL_156 ⟨Nat.le_of_ble_eq_true rfl, Nat.le_of_ble_eq_true rfl⟩ (T_X8_leastStay hfl fl _ _ _ _ sh340 _ h114) rfl rfl rfl (Nat.le_of_ble_eq_true rfl) dL_law_780 ?_
  refine E_istore (L' := [(7, .int q113.1), (6, .int q109.1), (0, .ref 400), (1, .ref 320), (2, .ref 340), (3, .ref 350), (4, .ref 351), (5, .int v5)]) (Nat.le_of_ble_eq_true rfl) rfl dL_law_783 ?_
  refine E_aload_n (j := 2) (i := 2) (q := 4) rfl rfl dL_law_785 ?_
  obtain ⟨q115, h116, hF⟩ := bd_inv hF
  refine E_callV (na := 0) (As := []) (S := []) (kc := (kcv + 7)) (ks := (ksv + 42)) (ci := 10) rfl rfl sh340 (by decide) cwV_RL_127 ⟨Nat.le_of_ble_eq_true rfl, Nat.le_of_ble_eq_true rfl⟩ (T_X8_thrown hfl fl _ _ sh340 _ h116) rfl rfl rfl (Nat.le_of_ble_eq_true rfl) dL_law_786 ?_
  refine E_iload (q := 1) rfl dL_law_789 ?_
  refine E_icmp_eq (tgt := 796) rfl dL_law_791 (fun c117 => ?_) (fun c117 => ?_)
  · have hF := ite_t hF c117
    refine E_iload (q := 1) rfl dL_law_796 ?_
    refine E_if_ne (tgt := 813) rfl dL_law_798 (fun c118 => ?_) (fun c118 => ?_)
    · have hF := ite_f hF c118
      refine E_goto (tgt := 2119) rfl dL_law_813 ?_
      refine E_iinc (q := 7) (v := (v5 + (7 : Int32))) (L' := [(5, .int (v5 + (7 : Int32))), (7, .int q113.1), (6, .int q109.1), (0, .ref 400), (1, .ref 320), (2, .ref 340), (3, .ref 350), (4, .ref 351)]) rfl rfl (Nat.le_of_ble_eq_true rfl) rfl dL_law_2119 ?_
      refine E_goto (tgt := 28) rfl dL_law_2122 ?_
      refine E_weak (kc' := kcv) (ks' := ksv) (by omega) (by omega) ?_
      refine E_sub [3, 4, 5, 6, 7, 0] rfl ?_
      exact hk28 _ _ hF
    · have hF := ite_t hF c118
      refine E_aload_n (j := 3) (i := 3) (q := 5) rfl rfl dL_law_801 ?_
      refine E_iconst (v := (0 : Int32)) rfl dL_law_802 ?_
      refine E_lald _ sh350 (by decide) (by decide : inR (0 : Int32) 1) dL_law_803 ?_
      refine E_iload (q := 0) rfl dL_law_804 ?_
      refine E_i2l dL_law_806 ?_
      refine E_lcmp dL_law_807 ?_
      refine E_if_eq (tgt := 813) rfl dL_law_808 (fun c119 => ?_) (fun c119 => ?_)
      · have hF := ite_t hF c119
        refine E_goto (tgt := 2119) rfl dL_law_813 ?_
        refine E_iinc (q := 7) (v := (v5 + (7 : Int32))) (L' := [(5, .int (v5 + (7 : Int32))), (7, .int q113.1), (6, .int q109.1), (0, .ref 400), (1, .ref 320), (2, .ref 340), (3, .ref 350), (4, .ref 351)]) rfl rfl (Nat.le_of_ble_eq_true rfl) rfl dL_law_2119 ?_
        refine E_goto (tgt := 28) rfl dL_law_2122 ?_
        refine E_weak (kc' := kcv) (ks' := ksv) (by omega) (by omega) ?_
        refine E_sub [3, 4, 5, 6, 7, 0] rfl ?_
        exact hk28 _ _ hF
      · have hF := ite_f hF c119
        refine E_iconst (v := (0 : Int32)) rfl dL_law_811 ?_
        exact absurd (Option.some.inj hF) (by decide)
  · have hF := ite_f hF c117
    refine E_iconst (v := (0 : Int32)) rfl dL_law_794 ?_
    exact absurd (Option.some.inj hF) (by decide)
set_option maxHeartbeats 8000000 in
set_option maxRecDepth 100000 in
theorem T_L_law_816 {l : Launch} (hfl : l.stackTraces = false) (fl : Nat) {Ln : Nat} {xs : Nat → Int32} {r : Rs} {kcv ksv : Nat} {k28 : Int32 → Mem → Option Int32} (hk28 : ∀ (v5 : Int32) (s : Mem), k28 v5 s = some 1 → E l (X_law Ln xs) r false NF s kcv ksv 28 [(0, .ref 400), (1, .ref 320), (2, .ref 340), (3, .ref 350), (4, .ref 351), (5, .int v5)] []) (v5 : Int32) (s : Mem) (hF : B_L_law_816 k28 fl xs Ln v5 s = some 1) : E l (X_law Ln xs) r false NF s (kcv + 8) (ksv + 48) 816 [(0, .ref 400), (1, .ref 320), (2, .ref 340), (3, .ref 350), (4, .ref 351), (5, .int v5)] [] := by
  unfold B_L_law_816 at hF
  refine E_aload_n (j := 1) (i := 1) (q := 1) rfl rfl dL_law_816 ?_
  refine E_aload_n (j := 0) (i := 0) (q := 0) rfl rfl dL_law_817 ?_
  refine E_iload (q := 5) rfl dL_law_818 ?_
  refine E_iconst (v := (1 : Int32)) rfl dL_law_820 ?_
  refine E_iadd dL_law_821 ?_
  obtain ⟨h120, hF⟩ := gd_inv hF
  refine E_sld rfl h120 dL_law_822 ?_
  refine E_aload_n (j := 0) (i := 0) (q := 0) rfl rfl dL_law_823 ?_
  refine E_iload (q := 5) rfl dL_law_824 ?_
  refine E_iconst (v := (2 : Int32)) rfl dL_law_826 ?_
  refine E_iadd dL_law_827 ?_
  obtain ⟨h121, hF⟩ := gd_inv hF
  refine E_sld rfl h121 dL_law_828 ?_
  refine E_aload_n (j := 0) (i := 0) (q := 0) rfl rfl dL_law_829 ?_
  refine E_iload (q := 5) rfl dL_law_830 ?_
  refine E_iconst (v := (3 : Int32)) rfl dL_law_832 ?_
  refine E_iadd dL_law_833 ?_
  obtain ⟨h122, hF⟩ := gd_inv hF
  refine E_sld rfl h122 dL_law_834 ?_
  refine E_aload_n (j := 0) (i := 0) (q := 0) rfl rfl dL_law_835 ?_
  refine E_iload (q := 5) rfl dL_law_836 ?_
  refine E_iconst (v := (4 : Int32)) rfl dL_law_838 ?_
  refine E_iadd dL_law_839 ?_
  obtain ⟨h123, hF⟩ := gd_inv hF
  refine E_sld rfl h123 dL_law_840 ?_
  refine E_aload_n (j := 0) (i := 0) (q := 0) rfl rfl dL_law_841 ?_
  refine E_iload (q := 5) rfl dL_law_842 ?_
  refine E_iconst (v := (5 : Int32)) rfl dL_law_844 ?_
  refine E_iadd dL_law_845 ?_
  obtain ⟨h124, hF⟩ := gd_inv hF
  refine E_sld rfl h124 dL_law_846 ?_
  refine E_aload_n (j := 0) (i := 0) (q := 0) rfl rfl dL_law_847 ?_
  refine E_iload (q := 5) rfl dL_law_848 ?_
  refine E_bipush (v := (6 : Int32)) rfl dL_law_850 ?_
  refine E_iadd dL_law_852 ?_
  obtain ⟨h125, hF⟩ := gd_inv hF
  refine E_sld rfl h125 dL_law_853 ?_
  refine E_aload_n (j := 3) (i := 3) (q := 3) rfl rfl dL_law_854 ?_
  obtain ⟨q126, h127, hF⟩ := bd_inv hF
  refine E_weak (kc' := (kcv + 7) + 1) (ks' := (ksv + 42) + 6) (by omega) (by omega) ?_
  refine E_callSH (na := 8) (As := [.ref 320, .int (xs (v5 + (1 : Int32)).toNatClampNeg), .int (xs (v5 + (2 : Int32)).toNatClampNeg), .int (xs (v5 + (3 : Int32)).toNatClampNeg), .int (xs (v5 + (4 : Int32)).toNatClampNeg), .int (xs (v5 + (5 : Int32)).toNatClampNeg), .int (xs (v5 + (6 : Int32)).toNatClampNeg), .ref 350]) (S := []) (kc := (kcv + 7)) (ks := (ksv + 42)) cwSH_RL_157 ⟨Nat.le_of_ble_eq_true rfl, Nat.le_of_ble_eq_true rfl⟩ (T_L_book hfl fl _ _ _ _ _ _ _ _ _ sh320 _ h127) rfl rfl rfl (Nat.le_of_ble_eq_true rfl) dL_law_855 ?_
  refine E_istore (L' := [(6, .int q126.1), (0, .ref 400), (1, .ref 320), (2, .ref 340), (3, .ref 350), (4, .ref 351), (5, .int v5)]) (Nat.le_of_ble_eq_true rfl) rfl dL_law_858 ?_
  refine E_aload_n (j := 2) (i := 2) (q := 3) rfl rfl dL_law_860 ?_
  refine E_aload_n (j := 0) (i := 0) (q := 1) rfl rfl dL_law_861 ?_
  refine E_iload (q := 6) rfl dL_law_862 ?_
  refine E_iconst (v := (1 : Int32)) rfl dL_law_864 ?_
  refine E_iadd dL_law_865 ?_
  obtain ⟨h128, hF⟩ := gd_inv hF
  refine E_sld rfl h128 dL_law_866 ?_
  refine E_aload_n (j := 0) (i := 0) (q := 1) rfl rfl dL_law_867 ?_
  refine E_iload (q := 6) rfl dL_law_868 ?_
  refine E_iconst (v := (2 : Int32)) rfl dL_law_870 ?_
  refine E_iadd dL_law_871 ?_
  obtain ⟨h129, hF⟩ := gd_inv hF
  refine E_sld rfl h129 dL_law_872 ?_
  refine E_aload_n (j := 0) (i := 0) (q := 1) rfl rfl dL_law_873 ?_
  refine E_iload (q := 6) rfl dL_law_874 ?_
  refine E_iconst (v := (3 : Int32)) rfl dL_law_876 ?_
  refine E_iadd dL_law_877 ?_
  obtain ⟨h130, hF⟩ := gd_inv hF
  refine E_sld rfl h130 dL_law_878 ?_
  refine E_aload_n (j := 0) (i := 0) (q := 1) rfl rfl dL_law_879 ?_
  refine E_iload (q := 6) rfl dL_law_880 ?_
  refine E_iconst (v := (4 : Int32)) rfl dL_law_882 ?_
  refine E_iadd dL_law_883 ?_
  obtain ⟨h131, hF⟩ := gd_inv hF
  refine E_sld rfl h131 dL_law_884 ?_
  refine E_aload_n (j := 0) (i := 0) (q := 1) rfl rfl dL_law_885 ?_
  refine E_iload (q := 6) rfl dL_law_886 ?_
  refine E_iconst (v := (5 : Int32)) rfl dL_law_888 ?_
  refine E_iadd dL_law_889 ?_
  obtain ⟨h132, hF⟩ := gd_inv hF
  refine E_sld rfl h132 dL_law_890 ?_
  refine E_aload_n (j := 0) (i := 0) (q := 1) rfl rfl dL_law_891 ?_
  refine E_iload (q := 6) rfl dL_law_892 ?_
  refine E_bipush (v := (6 : Int32)) rfl dL_law_894 ?_
  refine E_iadd dL_law_896 ?_
  obtain ⟨h133, hF⟩ := gd_inv hF
  refine E_sld rfl h133 dL_law_897 ?_
  obtain ⟨q134, h135, hF⟩ := bd_inv hF
  refine E_callV (na := 6) (As := [.int (xs (v5 + (1 : Int32)).toNatClampNeg), .int (xs (v5 + (2 : Int32)).toNatClampNeg), .int (xs (v5 + (3 : Int32)).toNatClampNeg), .int (xs (v5 + (4 : Int32)).toNatClampNeg), .int (xs (v5 + (5 : Int32)).toNatClampNeg), .int (xs (v5 + (6 : Int32)).toNatClampNeg)]) (S := []) (kc := (kcv + 7)) (ks := (ksv + 42)) (ci := 10) rfl rfl sh340 (by decide) cwV_RL_160 ⟨Nat.le_of_ble_eq_true rfl, Nat.le_of_ble_eq_true rfl⟩ (T_X8_book hfl fl _ _ _ _ _ _ _ _ sh340 _ h135) rfl rfl rfl (Nat.le_of_ble_eq_true rfl) dL_law_898 ?_
  refine E_istore (L' := [(7, .int q134.1), (6, .int q126.1), (0, .ref 400), (1, .ref 320), (2, .ref 340), (3, .ref 350), (4, .ref 351), (5, .int v5)]) (Nat.le_of_ble_eq_true rfl) rfl dL_law_901 ?_
  refine E_aload_n (j := 2) (i := 2) (q := 4) rfl rfl dL_law_903 ?_
  obtain ⟨q136, h137, hF⟩ := bd_inv hF
  refine E_callV (na := 0) (As := []) (S := []) (kc := (kcv + 7)) (ks := (ksv + 42)) (ci := 10) rfl rfl sh340 (by decide) cwV_RL_127 ⟨Nat.le_of_ble_eq_true rfl, Nat.le_of_ble_eq_true rfl⟩ (T_X8_thrown hfl fl _ _ sh340 _ h137) rfl rfl rfl (Nat.le_of_ble_eq_true rfl) dL_law_904 ?_
  refine E_iload (q := 1) rfl dL_law_907 ?_
  refine E_icmp_eq (tgt := 914) rfl dL_law_909 (fun c138 => ?_) (fun c138 => ?_)
  · have hF := ite_t hF c138
    refine E_iload (q := 1) rfl dL_law_914 ?_
    refine E_if_ne (tgt := 931) rfl dL_law_916 (fun c139 => ?_) (fun c139 => ?_)
    · have hF := ite_f hF c139
      refine E_goto (tgt := 2119) rfl dL_law_931 ?_
      refine E_iinc (q := 7) (v := (v5 + (7 : Int32))) (L' := [(5, .int (v5 + (7 : Int32))), (7, .int q134.1), (6, .int q126.1), (0, .ref 400), (1, .ref 320), (2, .ref 340), (3, .ref 350), (4, .ref 351)]) rfl rfl (Nat.le_of_ble_eq_true rfl) rfl dL_law_2119 ?_
      refine E_goto (tgt := 28) rfl dL_law_2122 ?_
      refine E_weak (kc' := kcv) (ks' := ksv) (by omega) (by omega) ?_
      refine E_sub [3, 4, 5, 6, 7, 0] rfl ?_
      exact hk28 _ _ hF
    · have hF := ite_t hF c139
      refine E_aload_n (j := 3) (i := 3) (q := 5) rfl rfl dL_law_919 ?_
      refine E_iconst (v := (0 : Int32)) rfl dL_law_920 ?_
      refine E_lald _ sh350 (by decide) (by decide : inR (0 : Int32) 1) dL_law_921 ?_
      refine E_iload (q := 0) rfl dL_law_922 ?_
      refine E_i2l dL_law_924 ?_
      refine E_lcmp dL_law_925 ?_
      refine E_if_eq (tgt := 931) rfl dL_law_926 (fun c140 => ?_) (fun c140 => ?_)
      · have hF := ite_t hF c140
        refine E_goto (tgt := 2119) rfl dL_law_931 ?_
        refine E_iinc (q := 7) (v := (v5 + (7 : Int32))) (L' := [(5, .int (v5 + (7 : Int32))), (7, .int q134.1), (6, .int q126.1), (0, .ref 400), (1, .ref 320), (2, .ref 340), (3, .ref 350), (4, .ref 351)]) rfl rfl (Nat.le_of_ble_eq_true rfl) rfl dL_law_2119 ?_
        refine E_goto (tgt := 28) rfl dL_law_2122 ?_
        refine E_weak (kc' := kcv) (ks' := ksv) (by omega) (by omega) ?_
        refine E_sub [3, 4, 5, 6, 7, 0] rfl ?_
        exact hk28 _ _ hF
      · have hF := ite_f hF c140
        refine E_iconst (v := (0 : Int32)) rfl dL_law_929 ?_
        exact absurd (Option.some.inj hF) (by decide)
  · have hF := ite_f hF c138
    refine E_iconst (v := (0 : Int32)) rfl dL_law_912 ?_
    exact absurd (Option.some.inj hF) (by decide)
set_option maxHeartbeats 8000000 in
set_option maxRecDepth 100000 in
theorem T_L_law_934 {l : Launch} (hfl : l.stackTraces = false) (fl : Nat) {Ln : Nat} {xs : Nat → Int32} {r : Rs} {kcv ksv : Nat} {k28 : Int32 → Mem → Option Int32} (hk28 : ∀ (v5 : Int32) (s : Mem), k28 v5 s = some 1 → E l (X_law Ln xs) r false NF s kcv ksv 28 [(0, .ref 400), (1, .ref 320), (2, .ref 340), (3, .ref 350), (4, .ref 351), (5, .int v5)] []) (v5 : Int32) (s : Mem) (hF : B_L_law_934 k28 fl xs Ln v5 s = some 1) : E l (X_law Ln xs) r false NF s (kcv + 8) (ksv + 48) 934 [(0, .ref 400), (1, .ref 320), (2, .ref 340), (3, .ref 350), (4, .ref 351), (5, .int v5)] [] := by
  unfold B_L_law_934 at hF
  refine E_aload_n (j := 1) (i := 1) (q := 1) rfl rfl dL_law_934 ?_
  refine E_aload_n (j := 0) (i := 0) (q := 0) rfl rfl dL_law_935 ?_
  refine E_iload (q := 5) rfl dL_law_936 ?_
  refine E_iconst (v := (1 : Int32)) rfl dL_law_938 ?_
  refine E_iadd dL_law_939 ?_
  obtain ⟨h141, hF⟩ := gd_inv hF
  refine E_sld rfl h141 dL_law_940 ?_
  refine E_i2c dL_law_941 ?_
  obtain ⟨q142, h143, hF⟩ := bd_inv hF
  refine E_weak (kc' := (kcv + 7) + 1) (ks' := (ksv + 42) + 6) (by omega) (by omega) ?_
  refine E_callSH (na := 2) (As := [.ref 320, .int ((Int32.toUInt32 (xs (v5 + (1 : Int32)).toNatClampNeg) % 65536).toInt32)]) (S := []) (kc := (kcv + 7)) (ks := (ksv + 42)) cwSH_RL_161 ⟨Nat.le_of_ble_eq_true rfl, Nat.le_of_ble_eq_true rfl⟩ (T_L_append hfl fl _ _ _ sh320 _ h143) rfl rfl rfl (Nat.le_of_ble_eq_true rfl) dL_law_942 ?_
  refine E_istore (L' := [(6, .int q142.1), (0, .ref 400), (1, .ref 320), (2, .ref 340), (3, .ref 350), (4, .ref 351), (5, .int v5)]) (Nat.le_of_ble_eq_true rfl) rfl dL_law_945 ?_
  refine E_aload_n (j := 2) (i := 2) (q := 3) rfl rfl dL_law_947 ?_
  refine E_aload_n (j := 0) (i := 0) (q := 1) rfl rfl dL_law_948 ?_
  refine E_iload (q := 6) rfl dL_law_949 ?_
  refine E_iconst (v := (1 : Int32)) rfl dL_law_951 ?_
  refine E_iadd dL_law_952 ?_
  obtain ⟨h144, hF⟩ := gd_inv hF
  refine E_sld rfl h144 dL_law_953 ?_
  refine E_i2c dL_law_954 ?_
  obtain ⟨q145, h146, hF⟩ := bd_inv hF
  refine E_callV (na := 1) (As := [.int ((Int32.toUInt32 (xs (v5 + (1 : Int32)).toNatClampNeg) % 65536).toInt32)]) (S := []) (kc := (kcv + 7)) (ks := (ksv + 42)) (ci := 10) rfl rfl sh340 (by decide) cwV_RL_164 ⟨Nat.le_of_ble_eq_true rfl, Nat.le_of_ble_eq_true rfl⟩ (T_X8_append hfl fl _ _ _ sh340 _ h146) rfl rfl rfl (Nat.le_of_ble_eq_true rfl) dL_law_955 ?_
  refine E_aload_n (j := 2) (i := 2) (q := 3) rfl rfl dL_law_958 ?_
  obtain ⟨q147, h148, hF⟩ := bd_inv hF
  refine E_callV (na := 0) (As := []) (S := []) (kc := (kcv + 7)) (ks := (ksv + 42)) (ci := 10) rfl rfl sh340 (by decide) cwV_RL_127 ⟨Nat.le_of_ble_eq_true rfl, Nat.le_of_ble_eq_true rfl⟩ (T_X8_thrown hfl fl _ _ sh340 _ h148) rfl rfl rfl (Nat.le_of_ble_eq_true rfl) dL_law_959 ?_
  refine E_iload (q := 0) rfl dL_law_962 ?_
  refine E_icmp_eq (tgt := 969) rfl dL_law_964 (fun c149 => ?_) (fun c149 => ?_)
  · have hF := ite_t hF c149
    refine E_goto (tgt := 2119) rfl dL_law_969 ?_
    refine E_iinc (q := 6) (v := (v5 + (7 : Int32))) (L' := [(5, .int (v5 + (7 : Int32))), (6, .int q142.1), (0, .ref 400), (1, .ref 320), (2, .ref 340), (3, .ref 350), (4, .ref 351)]) rfl rfl (Nat.le_of_ble_eq_true rfl) rfl dL_law_2119 ?_
    refine E_goto (tgt := 28) rfl dL_law_2122 ?_
    refine E_weak (kc' := kcv) (ks' := ksv) (by omega) (by omega) ?_
    refine E_sub [2, 3, 4, 5, 6, 0] rfl ?_
    exact hk28 _ _ hF
  · have hF := ite_f hF c149
    refine E_iconst (v := (0 : Int32)) rfl dL_law_967 ?_
    exact absurd (Option.some.inj hF) (by decide)
set_option maxHeartbeats 8000000 in
set_option maxRecDepth 100000 in
theorem T_L_law_972 {l : Launch} (hfl : l.stackTraces = false) (fl : Nat) {Ln : Nat} {xs : Nat → Int32} {r : Rs} {kcv ksv : Nat} {k28 : Int32 → Mem → Option Int32} (hk28 : ∀ (v5 : Int32) (s : Mem), k28 v5 s = some 1 → E l (X_law Ln xs) r false NF s kcv ksv 28 [(0, .ref 400), (1, .ref 320), (2, .ref 340), (3, .ref 350), (4, .ref 351), (5, .int v5)] []) (v5 : Int32) (s : Mem) (hF : B_L_law_972 k28 fl xs Ln v5 s = some 1) : E l (X_law Ln xs) r false NF s (kcv + 8) (ksv + 48) 972 [(0, .ref 400), (1, .ref 320), (2, .ref 340), (3, .ref 350), (4, .ref 351), (5, .int v5)] [] := by
  unfold B_L_law_972 at hF
  refine E_aload_n (j := 1) (i := 1) (q := 1) rfl rfl dL_law_972 ?_
  refine E_aload_n (j := 3) (i := 3) (q := 3) rfl rfl dL_law_973 ?_
  obtain ⟨q150, h151, hF⟩ := bd_inv hF
  refine E_weak (kc' := (kcv + 7) + 1) (ks' := (ksv + 42) + 6) (by omega) (by omega) ?_
  refine E_callSH (na := 2) (As := [.ref 320, .ref 350]) (S := []) (kc := (kcv + 7)) (ks := (ksv + 42)) cwSH_RL_165 ⟨Nat.le_of_ble_eq_true rfl, Nat.le_of_ble_eq_true rfl⟩ (T_L_readBooking hfl fl _ _ _ sh320 _ h151) rfl rfl rfl (Nat.le_of_ble_eq_true rfl) dL_law_974 ?_
  refine E_istore (L' := [(6, .int q150.1), (0, .ref 400), (1, .ref 320), (2, .ref 340), (3, .ref 350), (4, .ref 351), (5, .int v5)]) (Nat.le_of_ble_eq_true rfl) rfl dL_law_977 ?_
  refine E_aload_n (j := 2) (i := 2) (q := 3) rfl rfl dL_law_979 ?_
  obtain ⟨q152, h153, hF⟩ := bd_inv hF
  refine E_callV (na := 0) (As := []) (S := []) (kc := (kcv + 7)) (ks := (ksv + 42)) (ci := 10) rfl rfl sh340 (by decide) cwV_RL_168 ⟨Nat.le_of_ble_eq_true rfl, Nat.le_of_ble_eq_true rfl⟩ (T_X8_readBooking hfl fl _ _ sh340 _ h153) rfl rfl rfl (Nat.le_of_ble_eq_true rfl) dL_law_980 ?_
  refine E_istore (L' := [(7, .int q152.1), (6, .int q150.1), (0, .ref 400), (1, .ref 320), (2, .ref 340), (3, .ref 350), (4, .ref 351), (5, .int v5)]) (Nat.le_of_ble_eq_true rfl) rfl dL_law_983 ?_
  refine E_aload_n (j := 2) (i := 2) (q := 4) rfl rfl dL_law_985 ?_
  obtain ⟨q154, h155, hF⟩ := bd_inv hF
  refine E_callV (na := 0) (As := []) (S := []) (kc := (kcv + 7)) (ks := (ksv + 42)) (ci := 10) rfl rfl sh340 (by decide) cwV_RL_127 ⟨Nat.le_of_ble_eq_true rfl, Nat.le_of_ble_eq_true rfl⟩ (T_X8_thrown hfl fl _ _ sh340 _ h155) rfl rfl rfl (Nat.le_of_ble_eq_true rfl) dL_law_986 ?_
  refine E_iload (q := 1) rfl dL_law_989 ?_
  refine E_icmp_eq (tgt := 996) rfl dL_law_991 (fun c156 => ?_) (fun c156 => ?_)
  · have hF := ite_t hF c156
    refine E_iload (q := 1) rfl dL_law_996 ?_
    refine E_if_ne (tgt := 1013) rfl dL_law_998 (fun c157 => ?_) (fun c157 => ?_)
    · have hF := ite_f hF c157
      refine E_goto (tgt := 2119) rfl dL_law_1013 ?_
      refine E_iinc (q := 7) (v := (v5 + (7 : Int32))) (L' := [(5, .int (v5 + (7 : Int32))), (7, .int q152.1), (6, .int q150.1), (0, .ref 400), (1, .ref 320), (2, .ref 340), (3, .ref 350), (4, .ref 351)]) rfl rfl (Nat.le_of_ble_eq_true rfl) rfl dL_law_2119 ?_
      refine E_goto (tgt := 28) rfl dL_law_2122 ?_
      refine E_weak (kc' := kcv) (ks' := ksv) (by omega) (by omega) ?_
      refine E_sub [3, 4, 5, 6, 7, 0] rfl ?_
      exact hk28 _ _ hF
    · have hF := ite_t hF c157
      refine E_aload_n (j := 3) (i := 3) (q := 5) rfl rfl dL_law_1001 ?_
      refine E_iconst (v := (0 : Int32)) rfl dL_law_1002 ?_
      refine E_lald _ sh350 (by decide) (by decide : inR (0 : Int32) 1) dL_law_1003 ?_
      refine E_iload (q := 0) rfl dL_law_1004 ?_
      refine E_i2l dL_law_1006 ?_
      refine E_lcmp dL_law_1007 ?_
      refine E_if_eq (tgt := 1013) rfl dL_law_1008 (fun c158 => ?_) (fun c158 => ?_)
      · have hF := ite_t hF c158
        refine E_goto (tgt := 2119) rfl dL_law_1013 ?_
        refine E_iinc (q := 7) (v := (v5 + (7 : Int32))) (L' := [(5, .int (v5 + (7 : Int32))), (7, .int q152.1), (6, .int q150.1), (0, .ref 400), (1, .ref 320), (2, .ref 340), (3, .ref 350), (4, .ref 351)]) rfl rfl (Nat.le_of_ble_eq_true rfl) rfl dL_law_2119 ?_
        refine E_goto (tgt := 28) rfl dL_law_2122 ?_
        refine E_weak (kc' := kcv) (ks' := ksv) (by omega) (by omega) ?_
        refine E_sub [3, 4, 5, 6, 7, 0] rfl ?_
        exact hk28 _ _ hF
      · have hF := ite_f hF c158
        refine E_iconst (v := (0 : Int32)) rfl dL_law_1011 ?_
        exact absurd (Option.some.inj hF) (by decide)
  · have hF := ite_f hF c156
    refine E_iconst (v := (0 : Int32)) rfl dL_law_994 ?_
    exact absurd (Option.some.inj hF) (by decide)
set_option maxHeartbeats 8000000 in
set_option maxRecDepth 100000 in
theorem T_L_law_1016 {l : Launch} (hfl : l.stackTraces = false) (fl : Nat) {Ln : Nat} {xs : Nat → Int32} {r : Rs} {kcv ksv : Nat} {k28 : Int32 → Mem → Option Int32} (hk28 : ∀ (v5 : Int32) (s : Mem), k28 v5 s = some 1 → E l (X_law Ln xs) r false NF s kcv ksv 28 [(0, .ref 400), (1, .ref 320), (2, .ref 340), (3, .ref 350), (4, .ref 351), (5, .int v5)] []) (v5 : Int32) (s : Mem) (hF : B_L_law_1016 k28 fl xs Ln v5 s = some 1) : E l (X_law Ln xs) r false NF s (kcv + 8) (ksv + 48) 1016 [(0, .ref 400), (1, .ref 320), (2, .ref 340), (3, .ref 350), (4, .ref 351), (5, .int v5)] [] := by
  unfold B_L_law_1016 at hF
  refine E_aload_n (j := 1) (i := 1) (q := 1) rfl rfl dL_law_1016 ?_
  obtain ⟨q159, h160, hF⟩ := bd_inv hF
  refine E_callV (na := 0) (As := []) (S := []) (kc := (kcv + 8)) (ks := (ksv + 48)) (ci := 9) rfl rfl sh320 (by decide) cwV_RL_169 ⟨Nat.le_of_ble_eq_true rfl, Nat.le_of_ble_eq_true rfl⟩ (T_X7_faultPosition hfl fl _ _ sh320 _ h160) rfl rfl rfl (Nat.le_of_ble_eq_true rfl) dL_law_1017 ?_
  refine E_aload_n (j := 2) (i := 2) (q := 2) rfl rfl dL_law_1020 ?_
  obtain ⟨q161, h162, hF⟩ := bd_inv hF
  refine E_callV (na := 0) (As := []) (S := [.int q159]) (kc := (kcv + 8)) (ks := (ksv + 48)) (ci := 10) rfl rfl sh340 (by decide) cwV_RL_172 ⟨Nat.le_of_ble_eq_true rfl, Nat.le_of_ble_eq_true rfl⟩ (T_X8_faultPosition hfl fl _ _ sh340 _ h162) rfl rfl rfl (Nat.le_of_ble_eq_true rfl) dL_law_1021 ?_
  refine E_icmp_eq (tgt := 2119) rfl dL_law_1024 (fun c163 => ?_) (fun c163 => ?_)
  · have hF := ite_t hF c163
    refine E_iinc (q := 5) (v := (v5 + (7 : Int32))) (L' := [(5, .int (v5 + (7 : Int32))), (0, .ref 400), (1, .ref 320), (2, .ref 340), (3, .ref 350), (4, .ref 351)]) rfl rfl (Nat.le_of_ble_eq_true rfl) rfl dL_law_2119 ?_
    refine E_goto (tgt := 28) rfl dL_law_2122 ?_
    refine E_weak (kc' := kcv) (ks' := ksv) (by omega) (by omega) ?_
    refine E_sub [1, 2, 3, 4, 5, 0] rfl ?_
    exact hk28 _ _ hF
  · have hF := ite_f hF c163
    refine E_iconst (v := (0 : Int32)) rfl dL_law_1027 ?_
    exact absurd (Option.some.inj hF) (by decide)
set_option maxHeartbeats 8000000 in
set_option maxRecDepth 100000 in
theorem T_L_law_1029 {l : Launch} (hfl : l.stackTraces = false) (fl : Nat) {Ln : Nat} {xs : Nat → Int32} {r : Rs} {kcv ksv : Nat} {k28 : Int32 → Mem → Option Int32} (hk28 : ∀ (v5 : Int32) (s : Mem), k28 v5 s = some 1 → E l (X_law Ln xs) r false NF s kcv ksv 28 [(0, .ref 400), (1, .ref 320), (2, .ref 340), (3, .ref 350), (4, .ref 351), (5, .int v5)] []) (v5 : Int32) (s : Mem) (hF : B_L_law_1029 k28 fl xs Ln v5 s = some 1) : E l (X_law Ln xs) r false NF s (kcv + 8) (ksv + 48) 1029 [(0, .ref 400), (1, .ref 320), (2, .ref 340), (3, .ref 350), (4, .ref 351), (5, .int v5)] [] := by
  unfold B_L_law_1029 at hF
  refine E_aload_n (j := 1) (i := 1) (q := 1) rfl rfl dL_law_1029 ?_
  refine E_aload_n (j := 3) (i := 3) (q := 3) rfl rfl dL_law_1030 ?_
  obtain ⟨q164, h165, hF⟩ := bd_inv hF
  refine E_weak (kc' := (kcv + 7) + 1) (ks' := (ksv + 42) + 6) (by omega) (by omega) ?_
  refine E_callSH (na := 2) (As := [.ref 320, .ref 350]) (S := []) (kc := (kcv + 7)) (ks := (ksv + 42)) cwSH_RL_173 ⟨Nat.le_of_ble_eq_true rfl, Nat.le_of_ble_eq_true rfl⟩ (T_L_refusal hfl fl _ _ _ sh320 _ h165) rfl rfl rfl (Nat.le_of_ble_eq_true rfl) dL_law_1031 ?_
  refine E_istore (L' := [(6, .int q164.1), (0, .ref 400), (1, .ref 320), (2, .ref 340), (3, .ref 350), (4, .ref 351), (5, .int v5)]) (Nat.le_of_ble_eq_true rfl) rfl dL_law_1034 ?_
  refine E_aload_n (j := 2) (i := 2) (q := 3) rfl rfl dL_law_1036 ?_
  obtain ⟨q166, h167, hF⟩ := bd_inv hF
  refine E_callV (na := 0) (As := []) (S := []) (kc := (kcv + 7)) (ks := (ksv + 42)) (ci := 10) rfl rfl sh340 (by decide) cwV_RL_175 ⟨Nat.le_of_ble_eq_true rfl, Nat.le_of_ble_eq_true rfl⟩ (T_X8_refusal hfl fl _ _ sh340 _ h167) rfl rfl rfl (Nat.le_of_ble_eq_true rfl) dL_law_1037 ?_
  refine E_istore (L' := [(7, .int q166.1), (6, .int q164.1), (0, .ref 400), (1, .ref 320), (2, .ref 340), (3, .ref 350), (4, .ref 351), (5, .int v5)]) (Nat.le_of_ble_eq_true rfl) rfl dL_law_1040 ?_
  refine E_aload_n (j := 2) (i := 2) (q := 4) rfl rfl dL_law_1042 ?_
  obtain ⟨q168, h169, hF⟩ := bd_inv hF
  refine E_callV (na := 0) (As := []) (S := []) (kc := (kcv + 7)) (ks := (ksv + 42)) (ci := 10) rfl rfl sh340 (by decide) cwV_RL_127 ⟨Nat.le_of_ble_eq_true rfl, Nat.le_of_ble_eq_true rfl⟩ (T_X8_thrown hfl fl _ _ sh340 _ h169) rfl rfl rfl (Nat.le_of_ble_eq_true rfl) dL_law_1043 ?_
  refine E_iload (q := 1) rfl dL_law_1046 ?_
  refine E_icmp_eq (tgt := 1053) rfl dL_law_1048 (fun c170 => ?_) (fun c170 => ?_)
  · have hF := ite_t hF c170
    refine E_iload (q := 1) rfl dL_law_1053 ?_
    refine E_if_ne (tgt := 1070) rfl dL_law_1055 (fun c171 => ?_) (fun c171 => ?_)
    · have hF := ite_f hF c171
      refine E_goto (tgt := 2119) rfl dL_law_1070 ?_
      refine E_iinc (q := 7) (v := (v5 + (7 : Int32))) (L' := [(5, .int (v5 + (7 : Int32))), (7, .int q166.1), (6, .int q164.1), (0, .ref 400), (1, .ref 320), (2, .ref 340), (3, .ref 350), (4, .ref 351)]) rfl rfl (Nat.le_of_ble_eq_true rfl) rfl dL_law_2119 ?_
      refine E_goto (tgt := 28) rfl dL_law_2122 ?_
      refine E_weak (kc' := kcv) (ks' := ksv) (by omega) (by omega) ?_
      refine E_sub [3, 4, 5, 6, 7, 0] rfl ?_
      exact hk28 _ _ hF
    · have hF := ite_t hF c171
      refine E_aload_n (j := 3) (i := 3) (q := 5) rfl rfl dL_law_1058 ?_
      refine E_iconst (v := (0 : Int32)) rfl dL_law_1059 ?_
      refine E_lald _ sh350 (by decide) (by decide : inR (0 : Int32) 1) dL_law_1060 ?_
      refine E_iload (q := 0) rfl dL_law_1061 ?_
      refine E_i2l dL_law_1063 ?_
      refine E_lcmp dL_law_1064 ?_
      refine E_if_eq (tgt := 1070) rfl dL_law_1065 (fun c172 => ?_) (fun c172 => ?_)
      · have hF := ite_t hF c172
        refine E_goto (tgt := 2119) rfl dL_law_1070 ?_
        refine E_iinc (q := 7) (v := (v5 + (7 : Int32))) (L' := [(5, .int (v5 + (7 : Int32))), (7, .int q166.1), (6, .int q164.1), (0, .ref 400), (1, .ref 320), (2, .ref 340), (3, .ref 350), (4, .ref 351)]) rfl rfl (Nat.le_of_ble_eq_true rfl) rfl dL_law_2119 ?_
        refine E_goto (tgt := 28) rfl dL_law_2122 ?_
        refine E_weak (kc' := kcv) (ks' := ksv) (by omega) (by omega) ?_
        refine E_sub [3, 4, 5, 6, 7, 0] rfl ?_
        exact hk28 _ _ hF
      · have hF := ite_f hF c172
        refine E_iconst (v := (0 : Int32)) rfl dL_law_1068 ?_
        exact absurd (Option.some.inj hF) (by decide)
  · have hF := ite_f hF c170
    refine E_iconst (v := (0 : Int32)) rfl dL_law_1051 ?_
    exact absurd (Option.some.inj hF) (by decide)
set_option maxHeartbeats 8000000 in
set_option maxRecDepth 100000 in
theorem T_L_law_1073 {l : Launch} (hfl : l.stackTraces = false) (fl : Nat) {Ln : Nat} {xs : Nat → Int32} {r : Rs} {kcv ksv : Nat} {k28 : Int32 → Mem → Option Int32} (hk28 : ∀ (v5 : Int32) (s : Mem), k28 v5 s = some 1 → E l (X_law Ln xs) r false NF s kcv ksv 28 [(0, .ref 400), (1, .ref 320), (2, .ref 340), (3, .ref 350), (4, .ref 351), (5, .int v5)] []) (v5 : Int32) (s : Mem) (hF : B_L_law_1073 k28 fl xs Ln v5 s = some 1) : E l (X_law Ln xs) r false NF s (kcv + 8) (ksv + 48) 1073 [(0, .ref 400), (1, .ref 320), (2, .ref 340), (3, .ref 350), (4, .ref 351), (5, .int v5)] [] := by
  unfold B_L_law_1073 at hF
  refine E_aload_n (j := 1) (i := 1) (q := 1) rfl rfl dL_law_1073 ?_
  refine E_aload_n (j := 0) (i := 0) (q := 0) rfl rfl dL_law_1074 ?_
  refine E_iload (q := 5) rfl dL_law_1075 ?_
  refine E_iconst (v := (1 : Int32)) rfl dL_law_1077 ?_
  refine E_iadd dL_law_1078 ?_
  obtain ⟨h173, hF⟩ := gd_inv hF
  refine E_sld rfl h173 dL_law_1079 ?_
  refine E_aload_n (j := 0) (i := 0) (q := 0) rfl rfl dL_law_1080 ?_
  refine E_iload (q := 5) rfl dL_law_1081 ?_
  refine E_iconst (v := (2 : Int32)) rfl dL_law_1083 ?_
  refine E_iadd dL_law_1084 ?_
  obtain ⟨h174, hF⟩ := gd_inv hF
  refine E_sld rfl h174 dL_law_1085 ?_
  refine E_aload_n (j := 3) (i := 3) (q := 3) rfl rfl dL_law_1086 ?_
  obtain ⟨q175, h176, hF⟩ := bd_inv hF
  refine E_weak (kc' := (kcv + 6) + 2) (ks' := (ksv + 36) + 12) (by omega) (by omega) ?_
  refine E_callSH (na := 4) (As := [.ref 320, .int (xs (v5 + (1 : Int32)).toNatClampNeg), .int (xs (v5 + (2 : Int32)).toNatClampNeg), .ref 350]) (S := []) (kc := (kcv + 6)) (ks := (ksv + 36)) cwSH_RL_176 ⟨Nat.le_of_ble_eq_true rfl, Nat.le_of_ble_eq_true rfl⟩ (T_L_party hfl fl _ _ _ _ _ sh320 _ h176) rfl rfl rfl (Nat.le_of_ble_eq_true rfl) dL_law_1087 ?_
  refine E_istore (L' := [(6, .int q175.1), (0, .ref 400), (1, .ref 320), (2, .ref 340), (3, .ref 350), (4, .ref 351), (5, .int v5)]) (Nat.le_of_ble_eq_true rfl) rfl dL_law_1090 ?_
  refine E_aload_n (j := 2) (i := 2) (q := 3) rfl rfl dL_law_1092 ?_
  refine E_aload_n (j := 0) (i := 0) (q := 1) rfl rfl dL_law_1093 ?_
  refine E_iload (q := 6) rfl dL_law_1094 ?_
  refine E_iconst (v := (1 : Int32)) rfl dL_law_1096 ?_
  refine E_iadd dL_law_1097 ?_
  obtain ⟨h177, hF⟩ := gd_inv hF
  refine E_sld rfl h177 dL_law_1098 ?_
  refine E_aload_n (j := 0) (i := 0) (q := 1) rfl rfl dL_law_1099 ?_
  refine E_iload (q := 6) rfl dL_law_1100 ?_
  refine E_iconst (v := (2 : Int32)) rfl dL_law_1102 ?_
  refine E_iadd dL_law_1103 ?_
  obtain ⟨h178, hF⟩ := gd_inv hF
  refine E_sld rfl h178 dL_law_1104 ?_
  obtain ⟨q179, h180, hF⟩ := bd_inv hF
  refine E_callV (na := 2) (As := [.int (xs (v5 + (1 : Int32)).toNatClampNeg), .int (xs (v5 + (2 : Int32)).toNatClampNeg)]) (S := []) (kc := (kcv + 6)) (ks := (ksv + 36)) (ci := 10) rfl rfl sh340 (by decide) cwV_RL_178 ⟨Nat.le_of_ble_eq_true rfl, Nat.le_of_ble_eq_true rfl⟩ (T_X8_party hfl fl _ _ _ _ sh340 _ h180) rfl rfl rfl (Nat.le_of_ble_eq_true rfl) dL_law_1105 ?_
  refine E_istore (L' := [(7, .int q179.1), (6, .int q175.1), (0, .ref 400), (1, .ref 320), (2, .ref 340), (3, .ref 350), (4, .ref 351), (5, .int v5)]) (Nat.le_of_ble_eq_true rfl) rfl dL_law_1108 ?_
  refine E_aload_n (j := 2) (i := 2) (q := 4) rfl rfl dL_law_1110 ?_
  obtain ⟨q181, h182, hF⟩ := bd_inv hF
  refine E_callV (na := 0) (As := []) (S := []) (kc := (kcv + 6)) (ks := (ksv + 36)) (ci := 10) rfl rfl sh340 (by decide) cwV_RL_127 ⟨Nat.le_of_ble_eq_true rfl, Nat.le_of_ble_eq_true rfl⟩ (T_X8_thrown hfl fl _ _ sh340 _ h182) rfl rfl rfl (Nat.le_of_ble_eq_true rfl) dL_law_1111 ?_
  refine E_iload (q := 1) rfl dL_law_1114 ?_
  refine E_icmp_eq (tgt := 1121) rfl dL_law_1116 (fun c183 => ?_) (fun c183 => ?_)
  · have hF := ite_t hF c183
    refine E_iload (q := 1) rfl dL_law_1121 ?_
    refine E_if_ne (tgt := 1138) rfl dL_law_1123 (fun c184 => ?_) (fun c184 => ?_)
    · have hF := ite_f hF c184
      refine E_goto (tgt := 2119) rfl dL_law_1138 ?_
      refine E_iinc (q := 7) (v := (v5 + (7 : Int32))) (L' := [(5, .int (v5 + (7 : Int32))), (7, .int q179.1), (6, .int q175.1), (0, .ref 400), (1, .ref 320), (2, .ref 340), (3, .ref 350), (4, .ref 351)]) rfl rfl (Nat.le_of_ble_eq_true rfl) rfl dL_law_2119 ?_
      refine E_goto (tgt := 28) rfl dL_law_2122 ?_
      refine E_weak (kc' := kcv) (ks' := ksv) (by omega) (by omega) ?_
      refine E_sub [3, 4, 5, 6, 7, 0] rfl ?_
      exact hk28 _ _ hF
    · have hF := ite_t hF c184
      refine E_aload_n (j := 3) (i := 3) (q := 5) rfl rfl dL_law_1126 ?_
      refine E_iconst (v := (0 : Int32)) rfl dL_law_1127 ?_
      refine E_lald _ sh350 (by decide) (by decide : inR (0 : Int32) 1) dL_law_1128 ?_
      refine E_iload (q := 0) rfl dL_law_1129 ?_
      refine E_i2l dL_law_1131 ?_
      refine E_lcmp dL_law_1132 ?_
      refine E_if_eq (tgt := 1138) rfl dL_law_1133 (fun c185 => ?_) (fun c185 => ?_)
      · have hF := ite_t hF c185
        refine E_goto (tgt := 2119) rfl dL_law_1138 ?_
        refine E_iinc (q := 7) (v := (v5 + (7 : Int32))) (L' := [(5, .int (v5 + (7 : Int32))), (7, .int q179.1), (6, .int q175.1), (0, .ref 400), (1, .ref 320), (2, .ref 340), (3, .ref 350), (4, .ref 351)]) rfl rfl (Nat.le_of_ble_eq_true rfl) rfl dL_law_2119 ?_
        refine E_goto (tgt := 28) rfl dL_law_2122 ?_
        refine E_weak (kc' := kcv) (ks' := ksv) (by omega) (by omega) ?_
        refine E_sub [3, 4, 5, 6, 7, 0] rfl ?_
        exact hk28 _ _ hF
      · have hF := ite_f hF c185
        refine E_iconst (v := (0 : Int32)) rfl dL_law_1136 ?_
        exact absurd (Option.some.inj hF) (by decide)
  · have hF := ite_f hF c183
    refine E_iconst (v := (0 : Int32)) rfl dL_law_1119 ?_
    exact absurd (Option.some.inj hF) (by decide)
set_option maxHeartbeats 8000000 in
set_option maxRecDepth 100000 in
theorem T_L_law_1141 {l : Launch} (hfl : l.stackTraces = false) (fl : Nat) {Ln : Nat} {xs : Nat → Int32} {r : Rs} {kcv ksv : Nat} {k28 : Int32 → Mem → Option Int32} (hk28 : ∀ (v5 : Int32) (s : Mem), k28 v5 s = some 1 → E l (X_law Ln xs) r false NF s kcv ksv 28 [(0, .ref 400), (1, .ref 320), (2, .ref 340), (3, .ref 350), (4, .ref 351), (5, .int v5)] []) (v5 : Int32) (s : Mem) (hF : B_L_law_1141 k28 fl xs Ln v5 s = some 1) : E l (X_law Ln xs) r false NF s (kcv + 8) (ksv + 48) 1141 [(0, .ref 400), (1, .ref 320), (2, .ref 340), (3, .ref 350), (4, .ref 351), (5, .int v5)] [] := by
  unfold B_L_law_1141 at hF
  refine E_aload_n (j := 1) (i := 1) (q := 1) rfl rfl dL_law_1141 ?_
  obtain ⟨q186, h187, hF⟩ := bd_inv hF
  refine E_callV (na := 0) (As := []) (S := []) (kc := (kcv + 8)) (ks := (ksv + 48)) (ci := 9) rfl rfl sh320 (by decide) cwV_RL_179 ⟨Nat.le_of_ble_eq_true rfl, Nat.le_of_ble_eq_true rfl⟩ (T_X7_moves hfl fl _ _ sh320 _ h187) rfl rfl rfl (Nat.le_of_ble_eq_true rfl) dL_law_1142 ?_
  refine E_aload_n (j := 2) (i := 2) (q := 2) rfl rfl dL_law_1145 ?_
  obtain ⟨q188, h189, hF⟩ := bd_inv hF
  refine E_callV (na := 0) (As := []) (S := [.int q186]) (kc := (kcv + 8)) (ks := (ksv + 48)) (ci := 10) rfl rfl sh340 (by decide) cwV_RL_182 ⟨Nat.le_of_ble_eq_true rfl, Nat.le_of_ble_eq_true rfl⟩ (T_X8_moves hfl fl _ _ sh340 _ h189) rfl rfl rfl (Nat.le_of_ble_eq_true rfl) dL_law_1146 ?_
  refine E_icmp_eq (tgt := 2119) rfl dL_law_1149 (fun c190 => ?_) (fun c190 => ?_)
  · have hF := ite_t hF c190
    refine E_iinc (q := 5) (v := (v5 + (7 : Int32))) (L' := [(5, .int (v5 + (7 : Int32))), (0, .ref 400), (1, .ref 320), (2, .ref 340), (3, .ref 350), (4, .ref 351)]) rfl rfl (Nat.le_of_ble_eq_true rfl) rfl dL_law_2119 ?_
    refine E_goto (tgt := 28) rfl dL_law_2122 ?_
    refine E_weak (kc' := kcv) (ks' := ksv) (by omega) (by omega) ?_
    refine E_sub [1, 2, 3, 4, 5, 0] rfl ?_
    exact hk28 _ _ hF
  · have hF := ite_f hF c190
    refine E_iconst (v := (0 : Int32)) rfl dL_law_1152 ?_
    exact absurd (Option.some.inj hF) (by decide)
set_option maxHeartbeats 8000000 in
set_option maxRecDepth 100000 in
theorem T_L_law_1154 {l : Launch} (hfl : l.stackTraces = false) (fl : Nat) {Ln : Nat} {xs : Nat → Int32} {r : Rs} {kcv ksv : Nat} {k28 : Int32 → Mem → Option Int32} (hk28 : ∀ (v5 : Int32) (s : Mem), k28 v5 s = some 1 → E l (X_law Ln xs) r false NF s kcv ksv 28 [(0, .ref 400), (1, .ref 320), (2, .ref 340), (3, .ref 350), (4, .ref 351), (5, .int v5)] []) (v5 : Int32) (s : Mem) (hF : B_L_law_1154 k28 fl xs Ln v5 s = some 1) : E l (X_law Ln xs) r false NF s (kcv + 8) (ksv + 48) 1154 [(0, .ref 400), (1, .ref 320), (2, .ref 340), (3, .ref 350), (4, .ref 351), (5, .int v5)] [] := by
  unfold B_L_law_1154 at hF
  refine E_aload_n (j := 1) (i := 1) (q := 1) rfl rfl dL_law_1154 ?_
  refine E_aload_n (j := 0) (i := 0) (q := 0) rfl rfl dL_law_1155 ?_
  refine E_iload (q := 5) rfl dL_law_1156 ?_
  refine E_iconst (v := (1 : Int32)) rfl dL_law_1158 ?_
  refine E_iadd dL_law_1159 ?_
  obtain ⟨h191, hF⟩ := gd_inv hF
  refine E_sld rfl h191 dL_law_1160 ?_
  refine E_aload_n (j := 0) (i := 0) (q := 0) rfl rfl dL_law_1161 ?_
  refine E_iload (q := 5) rfl dL_law_1162 ?_
  refine E_iconst (v := (2 : Int32)) rfl dL_law_1164 ?_
  refine E_iadd dL_law_1165 ?_
  obtain ⟨h192, hF⟩ := gd_inv hF
  refine E_sld rfl h192 dL_law_1166 ?_
  refine E_aload_n (j := 3) (i := 3) (q := 3) rfl rfl dL_law_1167 ?_
  obtain ⟨q193, h194, hF⟩ := bd_inv hF
  refine E_weak (kc' := (kcv + 7) + 1) (ks' := (ksv + 42) + 6) (by omega) (by omega) ?_
  refine E_callSH (na := 4) (As := [.ref 320, .int (xs (v5 + (1 : Int32)).toNatClampNeg), .int (xs (v5 + (2 : Int32)).toNatClampNeg), .ref 350]) (S := []) (kc := (kcv + 7)) (ks := (ksv + 42)) cwSH_RL_183 ⟨Nat.le_of_ble_eq_true rfl, Nat.le_of_ble_eq_true rfl⟩ (T_L_moveOf hfl fl _ _ _ _ _ sh320 _ h194) rfl rfl rfl (Nat.le_of_ble_eq_true rfl) dL_law_1168 ?_
  refine E_istore (L' := [(6, .int q193.1), (0, .ref 400), (1, .ref 320), (2, .ref 340), (3, .ref 350), (4, .ref 351), (5, .int v5)]) (Nat.le_of_ble_eq_true rfl) rfl dL_law_1171 ?_
  refine E_aload_n (j := 2) (i := 2) (q := 3) rfl rfl dL_law_1173 ?_
  refine E_aload_n (j := 0) (i := 0) (q := 1) rfl rfl dL_law_1174 ?_
  refine E_iload (q := 6) rfl dL_law_1175 ?_
  refine E_iconst (v := (1 : Int32)) rfl dL_law_1177 ?_
  refine E_iadd dL_law_1178 ?_
  obtain ⟨h195, hF⟩ := gd_inv hF
  refine E_sld rfl h195 dL_law_1179 ?_
  refine E_aload_n (j := 0) (i := 0) (q := 1) rfl rfl dL_law_1180 ?_
  refine E_iload (q := 6) rfl dL_law_1181 ?_
  refine E_iconst (v := (2 : Int32)) rfl dL_law_1183 ?_
  refine E_iadd dL_law_1184 ?_
  obtain ⟨h196, hF⟩ := gd_inv hF
  refine E_sld rfl h196 dL_law_1185 ?_
  obtain ⟨q197, h198, hF⟩ := bd_inv hF
  refine E_callV (na := 2) (As := [.int (xs (v5 + (1 : Int32)).toNatClampNeg), .int (xs (v5 + (2 : Int32)).toNatClampNeg)]) (S := []) (kc := (kcv + 7)) (ks := (ksv + 42)) (ci := 10) rfl rfl sh340 (by decide) cwV_RL_185 ⟨Nat.le_of_ble_eq_true rfl, Nat.le_of_ble_eq_true rfl⟩ (T_X8_moveOf hfl fl _ _ _ _ sh340 _ h198) rfl rfl rfl (Nat.le_of_ble_eq_true rfl) dL_law_1186 ?_
  refine E_istore (L' := [(7, .int q197.1), (6, .int q193.1), (0, .ref 400), (1, .ref 320), (2, .ref 340), (3, .ref 350), (4, .ref 351), (5, .int v5)]) (Nat.le_of_ble_eq_true rfl) rfl dL_law_1189 ?_
  refine E_aload_n (j := 2) (i := 2) (q := 4) rfl rfl dL_law_1191 ?_
  obtain ⟨q199, h200, hF⟩ := bd_inv hF
  refine E_callV (na := 0) (As := []) (S := []) (kc := (kcv + 7)) (ks := (ksv + 42)) (ci := 10) rfl rfl sh340 (by decide) cwV_RL_127 ⟨Nat.le_of_ble_eq_true rfl, Nat.le_of_ble_eq_true rfl⟩ (T_X8_thrown hfl fl _ _ sh340 _ h200) rfl rfl rfl (Nat.le_of_ble_eq_true rfl) dL_law_1192 ?_
  refine E_iload (q := 1) rfl dL_law_1195 ?_
  refine E_icmp_eq (tgt := 1202) rfl dL_law_1197 (fun c201 => ?_) (fun c201 => ?_)
  · have hF := ite_t hF c201
    refine E_iload (q := 1) rfl dL_law_1202 ?_
    refine E_if_ne (tgt := 1219) rfl dL_law_1204 (fun c202 => ?_) (fun c202 => ?_)
    · have hF := ite_f hF c202
      refine E_goto (tgt := 2119) rfl dL_law_1219 ?_
      refine E_iinc (q := 7) (v := (v5 + (7 : Int32))) (L' := [(5, .int (v5 + (7 : Int32))), (7, .int q197.1), (6, .int q193.1), (0, .ref 400), (1, .ref 320), (2, .ref 340), (3, .ref 350), (4, .ref 351)]) rfl rfl (Nat.le_of_ble_eq_true rfl) rfl dL_law_2119 ?_
      refine E_goto (tgt := 28) rfl dL_law_2122 ?_
      refine E_weak (kc' := kcv) (ks' := ksv) (by omega) (by omega) ?_
      refine E_sub [3, 4, 5, 6, 7, 0] rfl ?_
      exact hk28 _ _ hF
    · have hF := ite_t hF c202
      refine E_aload_n (j := 3) (i := 3) (q := 5) rfl rfl dL_law_1207 ?_
      refine E_iconst (v := (0 : Int32)) rfl dL_law_1208 ?_
      refine E_lald _ sh350 (by decide) (by decide : inR (0 : Int32) 1) dL_law_1209 ?_
      refine E_iload (q := 0) rfl dL_law_1210 ?_
      refine E_i2l dL_law_1212 ?_
      refine E_lcmp dL_law_1213 ?_
      refine E_if_eq (tgt := 1219) rfl dL_law_1214 (fun c203 => ?_) (fun c203 => ?_)
      · have hF := ite_t hF c203
        refine E_goto (tgt := 2119) rfl dL_law_1219 ?_
        refine E_iinc (q := 7) (v := (v5 + (7 : Int32))) (L' := [(5, .int (v5 + (7 : Int32))), (7, .int q197.1), (6, .int q193.1), (0, .ref 400), (1, .ref 320), (2, .ref 340), (3, .ref 350), (4, .ref 351)]) rfl rfl (Nat.le_of_ble_eq_true rfl) rfl dL_law_2119 ?_
        refine E_goto (tgt := 28) rfl dL_law_2122 ?_
        refine E_weak (kc' := kcv) (ks' := ksv) (by omega) (by omega) ?_
        refine E_sub [3, 4, 5, 6, 7, 0] rfl ?_
        exact hk28 _ _ hF
      · have hF := ite_f hF c203
        refine E_iconst (v := (0 : Int32)) rfl dL_law_1217 ?_
        exact absurd (Option.some.inj hF) (by decide)
  · have hF := ite_f hF c201
    refine E_iconst (v := (0 : Int32)) rfl dL_law_1200 ?_
    exact absurd (Option.some.inj hF) (by decide)
set_option maxHeartbeats 8000000 in
set_option maxRecDepth 100000 in
theorem T_L_law_1222 {l : Launch} (hfl : l.stackTraces = false) (fl : Nat) {Ln : Nat} {xs : Nat → Int32} {r : Rs} {kcv ksv : Nat} {k28 : Int32 → Mem → Option Int32} (hk28 : ∀ (v5 : Int32) (s : Mem), k28 v5 s = some 1 → E l (X_law Ln xs) r false NF s kcv ksv 28 [(0, .ref 400), (1, .ref 320), (2, .ref 340), (3, .ref 350), (4, .ref 351), (5, .int v5)] []) (v5 : Int32) (s : Mem) (hF : B_L_law_1222 k28 fl xs Ln v5 s = some 1) : E l (X_law Ln xs) r false NF s (kcv + 8) (ksv + 48) 1222 [(0, .ref 400), (1, .ref 320), (2, .ref 340), (3, .ref 350), (4, .ref 351), (5, .int v5)] [] := by
  unfold B_L_law_1222 at hF
  refine E_aload_n (j := 1) (i := 1) (q := 1) rfl rfl dL_law_1222 ?_
  refine E_aload_n (j := 0) (i := 0) (q := 0) rfl rfl dL_law_1223 ?_
  refine E_iload (q := 5) rfl dL_law_1224 ?_
  refine E_iconst (v := (1 : Int32)) rfl dL_law_1226 ?_
  refine E_iadd dL_law_1227 ?_
  obtain ⟨h204, hF⟩ := gd_inv hF
  refine E_sld rfl h204 dL_law_1228 ?_
  refine E_aload_n (j := 0) (i := 0) (q := 0) rfl rfl dL_law_1229 ?_
  refine E_iload (q := 5) rfl dL_law_1230 ?_
  refine E_iconst (v := (2 : Int32)) rfl dL_law_1232 ?_
  refine E_iadd dL_law_1233 ?_
  obtain ⟨h205, hF⟩ := gd_inv hF
  refine E_sld rfl h205 dL_law_1234 ?_
  refine E_aload_n (j := 3) (i := 3) (q := 3) rfl rfl dL_law_1235 ?_
  obtain ⟨q206, h207, hF⟩ := bd_inv hF
  refine E_weak (kc' := (kcv + 5) + 3) (ks' := (ksv + 30) + 18) (by omega) (by omega) ?_
  refine E_callSH (na := 4) (As := [.ref 320, .int (xs (v5 + (1 : Int32)).toNatClampNeg), .int (xs (v5 + (2 : Int32)).toNatClampNeg), .ref 350]) (S := []) (kc := (kcv + 5)) (ks := (ksv + 30)) cwSH_RL_186 ⟨Nat.le_of_ble_eq_true rfl, Nat.le_of_ble_eq_true rfl⟩ (T_L_move hfl fl _ _ _ _ _ sh320 _ h207) rfl rfl rfl (Nat.le_of_ble_eq_true rfl) dL_law_1236 ?_
  refine E_istore (L' := [(6, .int q206.1), (0, .ref 400), (1, .ref 320), (2, .ref 340), (3, .ref 350), (4, .ref 351), (5, .int v5)]) (Nat.le_of_ble_eq_true rfl) rfl dL_law_1239 ?_
  refine E_aload_n (j := 2) (i := 2) (q := 3) rfl rfl dL_law_1241 ?_
  refine E_aload_n (j := 0) (i := 0) (q := 1) rfl rfl dL_law_1242 ?_
  refine E_iload (q := 6) rfl dL_law_1243 ?_
  refine E_iconst (v := (1 : Int32)) rfl dL_law_1245 ?_
  refine E_iadd dL_law_1246 ?_
  obtain ⟨h208, hF⟩ := gd_inv hF
  refine E_sld rfl h208 dL_law_1247 ?_
  refine E_aload_n (j := 0) (i := 0) (q := 1) rfl rfl dL_law_1248 ?_
  refine E_iload (q := 6) rfl dL_law_1249 ?_
  refine E_iconst (v := (2 : Int32)) rfl dL_law_1251 ?_
  refine E_iadd dL_law_1252 ?_
  obtain ⟨h209, hF⟩ := gd_inv hF
  refine E_sld rfl h209 dL_law_1253 ?_
  obtain ⟨q210, h211, hF⟩ := bd_inv hF
  refine E_callV (na := 2) (As := [.int (xs (v5 + (1 : Int32)).toNatClampNeg), .int (xs (v5 + (2 : Int32)).toNatClampNeg)]) (S := []) (kc := (kcv + 5)) (ks := (ksv + 30)) (ci := 10) rfl rfl sh340 (by decide) cwV_RL_188 ⟨Nat.le_of_ble_eq_true rfl, Nat.le_of_ble_eq_true rfl⟩ (T_X8_move hfl fl _ _ _ _ sh340 _ h211) rfl rfl rfl (Nat.le_of_ble_eq_true rfl) dL_law_1254 ?_
  refine E_istore (L' := [(7, .int q210.1), (6, .int q206.1), (0, .ref 400), (1, .ref 320), (2, .ref 340), (3, .ref 350), (4, .ref 351), (5, .int v5)]) (Nat.le_of_ble_eq_true rfl) rfl dL_law_1257 ?_
  refine E_aload_n (j := 2) (i := 2) (q := 4) rfl rfl dL_law_1259 ?_
  obtain ⟨q212, h213, hF⟩ := bd_inv hF
  refine E_callV (na := 0) (As := []) (S := []) (kc := (kcv + 5)) (ks := (ksv + 30)) (ci := 10) rfl rfl sh340 (by decide) cwV_RL_127 ⟨Nat.le_of_ble_eq_true rfl, Nat.le_of_ble_eq_true rfl⟩ (T_X8_thrown hfl fl _ _ sh340 _ h213) rfl rfl rfl (Nat.le_of_ble_eq_true rfl) dL_law_1260 ?_
  refine E_iload (q := 1) rfl dL_law_1263 ?_
  refine E_icmp_eq (tgt := 1270) rfl dL_law_1265 (fun c214 => ?_) (fun c214 => ?_)
  · have hF := ite_t hF c214
    refine E_iload (q := 1) rfl dL_law_1270 ?_
    refine E_if_ne (tgt := 1287) rfl dL_law_1272 (fun c215 => ?_) (fun c215 => ?_)
    · have hF := ite_f hF c215
      refine E_goto (tgt := 2119) rfl dL_law_1287 ?_
      refine E_iinc (q := 7) (v := (v5 + (7 : Int32))) (L' := [(5, .int (v5 + (7 : Int32))), (7, .int q210.1), (6, .int q206.1), (0, .ref 400), (1, .ref 320), (2, .ref 340), (3, .ref 350), (4, .ref 351)]) rfl rfl (Nat.le_of_ble_eq_true rfl) rfl dL_law_2119 ?_
      refine E_goto (tgt := 28) rfl dL_law_2122 ?_
      refine E_weak (kc' := kcv) (ks' := ksv) (by omega) (by omega) ?_
      refine E_sub [3, 4, 5, 6, 7, 0] rfl ?_
      exact hk28 _ _ hF
    · have hF := ite_t hF c215
      refine E_aload_n (j := 3) (i := 3) (q := 5) rfl rfl dL_law_1275 ?_
      refine E_iconst (v := (0 : Int32)) rfl dL_law_1276 ?_
      refine E_lald _ sh350 (by decide) (by decide : inR (0 : Int32) 1) dL_law_1277 ?_
      refine E_iload (q := 0) rfl dL_law_1278 ?_
      refine E_i2l dL_law_1280 ?_
      refine E_lcmp dL_law_1281 ?_
      refine E_if_eq (tgt := 1287) rfl dL_law_1282 (fun c216 => ?_) (fun c216 => ?_)
      · have hF := ite_t hF c216
        refine E_goto (tgt := 2119) rfl dL_law_1287 ?_
        refine E_iinc (q := 7) (v := (v5 + (7 : Int32))) (L' := [(5, .int (v5 + (7 : Int32))), (7, .int q210.1), (6, .int q206.1), (0, .ref 400), (1, .ref 320), (2, .ref 340), (3, .ref 350), (4, .ref 351)]) rfl rfl (Nat.le_of_ble_eq_true rfl) rfl dL_law_2119 ?_
        refine E_goto (tgt := 28) rfl dL_law_2122 ?_
        refine E_weak (kc' := kcv) (ks' := ksv) (by omega) (by omega) ?_
        refine E_sub [3, 4, 5, 6, 7, 0] rfl ?_
        exact hk28 _ _ hF
      · have hF := ite_f hF c216
        refine E_iconst (v := (0 : Int32)) rfl dL_law_1285 ?_
        exact absurd (Option.some.inj hF) (by decide)
  · have hF := ite_f hF c214
    refine E_iconst (v := (0 : Int32)) rfl dL_law_1268 ?_
    exact absurd (Option.some.inj hF) (by decide)
set_option maxHeartbeats 8000000 in
set_option maxRecDepth 100000 in
theorem T_L_law_1290 {l : Launch} (hfl : l.stackTraces = false) (fl : Nat) {Ln : Nat} {xs : Nat → Int32} {r : Rs} {kcv ksv : Nat} {k28 : Int32 → Mem → Option Int32} (hk28 : ∀ (v5 : Int32) (s : Mem), k28 v5 s = some 1 → E l (X_law Ln xs) r false NF s kcv ksv 28 [(0, .ref 400), (1, .ref 320), (2, .ref 340), (3, .ref 350), (4, .ref 351), (5, .int v5)] []) (v5 : Int32) (s : Mem) (hF : B_L_law_1290 k28 fl xs Ln v5 s = some 1) : E l (X_law Ln xs) r false NF s (kcv + 8) (ksv + 48) 1290 [(0, .ref 400), (1, .ref 320), (2, .ref 340), (3, .ref 350), (4, .ref 351), (5, .int v5)] [] := by
  unfold B_L_law_1290 at hF
  refine E_aload_n (j := 1) (i := 1) (q := 1) rfl rfl dL_law_1290 ?_
  refine E_aload_n (j := 0) (i := 0) (q := 0) rfl rfl dL_law_1291 ?_
  refine E_iload (q := 5) rfl dL_law_1292 ?_
  refine E_iconst (v := (1 : Int32)) rfl dL_law_1294 ?_
  refine E_iadd dL_law_1295 ?_
  obtain ⟨h217, hF⟩ := gd_inv hF
  refine E_sld rfl h217 dL_law_1296 ?_
  refine E_aload_n (j := 3) (i := 3) (q := 3) rfl rfl dL_law_1297 ?_
  obtain ⟨q218, h219, hF⟩ := bd_inv hF
  refine E_weak (kc' := (kcv + 6) + 2) (ks' := (ksv + 36) + 12) (by omega) (by omega) ?_
  refine E_callSH (na := 3) (As := [.ref 320, .int (xs (v5 + (1 : Int32)).toNatClampNeg), .ref 350]) (S := []) (kc := (kcv + 6)) (ks := (ksv + 36)) cwSH_RL_189 ⟨Nat.le_of_ble_eq_true rfl, Nat.le_of_ble_eq_true rfl⟩ (T_L_cancel hfl fl _ _ _ _ sh320 _ h219) rfl rfl rfl (Nat.le_of_ble_eq_true rfl) dL_law_1298 ?_
  refine E_istore (L' := [(6, .int q218.1), (0, .ref 400), (1, .ref 320), (2, .ref 340), (3, .ref 350), (4, .ref 351), (5, .int v5)]) (Nat.le_of_ble_eq_true rfl) rfl dL_law_1301 ?_
  refine E_aload_n (j := 2) (i := 2) (q := 3) rfl rfl dL_law_1303 ?_
  refine E_aload_n (j := 0) (i := 0) (q := 1) rfl rfl dL_law_1304 ?_
  refine E_iload (q := 6) rfl dL_law_1305 ?_
  refine E_iconst (v := (1 : Int32)) rfl dL_law_1307 ?_
  refine E_iadd dL_law_1308 ?_
  obtain ⟨h220, hF⟩ := gd_inv hF
  refine E_sld rfl h220 dL_law_1309 ?_
  obtain ⟨q221, h222, hF⟩ := bd_inv hF
  refine E_callV (na := 1) (As := [.int (xs (v5 + (1 : Int32)).toNatClampNeg)]) (S := []) (kc := (kcv + 6)) (ks := (ksv + 36)) (ci := 10) rfl rfl sh340 (by decide) cwV_RL_191 ⟨Nat.le_of_ble_eq_true rfl, Nat.le_of_ble_eq_true rfl⟩ (T_X8_cancel hfl fl _ _ _ sh340 _ h222) rfl rfl rfl (Nat.le_of_ble_eq_true rfl) dL_law_1310 ?_
  refine E_istore (L' := [(7, .int q221.1), (6, .int q218.1), (0, .ref 400), (1, .ref 320), (2, .ref 340), (3, .ref 350), (4, .ref 351), (5, .int v5)]) (Nat.le_of_ble_eq_true rfl) rfl dL_law_1313 ?_
  refine E_aload_n (j := 2) (i := 2) (q := 4) rfl rfl dL_law_1315 ?_
  obtain ⟨q223, h224, hF⟩ := bd_inv hF
  refine E_callV (na := 0) (As := []) (S := []) (kc := (kcv + 6)) (ks := (ksv + 36)) (ci := 10) rfl rfl sh340 (by decide) cwV_RL_127 ⟨Nat.le_of_ble_eq_true rfl, Nat.le_of_ble_eq_true rfl⟩ (T_X8_thrown hfl fl _ _ sh340 _ h224) rfl rfl rfl (Nat.le_of_ble_eq_true rfl) dL_law_1316 ?_
  refine E_iload (q := 1) rfl dL_law_1319 ?_
  refine E_icmp_eq (tgt := 1326) rfl dL_law_1321 (fun c225 => ?_) (fun c225 => ?_)
  · have hF := ite_t hF c225
    refine E_iload (q := 1) rfl dL_law_1326 ?_
    refine E_if_ne (tgt := 1343) rfl dL_law_1328 (fun c226 => ?_) (fun c226 => ?_)
    · have hF := ite_f hF c226
      refine E_goto (tgt := 2119) rfl dL_law_1343 ?_
      refine E_iinc (q := 7) (v := (v5 + (7 : Int32))) (L' := [(5, .int (v5 + (7 : Int32))), (7, .int q221.1), (6, .int q218.1), (0, .ref 400), (1, .ref 320), (2, .ref 340), (3, .ref 350), (4, .ref 351)]) rfl rfl (Nat.le_of_ble_eq_true rfl) rfl dL_law_2119 ?_
      refine E_goto (tgt := 28) rfl dL_law_2122 ?_
      refine E_weak (kc' := kcv) (ks' := ksv) (by omega) (by omega) ?_
      refine E_sub [3, 4, 5, 6, 7, 0] rfl ?_
      exact hk28 _ _ hF
    · have hF := ite_t hF c226
      refine E_aload_n (j := 3) (i := 3) (q := 5) rfl rfl dL_law_1331 ?_
      refine E_iconst (v := (0 : Int32)) rfl dL_law_1332 ?_
      refine E_lald _ sh350 (by decide) (by decide : inR (0 : Int32) 1) dL_law_1333 ?_
      refine E_iload (q := 0) rfl dL_law_1334 ?_
      refine E_i2l dL_law_1336 ?_
      refine E_lcmp dL_law_1337 ?_
      refine E_if_eq (tgt := 1343) rfl dL_law_1338 (fun c227 => ?_) (fun c227 => ?_)
      · have hF := ite_t hF c227
        refine E_goto (tgt := 2119) rfl dL_law_1343 ?_
        refine E_iinc (q := 7) (v := (v5 + (7 : Int32))) (L' := [(5, .int (v5 + (7 : Int32))), (7, .int q221.1), (6, .int q218.1), (0, .ref 400), (1, .ref 320), (2, .ref 340), (3, .ref 350), (4, .ref 351)]) rfl rfl (Nat.le_of_ble_eq_true rfl) rfl dL_law_2119 ?_
        refine E_goto (tgt := 28) rfl dL_law_2122 ?_
        refine E_weak (kc' := kcv) (ks' := ksv) (by omega) (by omega) ?_
        refine E_sub [3, 4, 5, 6, 7, 0] rfl ?_
        exact hk28 _ _ hF
      · have hF := ite_f hF c227
        refine E_iconst (v := (0 : Int32)) rfl dL_law_1341 ?_
        exact absurd (Option.some.inj hF) (by decide)
  · have hF := ite_f hF c225
    refine E_iconst (v := (0 : Int32)) rfl dL_law_1324 ?_
    exact absurd (Option.some.inj hF) (by decide)
set_option maxHeartbeats 8000000 in
set_option maxRecDepth 100000 in
theorem T_L_law_1346 {l : Launch} (hfl : l.stackTraces = false) (fl : Nat) {Ln : Nat} {xs : Nat → Int32} {r : Rs} {kcv ksv : Nat} {k28 : Int32 → Mem → Option Int32} (hk28 : ∀ (v5 : Int32) (s : Mem), k28 v5 s = some 1 → E l (X_law Ln xs) r false NF s kcv ksv 28 [(0, .ref 400), (1, .ref 320), (2, .ref 340), (3, .ref 350), (4, .ref 351), (5, .int v5)] []) (v5 : Int32) (s : Mem) (hF : B_L_law_1346 k28 fl xs Ln v5 s = some 1) : E l (X_law Ln xs) r false NF s (kcv + 8) (ksv + 48) 1346 [(0, .ref 400), (1, .ref 320), (2, .ref 340), (3, .ref 350), (4, .ref 351), (5, .int v5)] [] := by
  unfold B_L_law_1346 at hF
  refine E_aload_n (j := 1) (i := 1) (q := 1) rfl rfl dL_law_1346 ?_
  refine E_aload_n (j := 0) (i := 0) (q := 0) rfl rfl dL_law_1347 ?_
  refine E_iload (q := 5) rfl dL_law_1348 ?_
  refine E_iconst (v := (1 : Int32)) rfl dL_law_1350 ?_
  refine E_iadd dL_law_1351 ?_
  obtain ⟨h228, hF⟩ := gd_inv hF
  refine E_sld rfl h228 dL_law_1352 ?_
  refine E_aload_n (j := 3) (i := 3) (q := 3) rfl rfl dL_law_1353 ?_
  obtain ⟨q229, h230, hF⟩ := bd_inv hF
  refine E_weak (kc' := (kcv + 7) + 1) (ks' := (ksv + 42) + 6) (by omega) (by omega) ?_
  refine E_callSH (na := 3) (As := [.ref 320, .int (xs (v5 + (1 : Int32)).toNatClampNeg), .ref 350]) (S := []) (kc := (kcv + 7)) (ks := (ksv + 42)) cwSH_RL_192 ⟨Nat.le_of_ble_eq_true rfl, Nat.le_of_ble_eq_true rfl⟩ (T_L_advance hfl fl _ _ _ _ sh320 _ h230) rfl rfl rfl (Nat.le_of_ble_eq_true rfl) dL_law_1354 ?_
  refine E_istore (L' := [(6, .int q229.1), (0, .ref 400), (1, .ref 320), (2, .ref 340), (3, .ref 350), (4, .ref 351), (5, .int v5)]) (Nat.le_of_ble_eq_true rfl) rfl dL_law_1357 ?_
  refine E_aload_n (j := 2) (i := 2) (q := 3) rfl rfl dL_law_1359 ?_
  refine E_aload_n (j := 0) (i := 0) (q := 1) rfl rfl dL_law_1360 ?_
  refine E_iload (q := 6) rfl dL_law_1361 ?_
  refine E_iconst (v := (1 : Int32)) rfl dL_law_1363 ?_
  refine E_iadd dL_law_1364 ?_
  obtain ⟨h231, hF⟩ := gd_inv hF
  refine E_sld rfl h231 dL_law_1365 ?_
  obtain ⟨q232, h233, hF⟩ := bd_inv hF
  refine E_callV (na := 1) (As := [.int (xs (v5 + (1 : Int32)).toNatClampNeg)]) (S := []) (kc := (kcv + 7)) (ks := (ksv + 42)) (ci := 10) rfl rfl sh340 (by decide) cwV_RL_194 ⟨Nat.le_of_ble_eq_true rfl, Nat.le_of_ble_eq_true rfl⟩ (T_X8_advance hfl fl _ _ _ sh340 _ h233) rfl rfl rfl (Nat.le_of_ble_eq_true rfl) dL_law_1366 ?_
  refine E_istore (L' := [(7, .int q232.1), (6, .int q229.1), (0, .ref 400), (1, .ref 320), (2, .ref 340), (3, .ref 350), (4, .ref 351), (5, .int v5)]) (Nat.le_of_ble_eq_true rfl) rfl dL_law_1369 ?_
  refine E_aload_n (j := 2) (i := 2) (q := 4) rfl rfl dL_law_1371 ?_
  obtain ⟨q234, h235, hF⟩ := bd_inv hF
  refine E_callV (na := 0) (As := []) (S := []) (kc := (kcv + 7)) (ks := (ksv + 42)) (ci := 10) rfl rfl sh340 (by decide) cwV_RL_127 ⟨Nat.le_of_ble_eq_true rfl, Nat.le_of_ble_eq_true rfl⟩ (T_X8_thrown hfl fl _ _ sh340 _ h235) rfl rfl rfl (Nat.le_of_ble_eq_true rfl) dL_law_1372 ?_
  refine E_iload (q := 1) rfl dL_law_1375 ?_
  refine E_icmp_eq (tgt := 1382) rfl dL_law_1377 (fun c236 => ?_) (fun c236 => ?_)
  · have hF := ite_t hF c236
    refine E_iload (q := 1) rfl dL_law_1382 ?_
    refine E_if_ne (tgt := 1399) rfl dL_law_1384 (fun c237 => ?_) (fun c237 => ?_)
    · have hF := ite_f hF c237
      refine E_goto (tgt := 2119) rfl dL_law_1399 ?_
      refine E_iinc (q := 7) (v := (v5 + (7 : Int32))) (L' := [(5, .int (v5 + (7 : Int32))), (7, .int q232.1), (6, .int q229.1), (0, .ref 400), (1, .ref 320), (2, .ref 340), (3, .ref 350), (4, .ref 351)]) rfl rfl (Nat.le_of_ble_eq_true rfl) rfl dL_law_2119 ?_
      refine E_goto (tgt := 28) rfl dL_law_2122 ?_
      refine E_weak (kc' := kcv) (ks' := ksv) (by omega) (by omega) ?_
      refine E_sub [3, 4, 5, 6, 7, 0] rfl ?_
      exact hk28 _ _ hF
    · have hF := ite_t hF c237
      refine E_aload_n (j := 3) (i := 3) (q := 5) rfl rfl dL_law_1387 ?_
      refine E_iconst (v := (0 : Int32)) rfl dL_law_1388 ?_
      refine E_lald _ sh350 (by decide) (by decide : inR (0 : Int32) 1) dL_law_1389 ?_
      refine E_iload (q := 0) rfl dL_law_1390 ?_
      refine E_i2l dL_law_1392 ?_
      refine E_lcmp dL_law_1393 ?_
      refine E_if_eq (tgt := 1399) rfl dL_law_1394 (fun c238 => ?_) (fun c238 => ?_)
      · have hF := ite_t hF c238
        refine E_goto (tgt := 2119) rfl dL_law_1399 ?_
        refine E_iinc (q := 7) (v := (v5 + (7 : Int32))) (L' := [(5, .int (v5 + (7 : Int32))), (7, .int q232.1), (6, .int q229.1), (0, .ref 400), (1, .ref 320), (2, .ref 340), (3, .ref 350), (4, .ref 351)]) rfl rfl (Nat.le_of_ble_eq_true rfl) rfl dL_law_2119 ?_
        refine E_goto (tgt := 28) rfl dL_law_2122 ?_
        refine E_weak (kc' := kcv) (ks' := ksv) (by omega) (by omega) ?_
        refine E_sub [3, 4, 5, 6, 7, 0] rfl ?_
        exact hk28 _ _ hF
      · have hF := ite_f hF c238
        refine E_iconst (v := (0 : Int32)) rfl dL_law_1397 ?_
        exact absurd (Option.some.inj hF) (by decide)
  · have hF := ite_f hF c236
    refine E_iconst (v := (0 : Int32)) rfl dL_law_1380 ?_
    exact absurd (Option.some.inj hF) (by decide)
set_option maxHeartbeats 8000000 in
set_option maxRecDepth 100000 in
theorem T_L_law_1402 {l : Launch} (hfl : l.stackTraces = false) (fl : Nat) {Ln : Nat} {xs : Nat → Int32} {r : Rs} {kcv ksv : Nat} {k28 : Int32 → Mem → Option Int32} (hk28 : ∀ (v5 : Int32) (s : Mem), k28 v5 s = some 1 → E l (X_law Ln xs) r false NF s kcv ksv 28 [(0, .ref 400), (1, .ref 320), (2, .ref 340), (3, .ref 350), (4, .ref 351), (5, .int v5)] []) (v5 : Int32) (s : Mem) (hF : B_L_law_1402 k28 fl xs Ln v5 s = some 1) : E l (X_law Ln xs) r false NF s (kcv + 8) (ksv + 48) 1402 [(0, .ref 400), (1, .ref 320), (2, .ref 340), (3, .ref 350), (4, .ref 351), (5, .int v5)] [] := by
  unfold B_L_law_1402 at hF
  refine E_aload_n (j := 1) (i := 1) (q := 1) rfl rfl dL_law_1402 ?_
  obtain ⟨q239, h240, hF⟩ := bd_inv hF
  refine E_callV (na := 0) (As := []) (S := []) (kc := (kcv + 8)) (ks := (ksv + 48)) (ci := 9) rfl rfl sh320 (by decide) cwV_RL_195 ⟨Nat.le_of_ble_eq_true rfl, Nat.le_of_ble_eq_true rfl⟩ (T_X7_tonight hfl fl _ _ sh320 _ h240) rfl rfl rfl (Nat.le_of_ble_eq_true rfl) dL_law_1403 ?_
  refine E_aload_n (j := 2) (i := 2) (q := 2) rfl rfl dL_law_1406 ?_
  obtain ⟨q241, h242, hF⟩ := bd_inv hF
  refine E_callV (na := 0) (As := []) (S := [.int q239]) (kc := (kcv + 8)) (ks := (ksv + 48)) (ci := 10) rfl rfl sh340 (by decide) cwV_RL_198 ⟨Nat.le_of_ble_eq_true rfl, Nat.le_of_ble_eq_true rfl⟩ (T_X8_tonight hfl fl _ _ sh340 _ h242) rfl rfl rfl (Nat.le_of_ble_eq_true rfl) dL_law_1407 ?_
  refine E_icmp_eq (tgt := 2119) rfl dL_law_1410 (fun c243 => ?_) (fun c243 => ?_)
  · have hF := ite_t hF c243
    refine E_iinc (q := 5) (v := (v5 + (7 : Int32))) (L' := [(5, .int (v5 + (7 : Int32))), (0, .ref 400), (1, .ref 320), (2, .ref 340), (3, .ref 350), (4, .ref 351)]) rfl rfl (Nat.le_of_ble_eq_true rfl) rfl dL_law_2119 ?_
    refine E_goto (tgt := 28) rfl dL_law_2122 ?_
    refine E_weak (kc' := kcv) (ks' := ksv) (by omega) (by omega) ?_
    refine E_sub [1, 2, 3, 4, 5, 0] rfl ?_
    exact hk28 _ _ hF
  · have hF := ite_f hF c243
    refine E_iconst (v := (0 : Int32)) rfl dL_law_1413 ?_
    exact absurd (Option.some.inj hF) (by decide)
set_option maxHeartbeats 8000000 in
set_option maxRecDepth 100000 in
theorem T_L_law_1415 {l : Launch} (hfl : l.stackTraces = false) (fl : Nat) {Ln : Nat} {xs : Nat → Int32} {r : Rs} {kcv ksv : Nat} {k28 : Int32 → Mem → Option Int32} (hk28 : ∀ (v5 : Int32) (s : Mem), k28 v5 s = some 1 → E l (X_law Ln xs) r false NF s kcv ksv 28 [(0, .ref 400), (1, .ref 320), (2, .ref 340), (3, .ref 350), (4, .ref 351), (5, .int v5)] []) (v5 : Int32) (s : Mem) (hF : B_L_law_1415 k28 fl xs Ln v5 s = some 1) : E l (X_law Ln xs) r false NF s (kcv + 8) (ksv + 48) 1415 [(0, .ref 400), (1, .ref 320), (2, .ref 340), (3, .ref 350), (4, .ref 351), (5, .int v5)] [] := by
  unfold B_L_law_1415 at hF
  refine E_aload_n (j := 1) (i := 1) (q := 1) rfl rfl dL_law_1415 ?_
  refine E_aload_n (j := 0) (i := 0) (q := 0) rfl rfl dL_law_1416 ?_
  refine E_iload (q := 5) rfl dL_law_1417 ?_
  refine E_iconst (v := (1 : Int32)) rfl dL_law_1419 ?_
  refine E_iadd dL_law_1420 ?_
  obtain ⟨h244, hF⟩ := gd_inv hF
  refine E_sld rfl h244 dL_law_1421 ?_
  refine E_aload_n (j := 0) (i := 0) (q := 0) rfl rfl dL_law_1422 ?_
  refine E_iload (q := 5) rfl dL_law_1423 ?_
  refine E_iconst (v := (2 : Int32)) rfl dL_law_1425 ?_
  refine E_iadd dL_law_1426 ?_
  obtain ⟨h245, hF⟩ := gd_inv hF
  refine E_sld rfl h245 dL_law_1427 ?_
  refine E_aload_n (j := 3) (i := 3) (q := 3) rfl rfl dL_law_1428 ?_
  obtain ⟨q246, h247, hF⟩ := bd_inv hF
  refine E_weak (kc' := (kcv + 6) + 2) (ks' := (ksv + 36) + 12) (by omega) (by omega) ?_
  refine E_callSH (na := 4) (As := [.ref 320, .int (xs (v5 + (1 : Int32)).toNatClampNeg), .int (xs (v5 + (2 : Int32)).toNatClampNeg), .ref 350]) (S := []) (kc := (kcv + 6)) (ks := (ksv + 36)) cwSH_RL_199 ⟨Nat.le_of_ble_eq_true rfl, Nat.le_of_ble_eq_true rfl⟩ (T_L_obstacle hfl fl _ _ _ _ _ sh320 _ h247) rfl rfl rfl (Nat.le_of_ble_eq_true rfl) dL_law_1429 ?_
  refine E_istore (L' := [(6, .int q246.1), (0, .ref 400), (1, .ref 320), (2, .ref 340), (3, .ref 350), (4, .ref 351), (5, .int v5)]) (Nat.le_of_ble_eq_true rfl) rfl dL_law_1432 ?_
  refine E_aload_n (j := 2) (i := 2) (q := 3) rfl rfl dL_law_1434 ?_
  refine E_aload_n (j := 0) (i := 0) (q := 1) rfl rfl dL_law_1435 ?_
  refine E_iload (q := 6) rfl dL_law_1436 ?_
  refine E_iconst (v := (1 : Int32)) rfl dL_law_1438 ?_
  refine E_iadd dL_law_1439 ?_
  obtain ⟨h248, hF⟩ := gd_inv hF
  refine E_sld rfl h248 dL_law_1440 ?_
  refine E_aload_n (j := 0) (i := 0) (q := 1) rfl rfl dL_law_1441 ?_
  refine E_iload (q := 6) rfl dL_law_1442 ?_
  refine E_iconst (v := (2 : Int32)) rfl dL_law_1444 ?_
  refine E_iadd dL_law_1445 ?_
  obtain ⟨h249, hF⟩ := gd_inv hF
  refine E_sld rfl h249 dL_law_1446 ?_
  obtain ⟨q250, h251, hF⟩ := bd_inv hF
  refine E_callV (na := 2) (As := [.int (xs (v5 + (1 : Int32)).toNatClampNeg), .int (xs (v5 + (2 : Int32)).toNatClampNeg)]) (S := []) (kc := (kcv + 6)) (ks := (ksv + 36)) (ci := 10) rfl rfl sh340 (by decide) cwV_RL_201 ⟨Nat.le_of_ble_eq_true rfl, Nat.le_of_ble_eq_true rfl⟩ (T_X8_obstacle hfl fl _ _ _ _ sh340 _ h251) rfl rfl rfl (Nat.le_of_ble_eq_true rfl) dL_law_1447 ?_
  refine E_istore (L' := [(7, .int q250.1), (6, .int q246.1), (0, .ref 400), (1, .ref 320), (2, .ref 340), (3, .ref 350), (4, .ref 351), (5, .int v5)]) (Nat.le_of_ble_eq_true rfl) rfl dL_law_1450 ?_
  refine E_aload_n (j := 2) (i := 2) (q := 4) rfl rfl dL_law_1452 ?_
  obtain ⟨q252, h253, hF⟩ := bd_inv hF
  refine E_callV (na := 0) (As := []) (S := []) (kc := (kcv + 6)) (ks := (ksv + 36)) (ci := 10) rfl rfl sh340 (by decide) cwV_RL_127 ⟨Nat.le_of_ble_eq_true rfl, Nat.le_of_ble_eq_true rfl⟩ (T_X8_thrown hfl fl _ _ sh340 _ h253) rfl rfl rfl (Nat.le_of_ble_eq_true rfl) dL_law_1453 ?_
  refine E_iload (q := 1) rfl dL_law_1456 ?_
  refine E_icmp_eq (tgt := 1463) rfl dL_law_1458 (fun c254 => ?_) (fun c254 => ?_)
  · have hF := ite_t hF c254
    refine E_iload (q := 1) rfl dL_law_1463 ?_
    refine E_if_ne (tgt := 1480) rfl dL_law_1465 (fun c255 => ?_) (fun c255 => ?_)
    · have hF := ite_f hF c255
      refine E_goto (tgt := 2119) rfl dL_law_1480 ?_
      refine E_iinc (q := 7) (v := (v5 + (7 : Int32))) (L' := [(5, .int (v5 + (7 : Int32))), (7, .int q250.1), (6, .int q246.1), (0, .ref 400), (1, .ref 320), (2, .ref 340), (3, .ref 350), (4, .ref 351)]) rfl rfl (Nat.le_of_ble_eq_true rfl) rfl dL_law_2119 ?_
      refine E_goto (tgt := 28) rfl dL_law_2122 ?_
      refine E_weak (kc' := kcv) (ks' := ksv) (by omega) (by omega) ?_
      refine E_sub [3, 4, 5, 6, 7, 0] rfl ?_
      exact hk28 _ _ hF
    · have hF := ite_t hF c255
      refine E_aload_n (j := 3) (i := 3) (q := 5) rfl rfl dL_law_1468 ?_
      refine E_iconst (v := (0 : Int32)) rfl dL_law_1469 ?_
      refine E_lald _ sh350 (by decide) (by decide : inR (0 : Int32) 1) dL_law_1470 ?_
      refine E_iload (q := 0) rfl dL_law_1471 ?_
      refine E_i2l dL_law_1473 ?_
      refine E_lcmp dL_law_1474 ?_
      refine E_if_eq (tgt := 1480) rfl dL_law_1475 (fun c256 => ?_) (fun c256 => ?_)
      · have hF := ite_t hF c256
        refine E_goto (tgt := 2119) rfl dL_law_1480 ?_
        refine E_iinc (q := 7) (v := (v5 + (7 : Int32))) (L' := [(5, .int (v5 + (7 : Int32))), (7, .int q250.1), (6, .int q246.1), (0, .ref 400), (1, .ref 320), (2, .ref 340), (3, .ref 350), (4, .ref 351)]) rfl rfl (Nat.le_of_ble_eq_true rfl) rfl dL_law_2119 ?_
        refine E_goto (tgt := 28) rfl dL_law_2122 ?_
        refine E_weak (kc' := kcv) (ks' := ksv) (by omega) (by omega) ?_
        refine E_sub [3, 4, 5, 6, 7, 0] rfl ?_
        exact hk28 _ _ hF
      · have hF := ite_f hF c256
        refine E_iconst (v := (0 : Int32)) rfl dL_law_1478 ?_
        exact absurd (Option.some.inj hF) (by decide)
  · have hF := ite_f hF c254
    refine E_iconst (v := (0 : Int32)) rfl dL_law_1461 ?_
    exact absurd (Option.some.inj hF) (by decide)
set_option maxHeartbeats 8000000 in
set_option maxRecDepth 100000 in
theorem T_L_law_1483 {l : Launch} (hfl : l.stackTraces = false) (fl : Nat) {Ln : Nat} {xs : Nat → Int32} {r : Rs} {kcv ksv : Nat} {k28 : Int32 → Mem → Option Int32} (hk28 : ∀ (v5 : Int32) (s : Mem), k28 v5 s = some 1 → E l (X_law Ln xs) r false NF s kcv ksv 28 [(0, .ref 400), (1, .ref 320), (2, .ref 340), (3, .ref 350), (4, .ref 351), (5, .int v5)] []) (v5 : Int32) (s : Mem) (hF : B_L_law_1483 k28 fl xs Ln v5 s = some 1) : E l (X_law Ln xs) r false NF s (kcv + 8) (ksv + 48) 1483 [(0, .ref 400), (1, .ref 320), (2, .ref 340), (3, .ref 350), (4, .ref 351), (5, .int v5)] [] := by
  unfold B_L_law_1483 at hF
  refine E_aload_n (j := 1) (i := 1) (q := 1) rfl rfl dL_law_1483 ?_
  refine E_aload_n (j := 0) (i := 0) (q := 0) rfl rfl dL_law_1484 ?_
  refine E_iload (q := 5) rfl dL_law_1485 ?_
  refine E_iconst (v := (1 : Int32)) rfl dL_law_1487 ?_
  refine E_iadd dL_law_1488 ?_
  obtain ⟨h257, hF⟩ := gd_inv hF
  refine E_sld rfl h257 dL_law_1489 ?_
  refine E_aload_n (j := 0) (i := 0) (q := 0) rfl rfl dL_law_1490 ?_
  refine E_iload (q := 5) rfl dL_law_1491 ?_
  refine E_iconst (v := (2 : Int32)) rfl dL_law_1493 ?_
  refine E_iadd dL_law_1494 ?_
  obtain ⟨h258, hF⟩ := gd_inv hF
  refine E_sld rfl h258 dL_law_1495 ?_
  refine E_aload_n (j := 3) (i := 3) (q := 3) rfl rfl dL_law_1496 ?_
  obtain ⟨q259, h260, hF⟩ := bd_inv hF
  refine E_weak (kc' := (kcv + 6) + 2) (ks' := (ksv + 36) + 12) (by omega) (by omega) ?_
  refine E_callSH (na := 4) (As := [.ref 320, .int (xs (v5 + (1 : Int32)).toNatClampNeg), .int (xs (v5 + (2 : Int32)).toNatClampNeg), .ref 350]) (S := []) (kc := (kcv + 6)) (ks := (ksv + 36)) cwSH_RL_202 ⟨Nat.le_of_ble_eq_true rfl, Nat.le_of_ble_eq_true rfl⟩ (T_L_occupant hfl fl _ _ _ _ _ sh320 _ h260) rfl rfl rfl (Nat.le_of_ble_eq_true rfl) dL_law_1497 ?_
  refine E_istore (L' := [(6, .int q259.1), (0, .ref 400), (1, .ref 320), (2, .ref 340), (3, .ref 350), (4, .ref 351), (5, .int v5)]) (Nat.le_of_ble_eq_true rfl) rfl dL_law_1500 ?_
  refine E_aload_n (j := 2) (i := 2) (q := 3) rfl rfl dL_law_1502 ?_
  refine E_aload_n (j := 0) (i := 0) (q := 1) rfl rfl dL_law_1503 ?_
  refine E_iload (q := 6) rfl dL_law_1504 ?_
  refine E_iconst (v := (1 : Int32)) rfl dL_law_1506 ?_
  refine E_iadd dL_law_1507 ?_
  obtain ⟨h261, hF⟩ := gd_inv hF
  refine E_sld rfl h261 dL_law_1508 ?_
  refine E_aload_n (j := 0) (i := 0) (q := 1) rfl rfl dL_law_1509 ?_
  refine E_iload (q := 6) rfl dL_law_1510 ?_
  refine E_iconst (v := (2 : Int32)) rfl dL_law_1512 ?_
  refine E_iadd dL_law_1513 ?_
  obtain ⟨h262, hF⟩ := gd_inv hF
  refine E_sld rfl h262 dL_law_1514 ?_
  obtain ⟨q263, h264, hF⟩ := bd_inv hF
  refine E_callV (na := 2) (As := [.int (xs (v5 + (1 : Int32)).toNatClampNeg), .int (xs (v5 + (2 : Int32)).toNatClampNeg)]) (S := []) (kc := (kcv + 6)) (ks := (ksv + 36)) (ci := 10) rfl rfl sh340 (by decide) cwV_RL_204 ⟨Nat.le_of_ble_eq_true rfl, Nat.le_of_ble_eq_true rfl⟩ (T_X8_occupant hfl fl _ _ _ _ sh340 _ h264) rfl rfl rfl (Nat.le_of_ble_eq_true rfl) dL_law_1515 ?_
  refine E_istore (L' := [(7, .int q263.1), (6, .int q259.1), (0, .ref 400), (1, .ref 320), (2, .ref 340), (3, .ref 350), (4, .ref 351), (5, .int v5)]) (Nat.le_of_ble_eq_true rfl) rfl dL_law_1518 ?_
  refine E_aload_n (j := 2) (i := 2) (q := 4) rfl rfl dL_law_1520 ?_
  obtain ⟨q265, h266, hF⟩ := bd_inv hF
  refine E_callV (na := 0) (As := []) (S := []) (kc := (kcv + 6)) (ks := (ksv + 36)) (ci := 10) rfl rfl sh340 (by decide) cwV_RL_127 ⟨Nat.le_of_ble_eq_true rfl, Nat.le_of_ble_eq_true rfl⟩ (T_X8_thrown hfl fl _ _ sh340 _ h266) rfl rfl rfl (Nat.le_of_ble_eq_true rfl) dL_law_1521 ?_
  refine E_iload (q := 1) rfl dL_law_1524 ?_
  refine E_icmp_eq (tgt := 1531) rfl dL_law_1526 (fun c267 => ?_) (fun c267 => ?_)
  · have hF := ite_t hF c267
    refine E_iload (q := 1) rfl dL_law_1531 ?_
    refine E_if_ne (tgt := 1548) rfl dL_law_1533 (fun c268 => ?_) (fun c268 => ?_)
    · have hF := ite_f hF c268
      refine E_goto (tgt := 2119) rfl dL_law_1548 ?_
      refine E_iinc (q := 7) (v := (v5 + (7 : Int32))) (L' := [(5, .int (v5 + (7 : Int32))), (7, .int q263.1), (6, .int q259.1), (0, .ref 400), (1, .ref 320), (2, .ref 340), (3, .ref 350), (4, .ref 351)]) rfl rfl (Nat.le_of_ble_eq_true rfl) rfl dL_law_2119 ?_
      refine E_goto (tgt := 28) rfl dL_law_2122 ?_
      refine E_weak (kc' := kcv) (ks' := ksv) (by omega) (by omega) ?_
      refine E_sub [3, 4, 5, 6, 7, 0] rfl ?_
      exact hk28 _ _ hF
    · have hF := ite_t hF c268
      refine E_aload_n (j := 3) (i := 3) (q := 5) rfl rfl dL_law_1536 ?_
      refine E_iconst (v := (0 : Int32)) rfl dL_law_1537 ?_
      refine E_lald _ sh350 (by decide) (by decide : inR (0 : Int32) 1) dL_law_1538 ?_
      refine E_iload (q := 0) rfl dL_law_1539 ?_
      refine E_i2l dL_law_1541 ?_
      refine E_lcmp dL_law_1542 ?_
      refine E_if_eq (tgt := 1548) rfl dL_law_1543 (fun c269 => ?_) (fun c269 => ?_)
      · have hF := ite_t hF c269
        refine E_goto (tgt := 2119) rfl dL_law_1548 ?_
        refine E_iinc (q := 7) (v := (v5 + (7 : Int32))) (L' := [(5, .int (v5 + (7 : Int32))), (7, .int q263.1), (6, .int q259.1), (0, .ref 400), (1, .ref 320), (2, .ref 340), (3, .ref 350), (4, .ref 351)]) rfl rfl (Nat.le_of_ble_eq_true rfl) rfl dL_law_2119 ?_
        refine E_goto (tgt := 28) rfl dL_law_2122 ?_
        refine E_weak (kc' := kcv) (ks' := ksv) (by omega) (by omega) ?_
        refine E_sub [3, 4, 5, 6, 7, 0] rfl ?_
        exact hk28 _ _ hF
      · have hF := ite_f hF c269
        refine E_iconst (v := (0 : Int32)) rfl dL_law_1546 ?_
        exact absurd (Option.some.inj hF) (by decide)
  · have hF := ite_f hF c267
    refine E_iconst (v := (0 : Int32)) rfl dL_law_1529 ?_
    exact absurd (Option.some.inj hF) (by decide)
set_option maxHeartbeats 8000000 in
set_option maxRecDepth 100000 in
theorem T_L_law_1551 {l : Launch} (hfl : l.stackTraces = false) (fl : Nat) {Ln : Nat} {xs : Nat → Int32} {r : Rs} {kcv ksv : Nat} {k28 : Int32 → Mem → Option Int32} (hk28 : ∀ (v5 : Int32) (s : Mem), k28 v5 s = some 1 → E l (X_law Ln xs) r false NF s kcv ksv 28 [(0, .ref 400), (1, .ref 320), (2, .ref 340), (3, .ref 350), (4, .ref 351), (5, .int v5)] []) (v5 : Int32) (s : Mem) (hF : B_L_law_1551 k28 fl xs Ln v5 s = some 1) : E l (X_law Ln xs) r false NF s (kcv + 8) (ksv + 48) 1551 [(0, .ref 400), (1, .ref 320), (2, .ref 340), (3, .ref 350), (4, .ref 351), (5, .int v5)] [] := by
  unfold B_L_law_1551 at hF
  refine E_aload_n (j := 1) (i := 1) (q := 1) rfl rfl dL_law_1551 ?_
  refine E_aload_n (j := 0) (i := 0) (q := 0) rfl rfl dL_law_1552 ?_
  refine E_iload (q := 5) rfl dL_law_1553 ?_
  refine E_iconst (v := (1 : Int32)) rfl dL_law_1555 ?_
  refine E_iadd dL_law_1556 ?_
  obtain ⟨h270, hF⟩ := gd_inv hF
  refine E_sld rfl h270 dL_law_1557 ?_
  refine E_aload_n (j := 0) (i := 0) (q := 0) rfl rfl dL_law_1558 ?_
  refine E_iload (q := 5) rfl dL_law_1559 ?_
  refine E_iconst (v := (2 : Int32)) rfl dL_law_1561 ?_
  refine E_iadd dL_law_1562 ?_
  obtain ⟨h271, hF⟩ := gd_inv hF
  refine E_sld rfl h271 dL_law_1563 ?_
  refine E_aload_n (j := 3) (i := 3) (q := 3) rfl rfl dL_law_1564 ?_
  obtain ⟨q272, h273, hF⟩ := bd_inv hF
  refine E_weak (kc' := (kcv + 6) + 2) (ks' := (ksv + 36) + 12) (by omega) (by omega) ?_
  refine E_callSH (na := 4) (As := [.ref 320, .int (xs (v5 + (1 : Int32)).toNatClampNeg), .int (xs (v5 + (2 : Int32)).toNatClampNeg), .ref 350]) (S := []) (kc := (kcv + 6)) (ks := (ksv + 36)) cwSH_RL_205 ⟨Nat.le_of_ble_eq_true rfl, Nat.le_of_ble_eq_true rfl⟩ (T_L_busyNight hfl fl _ _ _ _ _ sh320 _ h273) rfl rfl rfl (Nat.le_of_ble_eq_true rfl) dL_law_1565 ?_
  refine E_istore (L' := [(6, .int q272.1), (0, .ref 400), (1, .ref 320), (2, .ref 340), (3, .ref 350), (4, .ref 351), (5, .int v5)]) (Nat.le_of_ble_eq_true rfl) rfl dL_law_1568 ?_
  refine E_aload_n (j := 2) (i := 2) (q := 3) rfl rfl dL_law_1570 ?_
  refine E_aload_n (j := 0) (i := 0) (q := 1) rfl rfl dL_law_1571 ?_
  refine E_iload (q := 6) rfl dL_law_1572 ?_
  refine E_iconst (v := (1 : Int32)) rfl dL_law_1574 ?_
  refine E_iadd dL_law_1575 ?_
  obtain ⟨h274, hF⟩ := gd_inv hF
  refine E_sld rfl h274 dL_law_1576 ?_
  refine E_aload_n (j := 0) (i := 0) (q := 1) rfl rfl dL_law_1577 ?_
  refine E_iload (q := 6) rfl dL_law_1578 ?_
  refine E_iconst (v := (2 : Int32)) rfl dL_law_1580 ?_
  refine E_iadd dL_law_1581 ?_
  obtain ⟨h275, hF⟩ := gd_inv hF
  refine E_sld rfl h275 dL_law_1582 ?_
  obtain ⟨q276, h277, hF⟩ := bd_inv hF
  refine E_callV (na := 2) (As := [.int (xs (v5 + (1 : Int32)).toNatClampNeg), .int (xs (v5 + (2 : Int32)).toNatClampNeg)]) (S := []) (kc := (kcv + 6)) (ks := (ksv + 36)) (ci := 10) rfl rfl sh340 (by decide) cwV_RL_207 ⟨Nat.le_of_ble_eq_true rfl, Nat.le_of_ble_eq_true rfl⟩ (T_X8_busyNight hfl fl _ _ _ _ sh340 _ h277) rfl rfl rfl (Nat.le_of_ble_eq_true rfl) dL_law_1583 ?_
  refine E_istore (L' := [(7, .int q276.1), (6, .int q272.1), (0, .ref 400), (1, .ref 320), (2, .ref 340), (3, .ref 350), (4, .ref 351), (5, .int v5)]) (Nat.le_of_ble_eq_true rfl) rfl dL_law_1586 ?_
  refine E_aload_n (j := 2) (i := 2) (q := 4) rfl rfl dL_law_1588 ?_
  obtain ⟨q278, h279, hF⟩ := bd_inv hF
  refine E_callV (na := 0) (As := []) (S := []) (kc := (kcv + 6)) (ks := (ksv + 36)) (ci := 10) rfl rfl sh340 (by decide) cwV_RL_127 ⟨Nat.le_of_ble_eq_true rfl, Nat.le_of_ble_eq_true rfl⟩ (T_X8_thrown hfl fl _ _ sh340 _ h279) rfl rfl rfl (Nat.le_of_ble_eq_true rfl) dL_law_1589 ?_
  refine E_iload (q := 1) rfl dL_law_1592 ?_
  refine E_icmp_eq (tgt := 1599) rfl dL_law_1594 (fun c280 => ?_) (fun c280 => ?_)
  · have hF := ite_t hF c280
    refine E_iload (q := 1) rfl dL_law_1599 ?_
    refine E_if_ne (tgt := 1616) rfl dL_law_1601 (fun c281 => ?_) (fun c281 => ?_)
    · have hF := ite_f hF c281
      refine E_goto (tgt := 2119) rfl dL_law_1616 ?_
      refine E_iinc (q := 7) (v := (v5 + (7 : Int32))) (L' := [(5, .int (v5 + (7 : Int32))), (7, .int q276.1), (6, .int q272.1), (0, .ref 400), (1, .ref 320), (2, .ref 340), (3, .ref 350), (4, .ref 351)]) rfl rfl (Nat.le_of_ble_eq_true rfl) rfl dL_law_2119 ?_
      refine E_goto (tgt := 28) rfl dL_law_2122 ?_
      refine E_weak (kc' := kcv) (ks' := ksv) (by omega) (by omega) ?_
      refine E_sub [3, 4, 5, 6, 7, 0] rfl ?_
      exact hk28 _ _ hF
    · have hF := ite_t hF c281
      refine E_aload_n (j := 3) (i := 3) (q := 5) rfl rfl dL_law_1604 ?_
      refine E_iconst (v := (0 : Int32)) rfl dL_law_1605 ?_
      refine E_lald _ sh350 (by decide) (by decide : inR (0 : Int32) 1) dL_law_1606 ?_
      refine E_iload (q := 0) rfl dL_law_1607 ?_
      refine E_i2l dL_law_1609 ?_
      refine E_lcmp dL_law_1610 ?_
      refine E_if_eq (tgt := 1616) rfl dL_law_1611 (fun c282 => ?_) (fun c282 => ?_)
      · have hF := ite_t hF c282
        refine E_goto (tgt := 2119) rfl dL_law_1616 ?_
        refine E_iinc (q := 7) (v := (v5 + (7 : Int32))) (L' := [(5, .int (v5 + (7 : Int32))), (7, .int q276.1), (6, .int q272.1), (0, .ref 400), (1, .ref 320), (2, .ref 340), (3, .ref 350), (4, .ref 351)]) rfl rfl (Nat.le_of_ble_eq_true rfl) rfl dL_law_2119 ?_
        refine E_goto (tgt := 28) rfl dL_law_2122 ?_
        refine E_weak (kc' := kcv) (ks' := ksv) (by omega) (by omega) ?_
        refine E_sub [3, 4, 5, 6, 7, 0] rfl ?_
        exact hk28 _ _ hF
      · have hF := ite_f hF c282
        refine E_iconst (v := (0 : Int32)) rfl dL_law_1614 ?_
        exact absurd (Option.some.inj hF) (by decide)
  · have hF := ite_f hF c280
    refine E_iconst (v := (0 : Int32)) rfl dL_law_1597 ?_
    exact absurd (Option.some.inj hF) (by decide)
set_option maxHeartbeats 8000000 in
set_option maxRecDepth 100000 in
theorem T_L_law_1619 {l : Launch} (hfl : l.stackTraces = false) (fl : Nat) {Ln : Nat} {xs : Nat → Int32} {r : Rs} {kcv ksv : Nat} {k28 : Int32 → Mem → Option Int32} (hk28 : ∀ (v5 : Int32) (s : Mem), k28 v5 s = some 1 → E l (X_law Ln xs) r false NF s kcv ksv 28 [(0, .ref 400), (1, .ref 320), (2, .ref 340), (3, .ref 350), (4, .ref 351), (5, .int v5)] []) (v5 : Int32) (s : Mem) (hF : B_L_law_1619 k28 fl xs Ln v5 s = some 1) : E l (X_law Ln xs) r false NF s (kcv + 8) (ksv + 48) 1619 [(0, .ref 400), (1, .ref 320), (2, .ref 340), (3, .ref 350), (4, .ref 351), (5, .int v5)] [] := by
  unfold B_L_law_1619 at hF
  refine E_aload_n (j := 1) (i := 1) (q := 1) rfl rfl dL_law_1619 ?_
  refine E_aload_n (j := 0) (i := 0) (q := 0) rfl rfl dL_law_1620 ?_
  refine E_iload (q := 5) rfl dL_law_1621 ?_
  refine E_iconst (v := (1 : Int32)) rfl dL_law_1623 ?_
  refine E_iadd dL_law_1624 ?_
  obtain ⟨h283, hF⟩ := gd_inv hF
  refine E_sld rfl h283 dL_law_1625 ?_
  refine E_aload_n (j := 0) (i := 0) (q := 0) rfl rfl dL_law_1626 ?_
  refine E_iload (q := 5) rfl dL_law_1627 ?_
  refine E_iconst (v := (2 : Int32)) rfl dL_law_1629 ?_
  refine E_iadd dL_law_1630 ?_
  obtain ⟨h284, hF⟩ := gd_inv hF
  refine E_sld rfl h284 dL_law_1631 ?_
  refine E_aload_n (j := 0) (i := 0) (q := 0) rfl rfl dL_law_1632 ?_
  refine E_iload (q := 5) rfl dL_law_1633 ?_
  refine E_iconst (v := (3 : Int32)) rfl dL_law_1635 ?_
  refine E_iadd dL_law_1636 ?_
  obtain ⟨h285, hF⟩ := gd_inv hF
  refine E_sld rfl h285 dL_law_1637 ?_
  refine E_aload_n (j := 3) (i := 3) (q := 3) rfl rfl dL_law_1638 ?_
  obtain ⟨q286, h287, hF⟩ := bd_inv hF
  refine E_weak (kc' := (kcv + 6) + 2) (ks' := (ksv + 36) + 12) (by omega) (by omega) ?_
  refine E_callSH (na := 5) (As := [.ref 320, .int (xs (v5 + (1 : Int32)).toNatClampNeg), .int (xs (v5 + (2 : Int32)).toNatClampNeg), .int (xs (v5 + (3 : Int32)).toNatClampNeg), .ref 350]) (S := []) (kc := (kcv + 6)) (ks := (ksv + 36)) cwSH_RL_208 ⟨Nat.le_of_ble_eq_true rfl, Nat.le_of_ble_eq_true rfl⟩ (T_L_firstFree hfl fl _ _ _ _ _ _ sh320 _ h287) rfl rfl rfl (Nat.le_of_ble_eq_true rfl) dL_law_1639 ?_
  refine E_istore (L' := [(6, .int q286.1), (0, .ref 400), (1, .ref 320), (2, .ref 340), (3, .ref 350), (4, .ref 351), (5, .int v5)]) (Nat.le_of_ble_eq_true rfl) rfl dL_law_1642 ?_
  refine E_aload_n (j := 2) (i := 2) (q := 3) rfl rfl dL_law_1644 ?_
  refine E_aload_n (j := 0) (i := 0) (q := 1) rfl rfl dL_law_1645 ?_
  refine E_iload (q := 6) rfl dL_law_1646 ?_
  refine E_iconst (v := (1 : Int32)) rfl dL_law_1648 ?_
  refine E_iadd dL_law_1649 ?_
  obtain ⟨h288, hF⟩ := gd_inv hF
  refine E_sld rfl h288 dL_law_1650 ?_
  refine E_aload_n (j := 0) (i := 0) (q := 1) rfl rfl dL_law_1651 ?_
  refine E_iload (q := 6) rfl dL_law_1652 ?_
  refine E_iconst (v := (2 : Int32)) rfl dL_law_1654 ?_
  refine E_iadd dL_law_1655 ?_
  obtain ⟨h289, hF⟩ := gd_inv hF
  refine E_sld rfl h289 dL_law_1656 ?_
  refine E_aload_n (j := 0) (i := 0) (q := 1) rfl rfl dL_law_1657 ?_
  refine E_iload (q := 6) rfl dL_law_1658 ?_
  refine E_iconst (v := (3 : Int32)) rfl dL_law_1660 ?_
  refine E_iadd dL_law_1661 ?_
  obtain ⟨h290, hF⟩ := gd_inv hF
  refine E_sld rfl h290 dL_law_1662 ?_
  obtain ⟨q291, h292, hF⟩ := bd_inv hF
  refine E_callV (na := 3) (As := [.int (xs (v5 + (1 : Int32)).toNatClampNeg), .int (xs (v5 + (2 : Int32)).toNatClampNeg), .int (xs (v5 + (3 : Int32)).toNatClampNeg)]) (S := []) (kc := (kcv + 6)) (ks := (ksv + 36)) (ci := 10) rfl rfl sh340 (by decide) cwV_RL_210 ⟨Nat.le_of_ble_eq_true rfl, Nat.le_of_ble_eq_true rfl⟩ (T_X8_firstFree hfl fl _ _ _ _ _ sh340 _ h292) rfl rfl rfl (Nat.le_of_ble_eq_true rfl) dL_law_1663 ?_
  refine E_istore (L' := [(7, .int q291.1), (6, .int q286.1), (0, .ref 400), (1, .ref 320), (2, .ref 340), (3, .ref 350), (4, .ref 351), (5, .int v5)]) (Nat.le_of_ble_eq_true rfl) rfl dL_law_1666 ?_
  refine E_aload_n (j := 2) (i := 2) (q := 4) rfl rfl dL_law_1668 ?_
  obtain ⟨q293, h294, hF⟩ := bd_inv hF
  refine E_callV (na := 0) (As := []) (S := []) (kc := (kcv + 6)) (ks := (ksv + 36)) (ci := 10) rfl rfl sh340 (by decide) cwV_RL_127 ⟨Nat.le_of_ble_eq_true rfl, Nat.le_of_ble_eq_true rfl⟩ (T_X8_thrown hfl fl _ _ sh340 _ h294) rfl rfl rfl (Nat.le_of_ble_eq_true rfl) dL_law_1669 ?_
  refine E_iload (q := 1) rfl dL_law_1672 ?_
  refine E_icmp_eq (tgt := 1679) rfl dL_law_1674 (fun c295 => ?_) (fun c295 => ?_)
  · have hF := ite_t hF c295
    refine E_iload (q := 1) rfl dL_law_1679 ?_
    refine E_if_ne (tgt := 1696) rfl dL_law_1681 (fun c296 => ?_) (fun c296 => ?_)
    · have hF := ite_f hF c296
      refine E_goto (tgt := 2119) rfl dL_law_1696 ?_
      refine E_iinc (q := 7) (v := (v5 + (7 : Int32))) (L' := [(5, .int (v5 + (7 : Int32))), (7, .int q291.1), (6, .int q286.1), (0, .ref 400), (1, .ref 320), (2, .ref 340), (3, .ref 350), (4, .ref 351)]) rfl rfl (Nat.le_of_ble_eq_true rfl) rfl dL_law_2119 ?_
      refine E_goto (tgt := 28) rfl dL_law_2122 ?_
      refine E_weak (kc' := kcv) (ks' := ksv) (by omega) (by omega) ?_
      refine E_sub [3, 4, 5, 6, 7, 0] rfl ?_
      exact hk28 _ _ hF
    · have hF := ite_t hF c296
      refine E_aload_n (j := 3) (i := 3) (q := 5) rfl rfl dL_law_1684 ?_
      refine E_iconst (v := (0 : Int32)) rfl dL_law_1685 ?_
      refine E_lald _ sh350 (by decide) (by decide : inR (0 : Int32) 1) dL_law_1686 ?_
      refine E_iload (q := 0) rfl dL_law_1687 ?_
      refine E_i2l dL_law_1689 ?_
      refine E_lcmp dL_law_1690 ?_
      refine E_if_eq (tgt := 1696) rfl dL_law_1691 (fun c297 => ?_) (fun c297 => ?_)
      · have hF := ite_t hF c297
        refine E_goto (tgt := 2119) rfl dL_law_1696 ?_
        refine E_iinc (q := 7) (v := (v5 + (7 : Int32))) (L' := [(5, .int (v5 + (7 : Int32))), (7, .int q291.1), (6, .int q286.1), (0, .ref 400), (1, .ref 320), (2, .ref 340), (3, .ref 350), (4, .ref 351)]) rfl rfl (Nat.le_of_ble_eq_true rfl) rfl dL_law_2119 ?_
        refine E_goto (tgt := 28) rfl dL_law_2122 ?_
        refine E_weak (kc' := kcv) (ks' := ksv) (by omega) (by omega) ?_
        refine E_sub [3, 4, 5, 6, 7, 0] rfl ?_
        exact hk28 _ _ hF
      · have hF := ite_f hF c297
        refine E_iconst (v := (0 : Int32)) rfl dL_law_1694 ?_
        exact absurd (Option.some.inj hF) (by decide)
  · have hF := ite_f hF c295
    refine E_iconst (v := (0 : Int32)) rfl dL_law_1677 ?_
    exact absurd (Option.some.inj hF) (by decide)
set_option maxHeartbeats 8000000 in
set_option maxRecDepth 100000 in
theorem T_L_law_1699 {l : Launch} (hfl : l.stackTraces = false) (fl : Nat) {Ln : Nat} {xs : Nat → Int32} {r : Rs} {kcv ksv : Nat} {k28 : Int32 → Mem → Option Int32} (hk28 : ∀ (v5 : Int32) (s : Mem), k28 v5 s = some 1 → E l (X_law Ln xs) r false NF s kcv ksv 28 [(0, .ref 400), (1, .ref 320), (2, .ref 340), (3, .ref 350), (4, .ref 351), (5, .int v5)] []) (v5 : Int32) (s : Mem) (hF : B_L_law_1699 k28 fl xs Ln v5 s = some 1) : E l (X_law Ln xs) r false NF s (kcv + 8) (ksv + 48) 1699 [(0, .ref 400), (1, .ref 320), (2, .ref 340), (3, .ref 350), (4, .ref 351), (5, .int v5)] [] := by
  unfold B_L_law_1699 at hF
  refine E_aload_n (j := 1) (i := 1) (q := 1) rfl rfl dL_law_1699 ?_
  refine E_aload_n (j := 0) (i := 0) (q := 0) rfl rfl dL_law_1700 ?_
  refine E_iload (q := 5) rfl dL_law_1701 ?_
  refine E_iconst (v := (1 : Int32)) rfl dL_law_1703 ?_
  refine E_iadd dL_law_1704 ?_
  obtain ⟨h298, hF⟩ := gd_inv hF
  refine E_sld rfl h298 dL_law_1705 ?_
  refine E_aload_n (j := 0) (i := 0) (q := 0) rfl rfl dL_law_1706 ?_
  refine E_iload (q := 5) rfl dL_law_1707 ?_
  refine E_iconst (v := (2 : Int32)) rfl dL_law_1709 ?_
  refine E_iadd dL_law_1710 ?_
  obtain ⟨h299, hF⟩ := gd_inv hF
  refine E_sld rfl h299 dL_law_1711 ?_
  refine E_aload_n (j := 3) (i := 3) (q := 3) rfl rfl dL_law_1712 ?_
  obtain ⟨q300, h301, hF⟩ := bd_inv hF
  refine E_weak (kc' := (kcv + 6) + 2) (ks' := (ksv + 36) + 12) (by omega) (by omega) ?_
  refine E_callSH (na := 4) (As := [.ref 320, .int (xs (v5 + (1 : Int32)).toNatClampNeg), .int (xs (v5 + (2 : Int32)).toNatClampNeg), .ref 350]) (S := []) (kc := (kcv + 6)) (ks := (ksv + 36)) cwSH_RL_211 ⟨Nat.le_of_ble_eq_true rfl, Nat.le_of_ble_eq_true rfl⟩ (T_L_power hfl fl _ _ _ _ _ sh320 _ h301) rfl rfl rfl (Nat.le_of_ble_eq_true rfl) dL_law_1713 ?_
  refine E_istore (L' := [(6, .int q300.1), (0, .ref 400), (1, .ref 320), (2, .ref 340), (3, .ref 350), (4, .ref 351), (5, .int v5)]) (Nat.le_of_ble_eq_true rfl) rfl dL_law_1716 ?_
  refine E_aload_n (j := 2) (i := 2) (q := 3) rfl rfl dL_law_1718 ?_
  refine E_aload_n (j := 0) (i := 0) (q := 1) rfl rfl dL_law_1719 ?_
  refine E_iload (q := 6) rfl dL_law_1720 ?_
  refine E_iconst (v := (1 : Int32)) rfl dL_law_1722 ?_
  refine E_iadd dL_law_1723 ?_
  obtain ⟨h302, hF⟩ := gd_inv hF
  refine E_sld rfl h302 dL_law_1724 ?_
  refine E_aload_n (j := 0) (i := 0) (q := 1) rfl rfl dL_law_1725 ?_
  refine E_iload (q := 6) rfl dL_law_1726 ?_
  refine E_iconst (v := (2 : Int32)) rfl dL_law_1728 ?_
  refine E_iadd dL_law_1729 ?_
  obtain ⟨h303, hF⟩ := gd_inv hF
  refine E_sld rfl h303 dL_law_1730 ?_
  obtain ⟨q304, h305, hF⟩ := bd_inv hF
  refine E_callV (na := 2) (As := [.int (xs (v5 + (1 : Int32)).toNatClampNeg), .int (xs (v5 + (2 : Int32)).toNatClampNeg)]) (S := []) (kc := (kcv + 6)) (ks := (ksv + 36)) (ci := 10) rfl rfl sh340 (by decide) cwV_RL_213 ⟨Nat.le_of_ble_eq_true rfl, Nat.le_of_ble_eq_true rfl⟩ (T_X8_power hfl fl _ _ _ _ sh340 _ h305) rfl rfl rfl (Nat.le_of_ble_eq_true rfl) dL_law_1731 ?_
  refine E_istore (L' := [(7, .int q304.1), (6, .int q300.1), (0, .ref 400), (1, .ref 320), (2, .ref 340), (3, .ref 350), (4, .ref 351), (5, .int v5)]) (Nat.le_of_ble_eq_true rfl) rfl dL_law_1734 ?_
  refine E_aload_n (j := 2) (i := 2) (q := 4) rfl rfl dL_law_1736 ?_
  obtain ⟨q306, h307, hF⟩ := bd_inv hF
  refine E_callV (na := 0) (As := []) (S := []) (kc := (kcv + 6)) (ks := (ksv + 36)) (ci := 10) rfl rfl sh340 (by decide) cwV_RL_127 ⟨Nat.le_of_ble_eq_true rfl, Nat.le_of_ble_eq_true rfl⟩ (T_X8_thrown hfl fl _ _ sh340 _ h307) rfl rfl rfl (Nat.le_of_ble_eq_true rfl) dL_law_1737 ?_
  refine E_iload (q := 1) rfl dL_law_1740 ?_
  refine E_icmp_eq (tgt := 1747) rfl dL_law_1742 (fun c308 => ?_) (fun c308 => ?_)
  · have hF := ite_t hF c308
    refine E_iload (q := 1) rfl dL_law_1747 ?_
    refine E_if_ne (tgt := 1764) rfl dL_law_1749 (fun c309 => ?_) (fun c309 => ?_)
    · have hF := ite_f hF c309
      refine E_goto (tgt := 2119) rfl dL_law_1764 ?_
      refine E_iinc (q := 7) (v := (v5 + (7 : Int32))) (L' := [(5, .int (v5 + (7 : Int32))), (7, .int q304.1), (6, .int q300.1), (0, .ref 400), (1, .ref 320), (2, .ref 340), (3, .ref 350), (4, .ref 351)]) rfl rfl (Nat.le_of_ble_eq_true rfl) rfl dL_law_2119 ?_
      refine E_goto (tgt := 28) rfl dL_law_2122 ?_
      refine E_weak (kc' := kcv) (ks' := ksv) (by omega) (by omega) ?_
      refine E_sub [3, 4, 5, 6, 7, 0] rfl ?_
      exact hk28 _ _ hF
    · have hF := ite_t hF c309
      refine E_aload_n (j := 3) (i := 3) (q := 5) rfl rfl dL_law_1752 ?_
      refine E_iconst (v := (0 : Int32)) rfl dL_law_1753 ?_
      refine E_lald _ sh350 (by decide) (by decide : inR (0 : Int32) 1) dL_law_1754 ?_
      refine E_iload (q := 0) rfl dL_law_1755 ?_
      refine E_i2l dL_law_1757 ?_
      refine E_lcmp dL_law_1758 ?_
      refine E_if_eq (tgt := 1764) rfl dL_law_1759 (fun c310 => ?_) (fun c310 => ?_)
      · have hF := ite_t hF c310
        refine E_goto (tgt := 2119) rfl dL_law_1764 ?_
        refine E_iinc (q := 7) (v := (v5 + (7 : Int32))) (L' := [(5, .int (v5 + (7 : Int32))), (7, .int q304.1), (6, .int q300.1), (0, .ref 400), (1, .ref 320), (2, .ref 340), (3, .ref 350), (4, .ref 351)]) rfl rfl (Nat.le_of_ble_eq_true rfl) rfl dL_law_2119 ?_
        refine E_goto (tgt := 28) rfl dL_law_2122 ?_
        refine E_weak (kc' := kcv) (ks' := ksv) (by omega) (by omega) ?_
        refine E_sub [3, 4, 5, 6, 7, 0] rfl ?_
        exact hk28 _ _ hF
      · have hF := ite_f hF c310
        refine E_iconst (v := (0 : Int32)) rfl dL_law_1762 ?_
        exact absurd (Option.some.inj hF) (by decide)
  · have hF := ite_f hF c308
    refine E_iconst (v := (0 : Int32)) rfl dL_law_1745 ?_
    exact absurd (Option.some.inj hF) (by decide)
set_option maxHeartbeats 8000000 in
set_option maxRecDepth 100000 in
theorem T_L_law_1767 {l : Launch} (hfl : l.stackTraces = false) (fl : Nat) {Ln : Nat} {xs : Nat → Int32} {r : Rs} {kcv ksv : Nat} {k28 : Int32 → Mem → Option Int32} (hk28 : ∀ (v5 : Int32) (s : Mem), k28 v5 s = some 1 → E l (X_law Ln xs) r false NF s kcv ksv 28 [(0, .ref 400), (1, .ref 320), (2, .ref 340), (3, .ref 350), (4, .ref 351), (5, .int v5)] []) (v5 : Int32) (s : Mem) (hF : B_L_law_1767 k28 fl xs Ln v5 s = some 1) : E l (X_law Ln xs) r false NF s (kcv + 8) (ksv + 48) 1767 [(0, .ref 400), (1, .ref 320), (2, .ref 340), (3, .ref 350), (4, .ref 351), (5, .int v5)] [] := by
  unfold B_L_law_1767 at hF
  refine E_aload_n (j := 1) (i := 1) (q := 1) rfl rfl dL_law_1767 ?_
  refine E_aload_n (j := 0) (i := 0) (q := 0) rfl rfl dL_law_1768 ?_
  refine E_iload (q := 5) rfl dL_law_1769 ?_
  refine E_iconst (v := (1 : Int32)) rfl dL_law_1771 ?_
  refine E_iadd dL_law_1772 ?_
  obtain ⟨h311, hF⟩ := gd_inv hF
  refine E_sld rfl h311 dL_law_1773 ?_
  refine E_aload_n (j := 3) (i := 3) (q := 3) rfl rfl dL_law_1774 ?_
  obtain ⟨q312, h313, hF⟩ := bd_inv hF
  refine E_weak (kc' := (kcv + 6) + 2) (ks' := (ksv + 36) + 12) (by omega) (by omega) ?_
  refine E_callSH (na := 3) (As := [.ref 320, .int (xs (v5 + (1 : Int32)).toNatClampNeg), .ref 350]) (S := []) (kc := (kcv + 6)) (ks := (ksv + 36)) cwSH_RL_214 ⟨Nat.le_of_ble_eq_true rfl, Nat.le_of_ble_eq_true rfl⟩ (T_L_peak hfl fl _ _ _ _ sh320 _ h313) rfl rfl rfl (Nat.le_of_ble_eq_true rfl) dL_law_1775 ?_
  refine E_istore (L' := [(6, .int q312.1), (0, .ref 400), (1, .ref 320), (2, .ref 340), (3, .ref 350), (4, .ref 351), (5, .int v5)]) (Nat.le_of_ble_eq_true rfl) rfl dL_law_1778 ?_
  refine E_aload_n (j := 2) (i := 2) (q := 3) rfl rfl dL_law_1780 ?_
  refine E_aload_n (j := 0) (i := 0) (q := 1) rfl rfl dL_law_1781 ?_
  refine E_iload (q := 6) rfl dL_law_1782 ?_
  refine E_iconst (v := (1 : Int32)) rfl dL_law_1784 ?_
  refine E_iadd dL_law_1785 ?_
  obtain ⟨h314, hF⟩ := gd_inv hF
  refine E_sld rfl h314 dL_law_1786 ?_
  obtain ⟨q315, h316, hF⟩ := bd_inv hF
  refine E_callV (na := 1) (As := [.int (xs (v5 + (1 : Int32)).toNatClampNeg)]) (S := []) (kc := (kcv + 6)) (ks := (ksv + 36)) (ci := 10) rfl rfl sh340 (by decide) cwV_RL_216 ⟨Nat.le_of_ble_eq_true rfl, Nat.le_of_ble_eq_true rfl⟩ (T_X8_peak hfl fl _ _ _ sh340 _ h316) rfl rfl rfl (Nat.le_of_ble_eq_true rfl) dL_law_1787 ?_
  refine E_istore (L' := [(7, .int q315.1), (6, .int q312.1), (0, .ref 400), (1, .ref 320), (2, .ref 340), (3, .ref 350), (4, .ref 351), (5, .int v5)]) (Nat.le_of_ble_eq_true rfl) rfl dL_law_1790 ?_
  refine E_aload_n (j := 2) (i := 2) (q := 4) rfl rfl dL_law_1792 ?_
  obtain ⟨q317, h318, hF⟩ := bd_inv hF
  refine E_callV (na := 0) (As := []) (S := []) (kc := (kcv + 6)) (ks := (ksv + 36)) (ci := 10) rfl rfl sh340 (by decide) cwV_RL_127 ⟨Nat.le_of_ble_eq_true rfl, Nat.le_of_ble_eq_true rfl⟩ (T_X8_thrown hfl fl _ _ sh340 _ h318) rfl rfl rfl (Nat.le_of_ble_eq_true rfl) dL_law_1793 ?_
  refine E_iload (q := 1) rfl dL_law_1796 ?_
  refine E_icmp_eq (tgt := 1803) rfl dL_law_1798 (fun c319 => ?_) (fun c319 => ?_)
  · have hF := ite_t hF c319
    refine E_iload (q := 1) rfl dL_law_1803 ?_
    refine E_if_ne (tgt := 1820) rfl dL_law_1805 (fun c320 => ?_) (fun c320 => ?_)
    · have hF := ite_f hF c320
      refine E_goto (tgt := 2119) rfl dL_law_1820 ?_
      refine E_iinc (q := 7) (v := (v5 + (7 : Int32))) (L' := [(5, .int (v5 + (7 : Int32))), (7, .int q315.1), (6, .int q312.1), (0, .ref 400), (1, .ref 320), (2, .ref 340), (3, .ref 350), (4, .ref 351)]) rfl rfl (Nat.le_of_ble_eq_true rfl) rfl dL_law_2119 ?_
      refine E_goto (tgt := 28) rfl dL_law_2122 ?_
      refine E_weak (kc' := kcv) (ks' := ksv) (by omega) (by omega) ?_
      refine E_sub [3, 4, 5, 6, 7, 0] rfl ?_
      exact hk28 _ _ hF
    · have hF := ite_t hF c320
      refine E_aload_n (j := 3) (i := 3) (q := 5) rfl rfl dL_law_1808 ?_
      refine E_iconst (v := (0 : Int32)) rfl dL_law_1809 ?_
      refine E_lald _ sh350 (by decide) (by decide : inR (0 : Int32) 1) dL_law_1810 ?_
      refine E_iload (q := 0) rfl dL_law_1811 ?_
      refine E_i2l dL_law_1813 ?_
      refine E_lcmp dL_law_1814 ?_
      refine E_if_eq (tgt := 1820) rfl dL_law_1815 (fun c321 => ?_) (fun c321 => ?_)
      · have hF := ite_t hF c321
        refine E_goto (tgt := 2119) rfl dL_law_1820 ?_
        refine E_iinc (q := 7) (v := (v5 + (7 : Int32))) (L' := [(5, .int (v5 + (7 : Int32))), (7, .int q315.1), (6, .int q312.1), (0, .ref 400), (1, .ref 320), (2, .ref 340), (3, .ref 350), (4, .ref 351)]) rfl rfl (Nat.le_of_ble_eq_true rfl) rfl dL_law_2119 ?_
        refine E_goto (tgt := 28) rfl dL_law_2122 ?_
        refine E_weak (kc' := kcv) (ks' := ksv) (by omega) (by omega) ?_
        refine E_sub [3, 4, 5, 6, 7, 0] rfl ?_
        exact hk28 _ _ hF
      · have hF := ite_f hF c321
        refine E_iconst (v := (0 : Int32)) rfl dL_law_1818 ?_
        exact absurd (Option.some.inj hF) (by decide)
  · have hF := ite_f hF c319
    refine E_iconst (v := (0 : Int32)) rfl dL_law_1801 ?_
    exact absurd (Option.some.inj hF) (by decide)
set_option maxHeartbeats 8000000 in
set_option maxRecDepth 100000 in
theorem T_L_law_1823 {l : Launch} (hfl : l.stackTraces = false) (fl : Nat) {Ln : Nat} {xs : Nat → Int32} {r : Rs} {kcv ksv : Nat} {k28 : Int32 → Mem → Option Int32} (hk28 : ∀ (v5 : Int32) (s : Mem), k28 v5 s = some 1 → E l (X_law Ln xs) r false NF s kcv ksv 28 [(0, .ref 400), (1, .ref 320), (2, .ref 340), (3, .ref 350), (4, .ref 351), (5, .int v5)] []) (v5 : Int32) (s : Mem) (hF : B_L_law_1823 k28 fl xs Ln v5 s = some 1) : E l (X_law Ln xs) r false NF s (kcv + 8) (ksv + 48) 1823 [(0, .ref 400), (1, .ref 320), (2, .ref 340), (3, .ref 350), (4, .ref 351), (5, .int v5)] [] := by
  unfold B_L_law_1823 at hF
  refine E_aload_n (j := 1) (i := 1) (q := 1) rfl rfl dL_law_1823 ?_
  refine E_aload_n (j := 0) (i := 0) (q := 0) rfl rfl dL_law_1824 ?_
  refine E_iload (q := 5) rfl dL_law_1825 ?_
  refine E_iconst (v := (1 : Int32)) rfl dL_law_1827 ?_
  refine E_iadd dL_law_1828 ?_
  obtain ⟨h322, hF⟩ := gd_inv hF
  refine E_sld rfl h322 dL_law_1829 ?_
  refine E_aload_n (j := 0) (i := 0) (q := 0) rfl rfl dL_law_1830 ?_
  refine E_iload (q := 5) rfl dL_law_1831 ?_
  refine E_iconst (v := (2 : Int32)) rfl dL_law_1833 ?_
  refine E_iadd dL_law_1834 ?_
  obtain ⟨h323, hF⟩ := gd_inv hF
  refine E_sld rfl h323 dL_law_1835 ?_
  refine E_aload_n (j := 0) (i := 0) (q := 0) rfl rfl dL_law_1836 ?_
  refine E_iload (q := 5) rfl dL_law_1837 ?_
  refine E_iconst (v := (3 : Int32)) rfl dL_law_1839 ?_
  refine E_iadd dL_law_1840 ?_
  obtain ⟨h324, hF⟩ := gd_inv hF
  refine E_sld rfl h324 dL_law_1841 ?_
  refine E_if_eq (tgt := 1849) rfl dL_law_1842 (fun c325 => ?_) (fun c325 => ?_)
  · have hF := ite_t hF c325
    refine E_iconst (v := (0 : Int32)) rfl dL_law_1849 ?_
    refine E_aload_n (j := 3) (i := 3) (q := 3) rfl rfl dL_law_1850 ?_
    obtain ⟨q326, h327, hF⟩ := bd_inv hF
    refine E_weak (kc' := (kcv + 6) + 2) (ks' := (ksv + 36) + 12) (by omega) (by omega) ?_
    refine E_callSH (na := 5) (As := [.ref 320, .int (xs (v5 + (1 : Int32)).toNatClampNeg), .int (xs (v5 + (2 : Int32)).toNatClampNeg), .int (0 : Int32), .ref 350]) (S := []) (kc := (kcv + 6)) (ks := (ksv + 36)) cwSH_RL_217 ⟨Nat.le_of_ble_eq_true rfl, Nat.le_of_ble_eq_true rfl⟩ (T_L_gap hfl fl _ _ _ _ _ _ sh320 _ h327) rfl rfl rfl (Nat.le_of_ble_eq_true rfl) dL_law_1851 ?_
    refine E_istore (L' := [(6, .int q326.1), (0, .ref 400), (1, .ref 320), (2, .ref 340), (3, .ref 350), (4, .ref 351), (5, .int v5)]) (Nat.le_of_ble_eq_true rfl) rfl dL_law_1854 ?_
    refine E_aload_n (j := 2) (i := 2) (q := 3) rfl rfl dL_law_1856 ?_
    refine E_aload_n (j := 0) (i := 0) (q := 1) rfl rfl dL_law_1857 ?_
    refine E_iload (q := 6) rfl dL_law_1858 ?_
    refine E_iconst (v := (1 : Int32)) rfl dL_law_1860 ?_
    refine E_iadd dL_law_1861 ?_
    obtain ⟨h328, hF⟩ := gd_inv hF
    refine E_sld rfl h328 dL_law_1862 ?_
    refine E_aload_n (j := 0) (i := 0) (q := 1) rfl rfl dL_law_1863 ?_
    refine E_iload (q := 6) rfl dL_law_1864 ?_
    refine E_iconst (v := (2 : Int32)) rfl dL_law_1866 ?_
    refine E_iadd dL_law_1867 ?_
    obtain ⟨h329, hF⟩ := gd_inv hF
    refine E_sld rfl h329 dL_law_1868 ?_
    refine E_aload_n (j := 0) (i := 0) (q := 1) rfl rfl dL_law_1869 ?_
    refine E_iload (q := 6) rfl dL_law_1870 ?_
    refine E_iconst (v := (3 : Int32)) rfl dL_law_1872 ?_
    refine E_iadd dL_law_1873 ?_
    obtain ⟨h330, hF⟩ := gd_inv hF
    refine E_sld rfl h330 dL_law_1874 ?_
    refine E_if_eq (tgt := 1882) rfl dL_law_1875 (fun c331 => ?_) (fun c331 => ?_)
    · have hF := ite_t hF c331
      refine E_iconst (v := (0 : Int32)) rfl dL_law_1882 ?_
      obtain ⟨q332, h333, hF⟩ := bd_inv hF
      refine E_callV (na := 3) (As := [.int (xs (v5 + (1 : Int32)).toNatClampNeg), .int (xs (v5 + (2 : Int32)).toNatClampNeg), .int (0 : Int32)]) (S := []) (kc := (kcv + 6)) (ks := (ksv + 36)) (ci := 10) rfl rfl sh340 (by decide) cwV_RL_220 ⟨Nat.le_of_ble_eq_true rfl, Nat.le_of_ble_eq_true rfl⟩ (T_X8_gap hfl fl _ _ _ _ _ sh340 _ h333) rfl rfl rfl (Nat.le_of_ble_eq_true rfl) dL_law_1883 ?_
      refine E_istore (L' := [(7, .int q332.1), (6, .int q326.1), (0, .ref 400), (1, .ref 320), (2, .ref 340), (3, .ref 350), (4, .ref 351), (5, .int v5)]) (Nat.le_of_ble_eq_true rfl) rfl dL_law_1886 ?_
      refine E_aload_n (j := 2) (i := 2) (q := 4) rfl rfl dL_law_1888 ?_
      obtain ⟨q334, h335, hF⟩ := bd_inv hF
      refine E_callV (na := 0) (As := []) (S := []) (kc := (kcv + 6)) (ks := (ksv + 36)) (ci := 10) rfl rfl sh340 (by decide) cwV_RL_127 ⟨Nat.le_of_ble_eq_true rfl, Nat.le_of_ble_eq_true rfl⟩ (T_X8_thrown hfl fl _ _ sh340 _ h335) rfl rfl rfl (Nat.le_of_ble_eq_true rfl) dL_law_1889 ?_
      refine E_iload (q := 1) rfl dL_law_1892 ?_
      refine E_icmp_eq (tgt := 1899) rfl dL_law_1894 (fun c336 => ?_) (fun c336 => ?_)
      · have hF := ite_t hF c336
        refine E_iload (q := 1) rfl dL_law_1899 ?_
        refine E_if_ne (tgt := 1916) rfl dL_law_1901 (fun c337 => ?_) (fun c337 => ?_)
        · have hF := ite_f hF c337
          refine E_goto (tgt := 2119) rfl dL_law_1916 ?_
          refine E_iinc (q := 7) (v := (v5 + (7 : Int32))) (L' := [(5, .int (v5 + (7 : Int32))), (7, .int q332.1), (6, .int q326.1), (0, .ref 400), (1, .ref 320), (2, .ref 340), (3, .ref 350), (4, .ref 351)]) rfl rfl (Nat.le_of_ble_eq_true rfl) rfl dL_law_2119 ?_
          refine E_goto (tgt := 28) rfl dL_law_2122 ?_
          refine E_weak (kc' := kcv) (ks' := ksv) (by omega) (by omega) ?_
          refine E_sub [3, 4, 5, 6, 7, 0] rfl ?_
          exact hk28 _ _ hF
        · have hF := ite_t hF c337
          refine E_aload_n (j := 3) (i := 3) (q := 5) rfl rfl dL_law_1904 ?_
          refine E_iconst (v := (0 : Int32)) rfl dL_law_1905 ?_
          refine E_lald _ sh350 (by decide) (by decide : inR (0 : Int32) 1) dL_law_1906 ?_
          refine E_iload (q := 0) rfl dL_law_1907 ?_
          refine E_i2l dL_law_1909 ?_
          refine E_lcmp dL_law_1910 ?_
          refine E_if_eq (tgt := 1916) rfl dL_law_1911 (fun c338 => ?_) (fun c338 => ?_)
          · have hF := ite_t hF c338
            refine E_goto (tgt := 2119) rfl dL_law_1916 ?_
            refine E_iinc (q := 7) (v := (v5 + (7 : Int32))) (L' := [(5, .int (v5 + (7 : Int32))), (7, .int q332.1), (6, .int q326.1), (0, .ref 400), (1, .ref 320), (2, .ref 340), (3, .ref 350), (4, .ref 351)]) rfl rfl (Nat.le_of_ble_eq_true rfl) rfl dL_law_2119 ?_
            refine E_goto (tgt := 28) rfl dL_law_2122 ?_
            refine E_weak (kc' := kcv) (ks' := ksv) (by omega) (by omega) ?_
            refine E_sub [3, 4, 5, 6, 7, 0] rfl ?_
            exact hk28 _ _ hF
          · have hF := ite_f hF c338
            refine E_iconst (v := (0 : Int32)) rfl dL_law_1914 ?_
            exact absurd (Option.some.inj hF) (by decide)
      · have hF := ite_f hF c336
        refine E_iconst (v := (0 : Int32)) rfl dL_law_1897 ?_
        exact absurd (Option.some.inj hF) (by decide)
    · have hF := ite_f hF c331
      refine E_iconst (v := (1 : Int32)) rfl dL_law_1878 ?_
      refine E_goto (tgt := 1883) rfl dL_law_1879 ?_
      obtain ⟨q339, h340, hF⟩ := bd_inv hF
      refine E_callV (na := 3) (As := [.int (xs (v5 + (1 : Int32)).toNatClampNeg), .int (xs (v5 + (2 : Int32)).toNatClampNeg), .int (1 : Int32)]) (S := []) (kc := (kcv + 6)) (ks := (ksv + 36)) (ci := 10) rfl rfl sh340 (by decide) cwV_RL_220 ⟨Nat.le_of_ble_eq_true rfl, Nat.le_of_ble_eq_true rfl⟩ (T_X8_gap hfl fl _ _ _ _ _ sh340 _ h340) rfl rfl rfl (Nat.le_of_ble_eq_true rfl) dL_law_1883 ?_
      refine E_istore (L' := [(7, .int q339.1), (6, .int q326.1), (0, .ref 400), (1, .ref 320), (2, .ref 340), (3, .ref 350), (4, .ref 351), (5, .int v5)]) (Nat.le_of_ble_eq_true rfl) rfl dL_law_1886 ?_
      refine E_aload_n (j := 2) (i := 2) (q := 4) rfl rfl dL_law_1888 ?_
      obtain ⟨q341, h342, hF⟩ := bd_inv hF
      refine E_callV (na := 0) (As := []) (S := []) (kc := (kcv + 6)) (ks := (ksv + 36)) (ci := 10) rfl rfl sh340 (by decide) cwV_RL_127 ⟨Nat.le_of_ble_eq_true rfl, Nat.le_of_ble_eq_true rfl⟩ (T_X8_thrown hfl fl _ _ sh340 _ h342) rfl rfl rfl (Nat.le_of_ble_eq_true rfl) dL_law_1889 ?_
      refine E_iload (q := 1) rfl dL_law_1892 ?_
      refine E_icmp_eq (tgt := 1899) rfl dL_law_1894 (fun c343 => ?_) (fun c343 => ?_)
      · have hF := ite_t hF c343
        refine E_iload (q := 1) rfl dL_law_1899 ?_
        refine E_if_ne (tgt := 1916) rfl dL_law_1901 (fun c344 => ?_) (fun c344 => ?_)
        · have hF := ite_f hF c344
          refine E_goto (tgt := 2119) rfl dL_law_1916 ?_
          refine E_iinc (q := 7) (v := (v5 + (7 : Int32))) (L' := [(5, .int (v5 + (7 : Int32))), (7, .int q339.1), (6, .int q326.1), (0, .ref 400), (1, .ref 320), (2, .ref 340), (3, .ref 350), (4, .ref 351)]) rfl rfl (Nat.le_of_ble_eq_true rfl) rfl dL_law_2119 ?_
          refine E_goto (tgt := 28) rfl dL_law_2122 ?_
          refine E_weak (kc' := kcv) (ks' := ksv) (by omega) (by omega) ?_
          refine E_sub [3, 4, 5, 6, 7, 0] rfl ?_
          exact hk28 _ _ hF
        · have hF := ite_t hF c344
          refine E_aload_n (j := 3) (i := 3) (q := 5) rfl rfl dL_law_1904 ?_
          refine E_iconst (v := (0 : Int32)) rfl dL_law_1905 ?_
          refine E_lald _ sh350 (by decide) (by decide : inR (0 : Int32) 1) dL_law_1906 ?_
          refine E_iload (q := 0) rfl dL_law_1907 ?_
          refine E_i2l dL_law_1909 ?_
          refine E_lcmp dL_law_1910 ?_
          refine E_if_eq (tgt := 1916) rfl dL_law_1911 (fun c345 => ?_) (fun c345 => ?_)
          · have hF := ite_t hF c345
            refine E_goto (tgt := 2119) rfl dL_law_1916 ?_
            refine E_iinc (q := 7) (v := (v5 + (7 : Int32))) (L' := [(5, .int (v5 + (7 : Int32))), (7, .int q339.1), (6, .int q326.1), (0, .ref 400), (1, .ref 320), (2, .ref 340), (3, .ref 350), (4, .ref 351)]) rfl rfl (Nat.le_of_ble_eq_true rfl) rfl dL_law_2119 ?_
            refine E_goto (tgt := 28) rfl dL_law_2122 ?_
            refine E_weak (kc' := kcv) (ks' := ksv) (by omega) (by omega) ?_
            refine E_sub [3, 4, 5, 6, 7, 0] rfl ?_
            exact hk28 _ _ hF
          · have hF := ite_f hF c345
            refine E_iconst (v := (0 : Int32)) rfl dL_law_1914 ?_
            exact absurd (Option.some.inj hF) (by decide)
      · have hF := ite_f hF c343
        refine E_iconst (v := (0 : Int32)) rfl dL_law_1897 ?_
        exact absurd (Option.some.inj hF) (by decide)
  · have hF := ite_f hF c325
    refine E_iconst (v := (1 : Int32)) rfl dL_law_1845 ?_
    refine E_goto (tgt := 1850) rfl dL_law_1846 ?_
    refine E_aload_n (j := 3) (i := 3) (q := 3) rfl rfl dL_law_1850 ?_
    obtain ⟨q346, h347, hF⟩ := bd_inv hF
    refine E_weak (kc' := (kcv + 6) + 2) (ks' := (ksv + 36) + 12) (by omega) (by omega) ?_
    refine E_callSH (na := 5) (As := [.ref 320, .int (xs (v5 + (1 : Int32)).toNatClampNeg), .int (xs (v5 + (2 : Int32)).toNatClampNeg), .int (1 : Int32), .ref 350]) (S := []) (kc := (kcv + 6)) (ks := (ksv + 36)) cwSH_RL_217 ⟨Nat.le_of_ble_eq_true rfl, Nat.le_of_ble_eq_true rfl⟩ (T_L_gap hfl fl _ _ _ _ _ _ sh320 _ h347) rfl rfl rfl (Nat.le_of_ble_eq_true rfl) dL_law_1851 ?_
    refine E_istore (L' := [(6, .int q346.1), (0, .ref 400), (1, .ref 320), (2, .ref 340), (3, .ref 350), (4, .ref 351), (5, .int v5)]) (Nat.le_of_ble_eq_true rfl) rfl dL_law_1854 ?_
    refine E_aload_n (j := 2) (i := 2) (q := 3) rfl rfl dL_law_1856 ?_
    refine E_aload_n (j := 0) (i := 0) (q := 1) rfl rfl dL_law_1857 ?_
    refine E_iload (q := 6) rfl dL_law_1858 ?_
    refine E_iconst (v := (1 : Int32)) rfl dL_law_1860 ?_
    refine E_iadd dL_law_1861 ?_
    obtain ⟨h348, hF⟩ := gd_inv hF
    refine E_sld rfl h348 dL_law_1862 ?_
    refine E_aload_n (j := 0) (i := 0) (q := 1) rfl rfl dL_law_1863 ?_
    refine E_iload (q := 6) rfl dL_law_1864 ?_
    refine E_iconst (v := (2 : Int32)) rfl dL_law_1866 ?_
    refine E_iadd dL_law_1867 ?_
    obtain ⟨h349, hF⟩ := gd_inv hF
    refine E_sld rfl h349 dL_law_1868 ?_
    refine E_aload_n (j := 0) (i := 0) (q := 1) rfl rfl dL_law_1869 ?_
    refine E_iload (q := 6) rfl dL_law_1870 ?_
    refine E_iconst (v := (3 : Int32)) rfl dL_law_1872 ?_
    refine E_iadd dL_law_1873 ?_
    obtain ⟨h350, hF⟩ := gd_inv hF
    refine E_sld rfl h350 dL_law_1874 ?_
    refine E_if_eq (tgt := 1882) rfl dL_law_1875 (fun c351 => ?_) (fun c351 => ?_)
    · have hF := ite_t hF c351
      refine E_iconst (v := (0 : Int32)) rfl dL_law_1882 ?_
      obtain ⟨q352, h353, hF⟩ := bd_inv hF
      refine E_callV (na := 3) (As := [.int (xs (v5 + (1 : Int32)).toNatClampNeg), .int (xs (v5 + (2 : Int32)).toNatClampNeg), .int (0 : Int32)]) (S := []) (kc := (kcv + 6)) (ks := (ksv + 36)) (ci := 10) rfl rfl sh340 (by decide) cwV_RL_220 ⟨Nat.le_of_ble_eq_true rfl, Nat.le_of_ble_eq_true rfl⟩ (T_X8_gap hfl fl _ _ _ _ _ sh340 _ h353) rfl rfl rfl (Nat.le_of_ble_eq_true rfl) dL_law_1883 ?_
      refine E_istore (L' := [(7, .int q352.1), (6, .int q346.1), (0, .ref 400), (1, .ref 320), (2, .ref 340), (3, .ref 350), (4, .ref 351), (5, .int v5)]) (Nat.le_of_ble_eq_true rfl) rfl dL_law_1886 ?_
      refine E_aload_n (j := 2) (i := 2) (q := 4) rfl rfl dL_law_1888 ?_
      obtain ⟨q354, h355, hF⟩ := bd_inv hF
      refine E_callV (na := 0) (As := []) (S := []) (kc := (kcv + 6)) (ks := (ksv + 36)) (ci := 10) rfl rfl sh340 (by decide) cwV_RL_127 ⟨Nat.le_of_ble_eq_true rfl, Nat.le_of_ble_eq_true rfl⟩ (T_X8_thrown hfl fl _ _ sh340 _ h355) rfl rfl rfl (Nat.le_of_ble_eq_true rfl) dL_law_1889 ?_
      refine E_iload (q := 1) rfl dL_law_1892 ?_
      refine E_icmp_eq (tgt := 1899) rfl dL_law_1894 (fun c356 => ?_) (fun c356 => ?_)
      · have hF := ite_t hF c356
        refine E_iload (q := 1) rfl dL_law_1899 ?_
        refine E_if_ne (tgt := 1916) rfl dL_law_1901 (fun c357 => ?_) (fun c357 => ?_)
        · have hF := ite_f hF c357
          refine E_goto (tgt := 2119) rfl dL_law_1916 ?_
          refine E_iinc (q := 7) (v := (v5 + (7 : Int32))) (L' := [(5, .int (v5 + (7 : Int32))), (7, .int q352.1), (6, .int q346.1), (0, .ref 400), (1, .ref 320), (2, .ref 340), (3, .ref 350), (4, .ref 351)]) rfl rfl (Nat.le_of_ble_eq_true rfl) rfl dL_law_2119 ?_
          refine E_goto (tgt := 28) rfl dL_law_2122 ?_
          refine E_weak (kc' := kcv) (ks' := ksv) (by omega) (by omega) ?_
          refine E_sub [3, 4, 5, 6, 7, 0] rfl ?_
          exact hk28 _ _ hF
        · have hF := ite_t hF c357
          refine E_aload_n (j := 3) (i := 3) (q := 5) rfl rfl dL_law_1904 ?_
          refine E_iconst (v := (0 : Int32)) rfl dL_law_1905 ?_
          refine E_lald _ sh350 (by decide) (by decide : inR (0 : Int32) 1) dL_law_1906 ?_
          refine E_iload (q := 0) rfl dL_law_1907 ?_
          refine E_i2l dL_law_1909 ?_
          refine E_lcmp dL_law_1910 ?_
          refine E_if_eq (tgt := 1916) rfl dL_law_1911 (fun c358 => ?_) (fun c358 => ?_)
          · have hF := ite_t hF c358
            refine E_goto (tgt := 2119) rfl dL_law_1916 ?_
            refine E_iinc (q := 7) (v := (v5 + (7 : Int32))) (L' := [(5, .int (v5 + (7 : Int32))), (7, .int q352.1), (6, .int q346.1), (0, .ref 400), (1, .ref 320), (2, .ref 340), (3, .ref 350), (4, .ref 351)]) rfl rfl (Nat.le_of_ble_eq_true rfl) rfl dL_law_2119 ?_
            refine E_goto (tgt := 28) rfl dL_law_2122 ?_
            refine E_weak (kc' := kcv) (ks' := ksv) (by omega) (by omega) ?_
            refine E_sub [3, 4, 5, 6, 7, 0] rfl ?_
            exact hk28 _ _ hF
          · have hF := ite_f hF c358
            refine E_iconst (v := (0 : Int32)) rfl dL_law_1914 ?_
            exact absurd (Option.some.inj hF) (by decide)
      · have hF := ite_f hF c356
        refine E_iconst (v := (0 : Int32)) rfl dL_law_1897 ?_
        exact absurd (Option.some.inj hF) (by decide)
    · have hF := ite_f hF c351
      refine E_iconst (v := (1 : Int32)) rfl dL_law_1878 ?_
      refine E_goto (tgt := 1883) rfl dL_law_1879 ?_
      obtain ⟨q359, h360, hF⟩ := bd_inv hF
      refine E_callV (na := 3) (As := [.int (xs (v5 + (1 : Int32)).toNatClampNeg), .int (xs (v5 + (2 : Int32)).toNatClampNeg), .int (1 : Int32)]) (S := []) (kc := (kcv + 6)) (ks := (ksv + 36)) (ci := 10) rfl rfl sh340 (by decide) cwV_RL_220 ⟨Nat.le_of_ble_eq_true rfl, Nat.le_of_ble_eq_true rfl⟩ (T_X8_gap hfl fl _ _ _ _ _ sh340 _ h360) rfl rfl rfl (Nat.le_of_ble_eq_true rfl) dL_law_1883 ?_
      refine E_istore (L' := [(7, .int q359.1), (6, .int q346.1), (0, .ref 400), (1, .ref 320), (2, .ref 340), (3, .ref 350), (4, .ref 351), (5, .int v5)]) (Nat.le_of_ble_eq_true rfl) rfl dL_law_1886 ?_
      refine E_aload_n (j := 2) (i := 2) (q := 4) rfl rfl dL_law_1888 ?_
      obtain ⟨q361, h362, hF⟩ := bd_inv hF
      refine E_callV (na := 0) (As := []) (S := []) (kc := (kcv + 6)) (ks := (ksv + 36)) (ci := 10) rfl rfl sh340 (by decide) cwV_RL_127 ⟨Nat.le_of_ble_eq_true rfl, Nat.le_of_ble_eq_true rfl⟩ (T_X8_thrown hfl fl _ _ sh340 _ h362) rfl rfl rfl (Nat.le_of_ble_eq_true rfl) dL_law_1889 ?_
      refine E_iload (q := 1) rfl dL_law_1892 ?_
      refine E_icmp_eq (tgt := 1899) rfl dL_law_1894 (fun c363 => ?_) (fun c363 => ?_)
      · have hF := ite_t hF c363
        refine E_iload (q := 1) rfl dL_law_1899 ?_
        refine E_if_ne (tgt := 1916) rfl dL_law_1901 (fun c364 => ?_) (fun c364 => ?_)
        · have hF := ite_f hF c364
          refine E_goto (tgt := 2119) rfl dL_law_1916 ?_
          refine E_iinc (q := 7) (v := (v5 + (7 : Int32))) (L' := [(5, .int (v5 + (7 : Int32))), (7, .int q359.1), (6, .int q346.1), (0, .ref 400), (1, .ref 320), (2, .ref 340), (3, .ref 350), (4, .ref 351)]) rfl rfl (Nat.le_of_ble_eq_true rfl) rfl dL_law_2119 ?_
          refine E_goto (tgt := 28) rfl dL_law_2122 ?_
          refine E_weak (kc' := kcv) (ks' := ksv) (by omega) (by omega) ?_
          refine E_sub [3, 4, 5, 6, 7, 0] rfl ?_
          exact hk28 _ _ hF
        · have hF := ite_t hF c364
          refine E_aload_n (j := 3) (i := 3) (q := 5) rfl rfl dL_law_1904 ?_
          refine E_iconst (v := (0 : Int32)) rfl dL_law_1905 ?_
          refine E_lald _ sh350 (by decide) (by decide : inR (0 : Int32) 1) dL_law_1906 ?_
          refine E_iload (q := 0) rfl dL_law_1907 ?_
          refine E_i2l dL_law_1909 ?_
          refine E_lcmp dL_law_1910 ?_
          refine E_if_eq (tgt := 1916) rfl dL_law_1911 (fun c365 => ?_) (fun c365 => ?_)
          · have hF := ite_t hF c365
            refine E_goto (tgt := 2119) rfl dL_law_1916 ?_
            refine E_iinc (q := 7) (v := (v5 + (7 : Int32))) (L' := [(5, .int (v5 + (7 : Int32))), (7, .int q359.1), (6, .int q346.1), (0, .ref 400), (1, .ref 320), (2, .ref 340), (3, .ref 350), (4, .ref 351)]) rfl rfl (Nat.le_of_ble_eq_true rfl) rfl dL_law_2119 ?_
            refine E_goto (tgt := 28) rfl dL_law_2122 ?_
            refine E_weak (kc' := kcv) (ks' := ksv) (by omega) (by omega) ?_
            refine E_sub [3, 4, 5, 6, 7, 0] rfl ?_
            exact hk28 _ _ hF
          · have hF := ite_f hF c365
            refine E_iconst (v := (0 : Int32)) rfl dL_law_1914 ?_
            exact absurd (Option.some.inj hF) (by decide)
      · have hF := ite_f hF c363
        refine E_iconst (v := (0 : Int32)) rfl dL_law_1897 ?_
        exact absurd (Option.some.inj hF) (by decide)
set_option maxHeartbeats 8000000 in
set_option maxRecDepth 100000 in
theorem T_L_law_1919 {l : Launch} (hfl : l.stackTraces = false) (fl : Nat) {Ln : Nat} {xs : Nat → Int32} {r : Rs} {kcv ksv : Nat} {k28 : Int32 → Mem → Option Int32} (hk28 : ∀ (v5 : Int32) (s : Mem), k28 v5 s = some 1 → E l (X_law Ln xs) r false NF s kcv ksv 28 [(0, .ref 400), (1, .ref 320), (2, .ref 340), (3, .ref 350), (4, .ref 351), (5, .int v5)] []) (v5 : Int32) (s : Mem) (hF : B_L_law_1919 k28 fl xs Ln v5 s = some 1) : E l (X_law Ln xs) r false NF s (kcv + 8) (ksv + 48) 1919 [(0, .ref 400), (1, .ref 320), (2, .ref 340), (3, .ref 350), (4, .ref 351), (5, .int v5)] [] := by
  unfold B_L_law_1919 at hF
  refine E_aload_n (j := 1) (i := 1) (q := 1) rfl rfl dL_law_1919 ?_
  refine E_aload_n (j := 0) (i := 0) (q := 0) rfl rfl dL_law_1920 ?_
  refine E_iload (q := 5) rfl dL_law_1921 ?_
  refine E_iconst (v := (1 : Int32)) rfl dL_law_1923 ?_
  refine E_iadd dL_law_1924 ?_
  obtain ⟨h366, hF⟩ := gd_inv hF
  refine E_sld rfl h366 dL_law_1925 ?_
  refine E_aload_n (j := 3) (i := 3) (q := 3) rfl rfl dL_law_1926 ?_
  obtain ⟨q367, h368, hF⟩ := bd_inv hF
  refine E_weak (kc' := (kcv + 7) + 1) (ks' := (ksv + 42) + 6) (by omega) (by omega) ?_
  refine E_callSH (na := 3) (As := [.ref 320, .int (xs (v5 + (1 : Int32)).toNatClampNeg), .ref 350]) (S := []) (kc := (kcv + 7)) (ks := (ksv + 42)) cwSH_RL_221 ⟨Nat.le_of_ble_eq_true rfl, Nat.le_of_ble_eq_true rfl⟩ (T_L_account hfl fl _ _ _ _ sh320 _ h368) rfl rfl rfl (Nat.le_of_ble_eq_true rfl) dL_law_1927 ?_
  refine E_istore (L' := [(6, .int q367.1), (0, .ref 400), (1, .ref 320), (2, .ref 340), (3, .ref 350), (4, .ref 351), (5, .int v5)]) (Nat.le_of_ble_eq_true rfl) rfl dL_law_1930 ?_
  refine E_aload_n (j := 2) (i := 2) (q := 3) rfl rfl dL_law_1932 ?_
  refine E_aload_n (j := 0) (i := 0) (q := 1) rfl rfl dL_law_1933 ?_
  refine E_iload (q := 6) rfl dL_law_1934 ?_
  refine E_iconst (v := (1 : Int32)) rfl dL_law_1936 ?_
  refine E_iadd dL_law_1937 ?_
  obtain ⟨h369, hF⟩ := gd_inv hF
  refine E_sld rfl h369 dL_law_1938 ?_
  obtain ⟨q370, h371, hF⟩ := bd_inv hF
  refine E_callV (na := 1) (As := [.int (xs (v5 + (1 : Int32)).toNatClampNeg)]) (S := []) (kc := (kcv + 7)) (ks := (ksv + 42)) (ci := 10) rfl rfl sh340 (by decide) cwV_RL_223 ⟨Nat.le_of_ble_eq_true rfl, Nat.le_of_ble_eq_true rfl⟩ (T_X8_account hfl fl _ _ _ sh340 _ h371) rfl rfl rfl (Nat.le_of_ble_eq_true rfl) dL_law_1939 ?_
  refine E_istore (L' := [(7, .int q370.1), (6, .int q367.1), (0, .ref 400), (1, .ref 320), (2, .ref 340), (3, .ref 350), (4, .ref 351), (5, .int v5)]) (Nat.le_of_ble_eq_true rfl) rfl dL_law_1942 ?_
  refine E_aload_n (j := 2) (i := 2) (q := 4) rfl rfl dL_law_1944 ?_
  obtain ⟨q372, h373, hF⟩ := bd_inv hF
  refine E_callV (na := 0) (As := []) (S := []) (kc := (kcv + 7)) (ks := (ksv + 42)) (ci := 10) rfl rfl sh340 (by decide) cwV_RL_127 ⟨Nat.le_of_ble_eq_true rfl, Nat.le_of_ble_eq_true rfl⟩ (T_X8_thrown hfl fl _ _ sh340 _ h373) rfl rfl rfl (Nat.le_of_ble_eq_true rfl) dL_law_1945 ?_
  refine E_iload (q := 1) rfl dL_law_1948 ?_
  refine E_icmp_eq (tgt := 1955) rfl dL_law_1950 (fun c374 => ?_) (fun c374 => ?_)
  · have hF := ite_t hF c374
    refine E_iload (q := 1) rfl dL_law_1955 ?_
    refine E_if_ne (tgt := 1972) rfl dL_law_1957 (fun c375 => ?_) (fun c375 => ?_)
    · have hF := ite_f hF c375
      refine E_goto (tgt := 2119) rfl dL_law_1972 ?_
      refine E_iinc (q := 7) (v := (v5 + (7 : Int32))) (L' := [(5, .int (v5 + (7 : Int32))), (7, .int q370.1), (6, .int q367.1), (0, .ref 400), (1, .ref 320), (2, .ref 340), (3, .ref 350), (4, .ref 351)]) rfl rfl (Nat.le_of_ble_eq_true rfl) rfl dL_law_2119 ?_
      refine E_goto (tgt := 28) rfl dL_law_2122 ?_
      refine E_weak (kc' := kcv) (ks' := ksv) (by omega) (by omega) ?_
      refine E_sub [3, 4, 5, 6, 7, 0] rfl ?_
      exact hk28 _ _ hF
    · have hF := ite_t hF c375
      refine E_aload_n (j := 3) (i := 3) (q := 5) rfl rfl dL_law_1960 ?_
      refine E_iconst (v := (0 : Int32)) rfl dL_law_1961 ?_
      refine E_lald _ sh350 (by decide) (by decide : inR (0 : Int32) 1) dL_law_1962 ?_
      refine E_iload (q := 0) rfl dL_law_1963 ?_
      refine E_i2l dL_law_1965 ?_
      refine E_lcmp dL_law_1966 ?_
      refine E_if_eq (tgt := 1972) rfl dL_law_1967 (fun c376 => ?_) (fun c376 => ?_)
      · have hF := ite_t hF c376
        refine E_goto (tgt := 2119) rfl dL_law_1972 ?_
        refine E_iinc (q := 7) (v := (v5 + (7 : Int32))) (L' := [(5, .int (v5 + (7 : Int32))), (7, .int q370.1), (6, .int q367.1), (0, .ref 400), (1, .ref 320), (2, .ref 340), (3, .ref 350), (4, .ref 351)]) rfl rfl (Nat.le_of_ble_eq_true rfl) rfl dL_law_2119 ?_
        refine E_goto (tgt := 28) rfl dL_law_2122 ?_
        refine E_weak (kc' := kcv) (ks' := ksv) (by omega) (by omega) ?_
        refine E_sub [3, 4, 5, 6, 7, 0] rfl ?_
        exact hk28 _ _ hF
      · have hF := ite_f hF c376
        refine E_iconst (v := (0 : Int32)) rfl dL_law_1970 ?_
        exact absurd (Option.some.inj hF) (by decide)
  · have hF := ite_f hF c374
    refine E_iconst (v := (0 : Int32)) rfl dL_law_1953 ?_
    exact absurd (Option.some.inj hF) (by decide)
set_option maxHeartbeats 8000000 in
set_option maxRecDepth 100000 in
theorem T_L_law_1975 {l : Launch} (hfl : l.stackTraces = false) (fl : Nat) {Ln : Nat} {xs : Nat → Int32} {r : Rs} {kcv ksv : Nat} {k28 : Int32 → Mem → Option Int32} (hk28 : ∀ (v5 : Int32) (s : Mem), k28 v5 s = some 1 → E l (X_law Ln xs) r false NF s kcv ksv 28 [(0, .ref 400), (1, .ref 320), (2, .ref 340), (3, .ref 350), (4, .ref 351), (5, .int v5)] []) (v5 : Int32) (s : Mem) (hF : B_L_law_1975 k28 fl xs Ln v5 s = some 1) : E l (X_law Ln xs) r false NF s (kcv + 8) (ksv + 48) 1975 [(0, .ref 400), (1, .ref 320), (2, .ref 340), (3, .ref 350), (4, .ref 351), (5, .int v5)] [] := by
  unfold B_L_law_1975 at hF
  refine E_aload_n (j := 1) (i := 1) (q := 1) rfl rfl dL_law_1975 ?_
  refine E_aload (q := 4) rfl dL_law_1976 ?_
  obtain ⟨q377, h378, hF⟩ := bd_inv hF
  refine E_weak (kc' := (kcv + 7) + 1) (ks' := (ksv + 42) + 6) (by omega) (by omega) ?_
  refine E_callSH (na := 2) (As := [.ref 320, .ref 351]) (S := []) (kc := (kcv + 7)) (ks := (ksv + 42)) cwSH_RL_224 ⟨Nat.le_of_ble_eq_true rfl, Nat.le_of_ble_eq_true rfl⟩ (T_L_share hfl fl _ _ _ sh320 _ h378) rfl rfl rfl (Nat.le_of_ble_eq_true rfl) dL_law_1978 ?_
  refine E_istore (L' := [(6, .int q377.1), (0, .ref 400), (1, .ref 320), (2, .ref 340), (3, .ref 350), (4, .ref 351), (5, .int v5)]) (Nat.le_of_ble_eq_true rfl) rfl dL_law_1981 ?_
  refine E_aload_n (j := 2) (i := 2) (q := 3) rfl rfl dL_law_1983 ?_
  obtain ⟨q379, h380, hF⟩ := bd_inv hF
  refine E_callV (na := 0) (As := []) (S := []) (kc := (kcv + 7)) (ks := (ksv + 42)) (ci := 10) rfl rfl sh340 (by decide) cwV_RL_227 ⟨Nat.le_of_ble_eq_true rfl, Nat.le_of_ble_eq_true rfl⟩ (T_X8_share hfl fl _ _ sh340 _ h380) rfl rfl rfl (Nat.le_of_ble_eq_true rfl) dL_law_1984 ?_
  refine E_dstore (L' := [(7, .double q379.1), (6, .int q377.1), (0, .ref 400), (1, .ref 320), (2, .ref 340), (3, .ref 350), (4, .ref 351), (5, .int v5)]) (Nat.le_of_ble_eq_true rfl) rfl dL_law_1987 ?_
  refine E_aload_n (j := 2) (i := 2) (q := 4) rfl rfl dL_law_1989 ?_
  obtain ⟨q381, h382, hF⟩ := bd_inv hF
  refine E_callV (na := 0) (As := []) (S := []) (kc := (kcv + 7)) (ks := (ksv + 42)) (ci := 10) rfl rfl sh340 (by decide) cwV_RL_127 ⟨Nat.le_of_ble_eq_true rfl, Nat.le_of_ble_eq_true rfl⟩ (T_X8_thrown hfl fl _ _ sh340 _ h382) rfl rfl rfl (Nat.le_of_ble_eq_true rfl) dL_law_1990 ?_
  refine E_iload (q := 1) rfl dL_law_1993 ?_
  refine E_icmp_eq (tgt := 2000) rfl dL_law_1995 (fun c383 => ?_) (fun c383 => ?_)
  · have hF := ite_t hF c383
    refine E_iload (q := 1) rfl dL_law_2000 ?_
    refine E_if_ne (tgt := 2037) rfl dL_law_2002 (fun c384 => ?_) (fun c384 => ?_)
    · have hF := ite_f hF c384
      refine E_goto (tgt := 2119) rfl dL_law_2037 ?_
      refine E_iinc (q := 7) (v := (v5 + (7 : Int32))) (L' := [(5, .int (v5 + (7 : Int32))), (7, .double q379.1), (6, .int q377.1), (0, .ref 400), (1, .ref 320), (2, .ref 340), (3, .ref 350), (4, .ref 351)]) rfl rfl (Nat.le_of_ble_eq_true rfl) rfl dL_law_2119 ?_
      refine E_goto (tgt := 28) rfl dL_law_2122 ?_
      refine E_weak (kc' := kcv) (ks' := ksv) (by omega) (by omega) ?_
      refine E_sub [3, 4, 5, 6, 7, 0] rfl ?_
      exact hk28 _ _ hF
    · have hF := ite_t hF c384
      refine E_aload (q := 6) rfl dL_law_2005 ?_
      refine E_iconst (v := (0 : Int32)) rfl dL_law_2007 ?_
      refine E_dald _ sh351 (by decide) (by decide : inR (0 : Int32) 1) dL_law_2008 ?_
      refine E_dload (q := 0) rfl dL_law_2009 ?_
      refine E_dcmpl dL_law_2011 ?_
      refine E_if_eq (tgt := 2037) rfl dL_law_2012 (fun c385 => ?_) (fun c385 => ?_)
      · have hF := ite_t hF c385
        refine E_goto (tgt := 2119) rfl dL_law_2037 ?_
        refine E_iinc (q := 7) (v := (v5 + (7 : Int32))) (L' := [(5, .int (v5 + (7 : Int32))), (7, .double q379.1), (6, .int q377.1), (0, .ref 400), (1, .ref 320), (2, .ref 340), (3, .ref 350), (4, .ref 351)]) rfl rfl (Nat.le_of_ble_eq_true rfl) rfl dL_law_2119 ?_
        refine E_goto (tgt := 28) rfl dL_law_2122 ?_
        refine E_weak (kc' := kcv) (ks' := ksv) (by omega) (by omega) ?_
        refine E_sub [3, 4, 5, 6, 7, 0] rfl ?_
        exact hk28 _ _ hF
      · have hF := ite_f hF c385
        refine E_aload (q := 6) rfl dL_law_2015 ?_
        refine E_iconst (v := (0 : Int32)) rfl dL_law_2017 ?_
        refine E_dald _ sh351 (by decide) (by decide : inR (0 : Int32) 1) dL_law_2018 ?_
        refine E_aload (q := 6) rfl dL_law_2019 ?_
        refine E_iconst (v := (0 : Int32)) rfl dL_law_2021 ?_
        refine E_dald _ sh351 (by decide) (by decide : inR (0 : Int32) 1) dL_law_2022 ?_
        refine E_dcmpl dL_law_2023 ?_
        refine E_if_eq (tgt := 2035) rfl dL_law_2024 (fun c386 => ?_) (fun c386 => ?_)
        · have hF := ite_t hF c386
          refine E_iconst (v := (0 : Int32)) rfl dL_law_2035 ?_
          exact absurd (Option.some.inj hF) (by decide)
        · have hF := ite_f hF c386
          refine E_dload (q := 0) rfl dL_law_2027 ?_
          refine E_dload (q := 0) rfl dL_law_2029 ?_
          refine E_dcmpl dL_law_2031 ?_
          refine E_if_ne (tgt := 2037) rfl dL_law_2032 (fun c387 => ?_) (fun c387 => ?_)
          · have hF := ite_f hF c387
            refine E_goto (tgt := 2119) rfl dL_law_2037 ?_
            refine E_iinc (q := 7) (v := (v5 + (7 : Int32))) (L' := [(5, .int (v5 + (7 : Int32))), (7, .double q379.1), (6, .int q377.1), (0, .ref 400), (1, .ref 320), (2, .ref 340), (3, .ref 350), (4, .ref 351)]) rfl rfl (Nat.le_of_ble_eq_true rfl) rfl dL_law_2119 ?_
            refine E_goto (tgt := 28) rfl dL_law_2122 ?_
            refine E_weak (kc' := kcv) (ks' := ksv) (by omega) (by omega) ?_
            refine E_sub [3, 4, 5, 6, 7, 0] rfl ?_
            exact hk28 _ _ hF
          · have hF := ite_t hF c387
            refine E_iconst (v := (0 : Int32)) rfl dL_law_2035 ?_
            exact absurd (Option.some.inj hF) (by decide)
  · have hF := ite_f hF c383
    refine E_iconst (v := (0 : Int32)) rfl dL_law_1998 ?_
    exact absurd (Option.some.inj hF) (by decide)
set_option maxHeartbeats 8000000 in
set_option maxRecDepth 100000 in
theorem T_L_law_2040 {l : Launch} (hfl : l.stackTraces = false) (fl : Nat) {Ln : Nat} {xs : Nat → Int32} {r : Rs} {kcv ksv : Nat} {k28 : Int32 → Mem → Option Int32} (hk28 : ∀ (v5 : Int32) (s : Mem), k28 v5 s = some 1 → E l (X_law Ln xs) r false NF s kcv ksv 28 [(0, .ref 400), (1, .ref 320), (2, .ref 340), (3, .ref 350), (4, .ref 351), (5, .int v5)] []) (v5 : Int32) (s : Mem) (hF : B_L_law_2040 k28 fl xs Ln v5 s = some 1) : E l (X_law Ln xs) r false NF s (kcv + 8) (ksv + 48) 2040 [(0, .ref 400), (1, .ref 320), (2, .ref 340), (3, .ref 350), (4, .ref 351), (5, .int v5)] [] := by
  unfold B_L_law_2040 at hF
  refine E_aload_n (j := 1) (i := 1) (q := 1) rfl rfl dL_law_2040 ?_
  refine E_aload_n (j := 3) (i := 3) (q := 3) rfl rfl dL_law_2041 ?_
  obtain ⟨q388, h389, hF⟩ := bd_inv hF
  refine E_weak (kc' := (kcv + 7) + 1) (ks' := (ksv + 42) + 6) (by omega) (by omega) ?_
  refine E_callSH (na := 2) (As := [.ref 320, .ref 350]) (S := []) (kc := (kcv + 7)) (ks := (ksv + 42)) cwSH_RL_228 ⟨Nat.le_of_ble_eq_true rfl, Nat.le_of_ble_eq_true rfl⟩ (T_L_undo hfl fl _ _ _ sh320 _ h389) rfl rfl rfl (Nat.le_of_ble_eq_true rfl) dL_law_2042 ?_
  refine E_istore (L' := [(6, .int q388.1), (0, .ref 400), (1, .ref 320), (2, .ref 340), (3, .ref 350), (4, .ref 351), (5, .int v5)]) (Nat.le_of_ble_eq_true rfl) rfl dL_law_2045 ?_
  refine E_aload_n (j := 2) (i := 2) (q := 3) rfl rfl dL_law_2047 ?_
  obtain ⟨q390, h391, hF⟩ := bd_inv hF
  refine E_callV (na := 0) (As := []) (S := []) (kc := (kcv + 7)) (ks := (ksv + 42)) (ci := 10) rfl rfl sh340 (by decide) cwV_RL_230 ⟨Nat.le_of_ble_eq_true rfl, Nat.le_of_ble_eq_true rfl⟩ (T_X8_undo hfl fl _ _ sh340 _ h391) rfl rfl rfl (Nat.le_of_ble_eq_true rfl) dL_law_2048 ?_
  refine E_istore (L' := [(7, .int q390.1), (6, .int q388.1), (0, .ref 400), (1, .ref 320), (2, .ref 340), (3, .ref 350), (4, .ref 351), (5, .int v5)]) (Nat.le_of_ble_eq_true rfl) rfl dL_law_2051 ?_
  refine E_aload_n (j := 2) (i := 2) (q := 4) rfl rfl dL_law_2053 ?_
  obtain ⟨q392, h393, hF⟩ := bd_inv hF
  refine E_callV (na := 0) (As := []) (S := []) (kc := (kcv + 7)) (ks := (ksv + 42)) (ci := 10) rfl rfl sh340 (by decide) cwV_RL_127 ⟨Nat.le_of_ble_eq_true rfl, Nat.le_of_ble_eq_true rfl⟩ (T_X8_thrown hfl fl _ _ sh340 _ h393) rfl rfl rfl (Nat.le_of_ble_eq_true rfl) dL_law_2054 ?_
  refine E_iload (q := 1) rfl dL_law_2057 ?_
  refine E_icmp_eq (tgt := 2064) rfl dL_law_2059 (fun c394 => ?_) (fun c394 => ?_)
  · have hF := ite_t hF c394
    refine E_iload (q := 1) rfl dL_law_2064 ?_
    refine E_if_ne (tgt := 2081) rfl dL_law_2066 (fun c395 => ?_) (fun c395 => ?_)
    · have hF := ite_f hF c395
      refine E_goto (tgt := 2119) rfl dL_law_2081 ?_
      refine E_iinc (q := 7) (v := (v5 + (7 : Int32))) (L' := [(5, .int (v5 + (7 : Int32))), (7, .int q390.1), (6, .int q388.1), (0, .ref 400), (1, .ref 320), (2, .ref 340), (3, .ref 350), (4, .ref 351)]) rfl rfl (Nat.le_of_ble_eq_true rfl) rfl dL_law_2119 ?_
      refine E_goto (tgt := 28) rfl dL_law_2122 ?_
      refine E_weak (kc' := kcv) (ks' := ksv) (by omega) (by omega) ?_
      refine E_sub [3, 4, 5, 6, 7, 0] rfl ?_
      exact hk28 _ _ hF
    · have hF := ite_t hF c395
      refine E_aload_n (j := 3) (i := 3) (q := 5) rfl rfl dL_law_2069 ?_
      refine E_iconst (v := (0 : Int32)) rfl dL_law_2070 ?_
      refine E_lald _ sh350 (by decide) (by decide : inR (0 : Int32) 1) dL_law_2071 ?_
      refine E_iload (q := 0) rfl dL_law_2072 ?_
      refine E_i2l dL_law_2074 ?_
      refine E_lcmp dL_law_2075 ?_
      refine E_if_eq (tgt := 2081) rfl dL_law_2076 (fun c396 => ?_) (fun c396 => ?_)
      · have hF := ite_t hF c396
        refine E_goto (tgt := 2119) rfl dL_law_2081 ?_
        refine E_iinc (q := 7) (v := (v5 + (7 : Int32))) (L' := [(5, .int (v5 + (7 : Int32))), (7, .int q390.1), (6, .int q388.1), (0, .ref 400), (1, .ref 320), (2, .ref 340), (3, .ref 350), (4, .ref 351)]) rfl rfl (Nat.le_of_ble_eq_true rfl) rfl dL_law_2119 ?_
        refine E_goto (tgt := 28) rfl dL_law_2122 ?_
        refine E_weak (kc' := kcv) (ks' := ksv) (by omega) (by omega) ?_
        refine E_sub [3, 4, 5, 6, 7, 0] rfl ?_
        exact hk28 _ _ hF
      · have hF := ite_f hF c396
        refine E_iconst (v := (0 : Int32)) rfl dL_law_2079 ?_
        exact absurd (Option.some.inj hF) (by decide)
  · have hF := ite_f hF c394
    refine E_iconst (v := (0 : Int32)) rfl dL_law_2062 ?_
    exact absurd (Option.some.inj hF) (by decide)
set_option maxHeartbeats 8000000 in
set_option maxRecDepth 100000 in
theorem T_L_law_2084 {l : Launch} (hfl : l.stackTraces = false) (fl : Nat) {Ln : Nat} {xs : Nat → Int32} {r : Rs} {kcv ksv : Nat} {k28 : Int32 → Mem → Option Int32} (hk28 : ∀ (v5 : Int32) (s : Mem), k28 v5 s = some 1 → E l (X_law Ln xs) r false NF s kcv ksv 28 [(0, .ref 400), (1, .ref 320), (2, .ref 340), (3, .ref 350), (4, .ref 351), (5, .int v5)] []) (v5 : Int32) (s : Mem) (hF : B_L_law_2084 k28 fl xs Ln v5 s = some 1) : E l (X_law Ln xs) r false NF s (kcv + 8) (ksv + 48) 2084 [(0, .ref 400), (1, .ref 320), (2, .ref 340), (3, .ref 350), (4, .ref 351), (5, .int v5)] [] := by
  unfold B_L_law_2084 at hF
  refine E_aload_n (j := 1) (i := 1) (q := 1) rfl rfl dL_law_2084 ?_
  obtain ⟨q397, h398, hF⟩ := bd_inv hF
  refine E_callV (na := 0) (As := []) (S := []) (kc := (kcv + 8)) (ks := (ksv + 48)) (ci := 9) rfl rfl sh320 (by decide) cwV_RL_231 ⟨Nat.le_of_ble_eq_true rfl, Nat.le_of_ble_eq_true rfl⟩ (T_X7_save hfl fl _ _ sh320 _ h398) rfl rfl rfl (Nat.le_of_ble_eq_true rfl) dL_law_2085 ?_
  refine E_aload_n (j := 2) (i := 2) (q := 2) rfl rfl dL_law_2088 ?_
  obtain ⟨q399, h400, hF⟩ := bd_inv hF
  refine E_callV (na := 0) (As := []) (S := []) (kc := (kcv + 8)) (ks := (ksv + 48)) (ci := 10) rfl rfl sh340 (by decide) cwV_RL_234 ⟨Nat.le_of_ble_eq_true rfl, Nat.le_of_ble_eq_true rfl⟩ (T_X8_save hfl fl _ _ sh340 _ h400) rfl rfl rfl (Nat.le_of_ble_eq_true rfl) dL_law_2089 ?_
  refine E_goto (tgt := 2119) rfl dL_law_2092 ?_
  refine E_iinc (q := 5) (v := (v5 + (7 : Int32))) (L' := [(5, .int (v5 + (7 : Int32))), (0, .ref 400), (1, .ref 320), (2, .ref 340), (3, .ref 350), (4, .ref 351)]) rfl rfl (Nat.le_of_ble_eq_true rfl) rfl dL_law_2119 ?_
  refine E_goto (tgt := 28) rfl dL_law_2122 ?_
  refine E_weak (kc' := kcv) (ks' := ksv) (by omega) (by omega) ?_
  refine E_sub [1, 2, 3, 4, 5, 0] rfl ?_
  exact hk28 _ _ hF
set_option maxHeartbeats 8000000 in
set_option maxRecDepth 100000 in
theorem T_L_law_2095 {l : Launch} (hfl : l.stackTraces = false) (fl : Nat) {Ln : Nat} {xs : Nat → Int32} {r : Rs} {kcv ksv : Nat} {k28 : Int32 → Mem → Option Int32} (hk28 : ∀ (v5 : Int32) (s : Mem), k28 v5 s = some 1 → E l (X_law Ln xs) r false NF s kcv ksv 28 [(0, .ref 400), (1, .ref 320), (2, .ref 340), (3, .ref 350), (4, .ref 351), (5, .int v5)] []) (v5 : Int32) (s : Mem) (hF : B_L_law_2095 k28 fl xs Ln v5 s = some 1) : E l (X_law Ln xs) r false NF s (kcv + 8) (ksv + 48) 2095 [(0, .ref 400), (1, .ref 320), (2, .ref 340), (3, .ref 350), (4, .ref 351), (5, .int v5)] [] := by
  unfold B_L_law_2095 at hF
  refine E_aload_n (j := 1) (i := 1) (q := 1) rfl rfl dL_law_2095 ?_
  obtain ⟨q401, h402, hF⟩ := bd_inv hF
  refine E_weak (kc' := (kcv + 7) + 1) (ks' := (ksv + 42) + 6) (by omega) (by omega) ?_
  refine E_callSH (na := 1) (As := [.ref 320]) (S := []) (kc := (kcv + 7)) (ks := (ksv + 42)) cwSH_RL_235 ⟨Nat.le_of_ble_eq_true rfl, Nat.le_of_ble_eq_true rfl⟩ (T_L_restore hfl fl _ _ sh320 _ h402) rfl rfl rfl (Nat.le_of_ble_eq_true rfl) dL_law_2096 ?_
  refine E_istore (L' := [(6, .int q401.1), (0, .ref 400), (1, .ref 320), (2, .ref 340), (3, .ref 350), (4, .ref 351), (5, .int v5)]) (Nat.le_of_ble_eq_true rfl) rfl dL_law_2099 ?_
  refine E_aload_n (j := 2) (i := 2) (q := 3) rfl rfl dL_law_2101 ?_
  obtain ⟨q403, h404, hF⟩ := bd_inv hF
  refine E_callV (na := 0) (As := []) (S := []) (kc := (kcv + 7)) (ks := (ksv + 42)) (ci := 10) rfl rfl sh340 (by decide) cwV_RL_238 ⟨Nat.le_of_ble_eq_true rfl, Nat.le_of_ble_eq_true rfl⟩ (T_X8_restore hfl fl _ _ sh340 _ h404) rfl rfl rfl (Nat.le_of_ble_eq_true rfl) dL_law_2102 ?_
  refine E_aload_n (j := 2) (i := 2) (q := 3) rfl rfl dL_law_2105 ?_
  obtain ⟨q405, h406, hF⟩ := bd_inv hF
  refine E_callV (na := 0) (As := []) (S := []) (kc := (kcv + 7)) (ks := (ksv + 42)) (ci := 10) rfl rfl sh340 (by decide) cwV_RL_127 ⟨Nat.le_of_ble_eq_true rfl, Nat.le_of_ble_eq_true rfl⟩ (T_X8_thrown hfl fl _ _ sh340 _ h406) rfl rfl rfl (Nat.le_of_ble_eq_true rfl) dL_law_2106 ?_
  refine E_iload (q := 0) rfl dL_law_2109 ?_
  refine E_icmp_eq (tgt := 2116) rfl dL_law_2111 (fun c407 => ?_) (fun c407 => ?_)
  · have hF := ite_t hF c407
    refine E_goto (tgt := 2119) rfl dL_law_2116 ?_
    refine E_iinc (q := 6) (v := (v5 + (7 : Int32))) (L' := [(5, .int (v5 + (7 : Int32))), (6, .int q401.1), (0, .ref 400), (1, .ref 320), (2, .ref 340), (3, .ref 350), (4, .ref 351)]) rfl rfl (Nat.le_of_ble_eq_true rfl) rfl dL_law_2119 ?_
    refine E_goto (tgt := 28) rfl dL_law_2122 ?_
    refine E_weak (kc' := kcv) (ks' := ksv) (by omega) (by omega) ?_
    refine E_sub [2, 3, 4, 5, 6, 0] rfl ?_
    exact hk28 _ _ hF
  · have hF := ite_f hF c407
    refine E_iconst (v := (0 : Int32)) rfl dL_law_2114 ?_
    exact absurd (Option.some.inj hF) (by decide)
set_option maxHeartbeats 8000000 in
set_option maxRecDepth 100000 in
theorem T_L_law_step {l : Launch} (hfl : l.stackTraces = false) (fl : Nat) {Ln : Nat} {xs : Nat → Int32} {r : Rs} {kcv ksv : Nat} {k28 : Int32 → Mem → Option Int32} (hk28 : ∀ (v5 : Int32) (s : Mem), k28 v5 s = some 1 → E l (X_law Ln xs) r false NF s kcv ksv 28 [(0, .ref 400), (1, .ref 320), (2, .ref 340), (3, .ref 350), (4, .ref 351), (5, .int v5)] []) (v5 : Int32) (s : Mem) (hF : B_L_law_step k28 fl xs Ln v5 s = some 1) : E l (X_law Ln xs) r false NF s (kcv + 8) (ksv + 48) 28 [(0, .ref 400), (1, .ref 320), (2, .ref 340), (3, .ref 350), (4, .ref 351), (5, .int v5)] [] := by
  unfold B_L_law_step at hF
  refine E_iload (q := 5) rfl dL_law_28 ?_
  refine E_aload_n (j := 0) (i := 0) (q := 0) rfl rfl dL_law_30 ?_
  refine E_slen rfl dL_law_31 ?_
  refine E_bipush (v := (7 : Int32)) rfl dL_law_32 ?_
  refine E_isub dL_law_34 ?_
  refine E_icmp_gt (tgt := 2125) rfl dL_law_35 (fun c408 => ?_) (fun c408 => ?_)
  · have hF := ite_t hF c408
    refine E_iconst (v := (1 : Int32)) rfl dL_law_2125 ?_
    exact E_lawend rfl rfl rfl rfl rfl dL_law_2126
  · have hF := ite_f hF c408
    refine E_aload_n (j := 0) (i := 0) (q := 0) rfl rfl dL_law_38 ?_
    refine E_iload (q := 5) rfl dL_law_39 ?_
    obtain ⟨h409, hF⟩ := gd_inv hF
    refine E_sld rfl h409 dL_law_41 ?_
    refine E_bipush (v := (63 : Int32)) rfl dL_law_42 ?_
    refine E_iand dL_law_44 ?_
    by_cases c410 : ((xs v5.toNatClampNeg) &&& (63 : Int32)) = 0
    · have hF := ite_t hF c410
      refine E_tabIn (off := 147) (tgt := 192) (by rw [c410]; decide) (by rw [c410]; decide) (by rw [c410]; rfl) rfl dL_law_45 ?_
      exact T_L_law_192 hfl fl hk28 v5 _ hF
    · have hF := ite_f hF c410
      by_cases c411 : ((xs v5.toNatClampNeg) &&& (63 : Int32)) = 1
      · have hF := ite_t hF c411
        refine E_tabIn (off := 239) (tgt := 284) (by rw [c411]; decide) (by rw [c411]; decide) (by rw [c411]; rfl) rfl dL_law_45 ?_
        exact T_L_law_284 hfl fl hk28 v5 _ hF
      · have hF := ite_f hF c411
        by_cases c412 : ((xs v5.toNatClampNeg) &&& (63 : Int32)) = 2
        · have hF := ite_t hF c412
          refine E_tabIn (off := 307) (tgt := 352) (by rw [c412]; decide) (by rw [c412]; decide) (by rw [c412]; rfl) rfl dL_law_45 ?_
          exact T_L_law_352 hfl fl hk28 v5 _ hF
        · have hF := ite_f hF c412
          by_cases c413 : ((xs v5.toNatClampNeg) &&& (63 : Int32)) = 3
          · have hF := ite_t hF c413
            refine E_tabIn (off := 375) (tgt := 420) (by rw [c413]; decide) (by rw [c413]; decide) (by rw [c413]; rfl) rfl dL_law_45 ?_
            exact T_L_law_420 hfl fl hk28 v5 _ hF
          · have hF := ite_f hF c413
            by_cases c414 : ((xs v5.toNatClampNeg) &&& (63 : Int32)) = 4
            · have hF := ite_t hF c414
              refine E_tabIn (off := 443) (tgt := 488) (by rw [c414]; decide) (by rw [c414]; decide) (by rw [c414]; rfl) rfl dL_law_45 ?_
              exact T_L_law_488 hfl fl hk28 v5 _ hF
            · have hF := ite_f hF c414
              by_cases c415 : ((xs v5.toNatClampNeg) &&& (63 : Int32)) = 5
              · have hF := ite_t hF c415
                refine E_tabIn (off := 499) (tgt := 544) (by rw [c415]; decide) (by rw [c415]; decide) (by rw [c415]; rfl) rfl dL_law_45 ?_
                exact T_L_law_544 hfl fl hk28 v5 _ hF
              · have hF := ite_f hF c415
                by_cases c416 : ((xs v5.toNatClampNeg) &&& (63 : Int32)) = 6
                · have hF := ite_t hF c416
                  refine E_tabIn (off := 579) (tgt := 624) (by rw [c416]; decide) (by rw [c416]; decide) (by rw [c416]; rfl) rfl dL_law_45 ?_
                  exact T_L_law_624 hfl fl hk28 v5 _ hF
                · have hF := ite_f hF c416
                  by_cases c417 : ((xs v5.toNatClampNeg) &&& (63 : Int32)) = 7
                  · have hF := ite_t hF c417
                    refine E_tabIn (off := 635) (tgt := 680) (by rw [c417]; decide) (by rw [c417]; decide) (by rw [c417]; rfl) rfl dL_law_45 ?_
                    exact T_L_law_680 hfl fl hk28 v5 _ hF
                  · have hF := ite_f hF c417
                    by_cases c418 : ((xs v5.toNatClampNeg) &&& (63 : Int32)) = 8
                    · have hF := ite_t hF c418
                      refine E_tabIn (off := 703) (tgt := 748) (by rw [c418]; decide) (by rw [c418]; decide) (by rw [c418]; rfl) rfl dL_law_45 ?_
                      exact T_L_law_748 hfl fl hk28 v5 _ hF
                    · have hF := ite_f hF c418
                      by_cases c419 : ((xs v5.toNatClampNeg) &&& (63 : Int32)) = 9
                      · have hF := ite_t hF c419
                        refine E_tabIn (off := 771) (tgt := 816) (by rw [c419]; decide) (by rw [c419]; decide) (by rw [c419]; rfl) rfl dL_law_45 ?_
                        exact T_L_law_816 hfl fl hk28 v5 _ hF
                      · have hF := ite_f hF c419
                        by_cases c420 : ((xs v5.toNatClampNeg) &&& (63 : Int32)) = 10
                        · have hF := ite_t hF c420
                          refine E_tabIn (off := 889) (tgt := 934) (by rw [c420]; decide) (by rw [c420]; decide) (by rw [c420]; rfl) rfl dL_law_45 ?_
                          exact T_L_law_934 hfl fl hk28 v5 _ hF
                        · have hF := ite_f hF c420
                          by_cases c421 : ((xs v5.toNatClampNeg) &&& (63 : Int32)) = 11
                          · have hF := ite_t hF c421
                            refine E_tabIn (off := 927) (tgt := 972) (by rw [c421]; decide) (by rw [c421]; decide) (by rw [c421]; rfl) rfl dL_law_45 ?_
                            exact T_L_law_972 hfl fl hk28 v5 _ hF
                          · have hF := ite_f hF c421
                            by_cases c422 : ((xs v5.toNatClampNeg) &&& (63 : Int32)) = 12
                            · have hF := ite_t hF c422
                              refine E_tabIn (off := 971) (tgt := 1016) (by rw [c422]; decide) (by rw [c422]; decide) (by rw [c422]; rfl) rfl dL_law_45 ?_
                              exact T_L_law_1016 hfl fl hk28 v5 _ hF
                            · have hF := ite_f hF c422
                              by_cases c423 : ((xs v5.toNatClampNeg) &&& (63 : Int32)) = 13
                              · have hF := ite_t hF c423
                                refine E_tabIn (off := 984) (tgt := 1029) (by rw [c423]; decide) (by rw [c423]; decide) (by rw [c423]; rfl) rfl dL_law_45 ?_
                                exact T_L_law_1029 hfl fl hk28 v5 _ hF
                              · have hF := ite_f hF c423
                                by_cases c424 : ((xs v5.toNatClampNeg) &&& (63 : Int32)) = 14
                                · have hF := ite_t hF c424
                                  refine E_tabIn (off := 1028) (tgt := 1073) (by rw [c424]; decide) (by rw [c424]; decide) (by rw [c424]; rfl) rfl dL_law_45 ?_
                                  exact T_L_law_1073 hfl fl hk28 v5 _ hF
                                · have hF := ite_f hF c424
                                  by_cases c425 : ((xs v5.toNatClampNeg) &&& (63 : Int32)) = 15
                                  · have hF := ite_t hF c425
                                    refine E_tabIn (off := 1096) (tgt := 1141) (by rw [c425]; decide) (by rw [c425]; decide) (by rw [c425]; rfl) rfl dL_law_45 ?_
                                    exact T_L_law_1141 hfl fl hk28 v5 _ hF
                                  · have hF := ite_f hF c425
                                    by_cases c426 : ((xs v5.toNatClampNeg) &&& (63 : Int32)) = 16
                                    · have hF := ite_t hF c426
                                      refine E_tabIn (off := 1109) (tgt := 1154) (by rw [c426]; decide) (by rw [c426]; decide) (by rw [c426]; rfl) rfl dL_law_45 ?_
                                      exact T_L_law_1154 hfl fl hk28 v5 _ hF
                                    · have hF := ite_f hF c426
                                      by_cases c427 : ((xs v5.toNatClampNeg) &&& (63 : Int32)) = 17
                                      · have hF := ite_t hF c427
                                        refine E_tabIn (off := 1177) (tgt := 1222) (by rw [c427]; decide) (by rw [c427]; decide) (by rw [c427]; rfl) rfl dL_law_45 ?_
                                        exact T_L_law_1222 hfl fl hk28 v5 _ hF
                                      · have hF := ite_f hF c427
                                        by_cases c428 : ((xs v5.toNatClampNeg) &&& (63 : Int32)) = 18
                                        · have hF := ite_t hF c428
                                          refine E_tabIn (off := 1245) (tgt := 1290) (by rw [c428]; decide) (by rw [c428]; decide) (by rw [c428]; rfl) rfl dL_law_45 ?_
                                          exact T_L_law_1290 hfl fl hk28 v5 _ hF
                                        · have hF := ite_f hF c428
                                          by_cases c429 : ((xs v5.toNatClampNeg) &&& (63 : Int32)) = 19
                                          · have hF := ite_t hF c429
                                            refine E_tabIn (off := 1301) (tgt := 1346) (by rw [c429]; decide) (by rw [c429]; decide) (by rw [c429]; rfl) rfl dL_law_45 ?_
                                            exact T_L_law_1346 hfl fl hk28 v5 _ hF
                                          · have hF := ite_f hF c429
                                            by_cases c430 : ((xs v5.toNatClampNeg) &&& (63 : Int32)) = 20
                                            · have hF := ite_t hF c430
                                              refine E_tabIn (off := 1357) (tgt := 1402) (by rw [c430]; decide) (by rw [c430]; decide) (by rw [c430]; rfl) rfl dL_law_45 ?_
                                              exact T_L_law_1402 hfl fl hk28 v5 _ hF
                                            · have hF := ite_f hF c430
                                              by_cases c431 : ((xs v5.toNatClampNeg) &&& (63 : Int32)) = 21
                                              · have hF := ite_t hF c431
                                                refine E_tabIn (off := 1370) (tgt := 1415) (by rw [c431]; decide) (by rw [c431]; decide) (by rw [c431]; rfl) rfl dL_law_45 ?_
                                                exact T_L_law_1415 hfl fl hk28 v5 _ hF
                                              · have hF := ite_f hF c431
                                                by_cases c432 : ((xs v5.toNatClampNeg) &&& (63 : Int32)) = 22
                                                · have hF := ite_t hF c432
                                                  refine E_tabIn (off := 1438) (tgt := 1483) (by rw [c432]; decide) (by rw [c432]; decide) (by rw [c432]; rfl) rfl dL_law_45 ?_
                                                  exact T_L_law_1483 hfl fl hk28 v5 _ hF
                                                · have hF := ite_f hF c432
                                                  by_cases c433 : ((xs v5.toNatClampNeg) &&& (63 : Int32)) = 23
                                                  · have hF := ite_t hF c433
                                                    refine E_tabIn (off := 1506) (tgt := 1551) (by rw [c433]; decide) (by rw [c433]; decide) (by rw [c433]; rfl) rfl dL_law_45 ?_
                                                    exact T_L_law_1551 hfl fl hk28 v5 _ hF
                                                  · have hF := ite_f hF c433
                                                    by_cases c434 : ((xs v5.toNatClampNeg) &&& (63 : Int32)) = 24
                                                    · have hF := ite_t hF c434
                                                      refine E_tabIn (off := 1574) (tgt := 1619) (by rw [c434]; decide) (by rw [c434]; decide) (by rw [c434]; rfl) rfl dL_law_45 ?_
                                                      exact T_L_law_1619 hfl fl hk28 v5 _ hF
                                                    · have hF := ite_f hF c434
                                                      by_cases c435 : ((xs v5.toNatClampNeg) &&& (63 : Int32)) = 25
                                                      · have hF := ite_t hF c435
                                                        refine E_tabIn (off := 1654) (tgt := 1699) (by rw [c435]; decide) (by rw [c435]; decide) (by rw [c435]; rfl) rfl dL_law_45 ?_
                                                        exact T_L_law_1699 hfl fl hk28 v5 _ hF
                                                      · have hF := ite_f hF c435
                                                        by_cases c436 : ((xs v5.toNatClampNeg) &&& (63 : Int32)) = 26
                                                        · have hF := ite_t hF c436
                                                          refine E_tabIn (off := 1722) (tgt := 1767) (by rw [c436]; decide) (by rw [c436]; decide) (by rw [c436]; rfl) rfl dL_law_45 ?_
                                                          exact T_L_law_1767 hfl fl hk28 v5 _ hF
                                                        · have hF := ite_f hF c436
                                                          by_cases c437 : ((xs v5.toNatClampNeg) &&& (63 : Int32)) = 27
                                                          · have hF := ite_t hF c437
                                                            refine E_tabIn (off := 1778) (tgt := 1823) (by rw [c437]; decide) (by rw [c437]; decide) (by rw [c437]; rfl) rfl dL_law_45 ?_
                                                            exact T_L_law_1823 hfl fl hk28 v5 _ hF
                                                          · have hF := ite_f hF c437
                                                            by_cases c438 : ((xs v5.toNatClampNeg) &&& (63 : Int32)) = 28
                                                            · have hF := ite_t hF c438
                                                              refine E_tabIn (off := 1874) (tgt := 1919) (by rw [c438]; decide) (by rw [c438]; decide) (by rw [c438]; rfl) rfl dL_law_45 ?_
                                                              exact T_L_law_1919 hfl fl hk28 v5 _ hF
                                                            · have hF := ite_f hF c438
                                                              by_cases c439 : ((xs v5.toNatClampNeg) &&& (63 : Int32)) = 29
                                                              · have hF := ite_t hF c439
                                                                refine E_tabIn (off := 1930) (tgt := 1975) (by rw [c439]; decide) (by rw [c439]; decide) (by rw [c439]; rfl) rfl dL_law_45 ?_
                                                                exact T_L_law_1975 hfl fl hk28 v5 _ hF
                                                              · have hF := ite_f hF c439
                                                                by_cases c440 : ((xs v5.toNatClampNeg) &&& (63 : Int32)) = 30
                                                                · have hF := ite_t hF c440
                                                                  refine E_tabIn (off := 1995) (tgt := 2040) (by rw [c440]; decide) (by rw [c440]; decide) (by rw [c440]; rfl) rfl dL_law_45 ?_
                                                                  exact T_L_law_2040 hfl fl hk28 v5 _ hF
                                                                · have hF := ite_f hF c440
                                                                  by_cases c441 : ((xs v5.toNatClampNeg) &&& (63 : Int32)) = 31
                                                                  · have hF := ite_t hF c441
                                                                    refine E_tabIn (off := 2039) (tgt := 2084) (by rw [c441]; decide) (by rw [c441]; decide) (by rw [c441]; rfl) rfl dL_law_45 ?_
                                                                    exact T_L_law_2084 hfl fl hk28 v5 _ hF
                                                                  · have hF := ite_f hF c441
                                                                    by_cases c442 : ((xs v5.toNatClampNeg) &&& (63 : Int32)) = 32
                                                                    · have hF := ite_t hF c442
                                                                      refine E_tabIn (off := 2050) (tgt := 2095) (by rw [c442]; decide) (by rw [c442]; decide) (by rw [c442]; rfl) rfl dL_law_45 ?_
                                                                      exact T_L_law_2095 hfl fl hk28 v5 _ hF
                                                                    · have hF := ite_f hF c442
                                                                      refine E_tabOut (tgt := 2119) (tab_out fun z9 z1 z2 => by rcases (show z9 = 0 ∨ z9 = 1 ∨ z9 = 2 ∨ z9 = 3 ∨ z9 = 4 ∨ z9 = 5 ∨ z9 = 6 ∨ z9 = 7 ∨ z9 = 8 ∨ z9 = 9 ∨ z9 = 10 ∨ z9 = 11 ∨ z9 = 12 ∨ z9 = 13 ∨ z9 = 14 ∨ z9 = 15 ∨ z9 = 16 ∨ z9 = 17 ∨ z9 = 18 ∨ z9 = 19 ∨ z9 = 20 ∨ z9 = 21 ∨ z9 = 22 ∨ z9 = 23 ∨ z9 = 24 ∨ z9 = 25 ∨ z9 = 26 ∨ z9 = 27 ∨ z9 = 28 ∨ z9 = 29 ∨ z9 = 30 ∨ z9 = 31 ∨ z9 = 32 by omega) with rfl | rfl | rfl | rfl | rfl | rfl | rfl | rfl | rfl | rfl | rfl | rfl | rfl | rfl | rfl | rfl | rfl | rfl | rfl | rfl | rfl | rfl | rfl | rfl | rfl | rfl | rfl | rfl | rfl | rfl | rfl | rfl | rfl; exact c410; exact c411; exact c412; exact c413; exact c414; exact c415; exact c416; exact c417; exact c418; exact c419; exact c420; exact c421; exact c422; exact c423; exact c424; exact c425; exact c426; exact c427; exact c428; exact c429; exact c430; exact c431; exact c432; exact c433; exact c434; exact c435; exact c436; exact c437; exact c438; exact c439; exact c440; exact c441; exact c442) rfl dL_law_45 ?_
                                                                      refine E_iinc (q := 5) (v := (v5 + (7 : Int32))) (L' := [(5, .int (v5 + (7 : Int32))), (0, .ref 400), (1, .ref 320), (2, .ref 340), (3, .ref 350), (4, .ref 351)]) rfl rfl (Nat.le_of_ble_eq_true rfl) rfl dL_law_2119 ?_
                                                                      refine E_goto (tgt := 28) rfl dL_law_2122 ?_
                                                                      refine E_weak (kc' := kcv) (ks' := ksv) (by omega) (by omega) ?_
                                                                      refine E_sub [1, 2, 3, 4, 5, 0] rfl ?_
                                                                      exact hk28 _ _ hF
set_option maxHeartbeats 8000000 in
set_option maxRecDepth 100000 in
theorem T_L_law {l : Launch} (hfl : l.stackTraces = false) (fl : Nat) {Ln : Nat} {xs : Nat → Int32} {r : Rs} : ∀ (n : Nat) (v5 : Int32) (s : Mem), B_L_law fl xs Ln n v5 s = some 1 → E l (X_law Ln xs) r false NF s (8 * n) (48 * n) 28 [(0, .ref 400), (1, .ref 320), (2, .ref 340), (3, .ref 350), (4, .ref 351), (5, .int v5)] [] := by
  intro n
  induction n with
  | zero =>
    intro v5 s hF
    cases hF
  | succ n ih =>
    intro v5 s hF
    exact E_weak (by omega) (by omega) (T_L_law_step hfl fl ih v5 s hF)
