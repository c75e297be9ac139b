theorem w_Law_loop_1553 {G : jG} {X : jX} {b sn : Nat} {sx : Nat → Int32} (C : jC G X cL_law 4 RL 2048 84000) (B : jB G X b sn sx) (Z : jZ G X b) {v3 : Int32} {h : Hp} {out : ((Int32 × Hp) ⊕ (Int32 × Hp))} (O : (O_Law_loop_18 b G X) out) (hm : s_Law_loop_1553 sx sn v3 h = some out) : J G X 1553 [(0, .ref b), (1, .ref (G.1 + 0)), (2, .ref (G.1 + 84)), (3, .int v3)] [] h := by
  unfold s_Law_loop_1553 at hm
  refine j_iinc C 3 [(3, .int (v3 + (6 : Int32))), (0, .ref b), (1, .ref (G.1 + 0)), (2, .ref (G.1 + 84))] dL_law_1553 rfl (add_lit (by decide)) (by decide) rfl ?_
  refine j_goto C 18 dL_law_1556 (by decide) ?_
  obtain rfl := Option.some.inj hm
  refine j_sub (L' := [(0, .ref b), (1, .ref (G.1 + 0)), (2, .ref (G.1 + 84)), (3, .int (v3 + (6 : Int32)))]) [1, 2, 3, 0] rfl ?_
  exact O
theorem w_Law_loop_18 {G : jG} {X : jX} {b sn : Nat} {sx : Nat → Int32} (C : jC G X cL_law 4 RL 2048 84000) (B : jB G X b sn sx) (Z : jZ G X b) {v3 : Int32} {h : Hp} {out : ((Int32 × Hp) ⊕ (Int32 × Hp))} (O : (O_Law_loop_18 b G X) out) (hm : s_Law_loop_18 sx sn v3 h = some out) : J G X 18 [(0, .ref b), (1, .ref (G.1 + 0)), (2, .ref (G.1 + 84)), (3, .int v3)] [] h := by
  unfold s_Law_loop_18 at hm
  refine j_iload_n C 3 dL_law_18 rfl rfl ?_
  refine j_aload_n C 0 dL_law_19 rfl rfl ?_
  refine j_scl C B dL_law_20 ?_
  refine j_bipush C 6 dL_law_21 (by decide) ?_
  refine j_isub C dL_law_23 ?_
  refine j_if_icmpgt C 1559 dL_law_24 (by decide) hm (fun hm => ?_) (fun hm => ?_)
  · refine j_iconst C 1 dL_law_1559 (by decide) ?_
    obtain rfl := Option.some.inj hm
    exact j_lawret C Z O dL_law_1560
  · refine j_aload_n C 0 dL_law_27 rfl rfl ?_
    refine j_iload_n C 3 dL_law_28 rfl rfl ?_
    refine j_sld C B hm dL_law_29 (fun hm => ?_)
    refine j_bipush C 63 dL_law_30 (by decide) ?_
    refine j_iand C dL_law_32 ?_
    rcases if_inv hm with ⟨c85, hm⟩ | ⟨c85, hm⟩
    · refine j_swIn C 0 216 dL_law_33 c85 (by decide) (by decide) rfl (by decide) ?_
      refine j_aload_n C 1 dL_law_216 rfl rfl ?_
      refine j_aload_n C 0 dL_law_217 rfl rfl ?_
      refine j_iload_n C 3 dL_law_218 rfl rfl ?_
      refine j_iconst C 1 dL_law_219 (by decide) ?_
      refine j_iadd C dL_law_220 ?_
      refine j_sld C B hm dL_law_221 (fun hm => ?_)
      refine j_aload_n C 0 dL_law_222 rfl rfl ?_
      refine j_iload_n C 3 dL_law_223 rfl rfl ?_
      refine j_iconst C 2 dL_law_224 (by decide) ?_
      refine j_iadd C dL_law_225 ?_
      refine j_sld C B hm dL_law_226 (fun hm => ?_)
      refine j_aload_n C 0 dL_law_227 rfl rfl ?_
      refine j_iload_n C 3 dL_law_228 rfl rfl ?_
      refine j_iconst C 3 dL_law_229 (by decide) ?_
      refine j_iadd C dL_law_230 ?_
      refine j_sld C B hm dL_law_231 (fun hm => ?_)
      refine j_cV C l_L_13 [.int (sx (ix (v3 + ((1 : Int32))))), .int (sx (ix (v3 + ((2 : Int32))))), .int (sx (ix (v3 + ((3 : Int32)))))] [] (fun u1 => some (.int u1.1)) (fun u1 => u1.2) (fun u1 => [.int u1.1]) n_0 hm (fun l u hu => c_Race_sea hu) rfl (Nat.le_of_ble_eq_true rfl) rfl (Nat.le_of_ble_eq_true rfl) (Nat.le_of_ble_eq_true rfl) (fun _ => rfl) dL_law_232 (fun u1 hm => ?_)
      refine j_aload_n C 2 dL_law_235 rfl rfl ?_
      refine j_aload_n C 0 dL_law_236 rfl rfl ?_
      refine j_iload_n C 3 dL_law_237 rfl rfl ?_
      refine j_iconst C 1 dL_law_238 (by decide) ?_
      refine j_iadd C dL_law_239 ?_
      refine j_sld C B hm dL_law_240 (fun hm => ?_)
      refine j_aload_n C 0 dL_law_241 rfl rfl ?_
      refine j_iload_n C 3 dL_law_242 rfl rfl ?_
      refine j_iconst C 2 dL_law_243 (by decide) ?_
      refine j_iadd C dL_law_244 ?_
      refine j_sld C B hm dL_law_245 (fun hm => ?_)
      refine j_aload_n C 0 dL_law_246 rfl rfl ?_
      refine j_iload_n C 3 dL_law_247 rfl rfl ?_
      refine j_iconst C 3 dL_law_248 (by decide) ?_
      refine j_iadd C dL_law_249 ?_
      refine j_sld C B hm dL_law_250 (fun hm => ?_)
      refine j_cV C l_L_17 [.int (sx (ix (v3 + ((1 : Int32))))), .int (sx (ix (v3 + ((2 : Int32))))), .int (sx (ix (v3 + ((3 : Int32)))))] [.int u1.1] (fun u2 => some (.int u2.1)) (fun u2 => u2.2) (fun u2 => [.int u2.1, .int u1.1]) n_84 hm (fun l u hu => c_Mod_sea hu) rfl (Nat.le_of_ble_eq_true rfl) rfl (Nat.le_of_ble_eq_true rfl) (Nat.le_of_ble_eq_true rfl) (fun _ => rfl) dL_law_251 (fun u2 hm => ?_)
      refine j_if_icmpeq C 1553 dL_law_254 (by decide) hm (fun hm => ?_) (fun hm => ?_)
      · refine j_sub (L' := [(0, .ref b), (1, .ref (G.1 + 0)), (2, .ref (G.1 + 84)), (3, .int v3)]) [0, 1, 2, 3] rfl ?_
        exact w_Law_loop_1553 C B Z O hm
      · refine j_iconst C 0 dL_law_257 (by decide) ?_
        obtain rfl := Option.some.inj hm
        exact j_lawret C Z O dL_law_258
    rcases if_inv hm with ⟨c86, hm⟩ | ⟨c86, hm⟩
    · refine j_swIn C 1 259 dL_law_33 c86 (by decide) (by decide) rfl (by decide) ?_
      refine j_aload_n C 1 dL_law_259 rfl rfl ?_
      refine j_aload_n C 0 dL_law_260 rfl rfl ?_
      refine j_iload_n C 3 dL_law_261 rfl rfl ?_
      refine j_iconst C 1 dL_law_262 (by decide) ?_
      refine j_iadd C dL_law_263 ?_
      refine j_sld C B hm dL_law_264 (fun hm => ?_)
      refine j_aload_n C 0 dL_law_265 rfl rfl ?_
      refine j_iload_n C 3 dL_law_266 rfl rfl ?_
      refine j_iconst C 2 dL_law_267 (by decide) ?_
      refine j_iadd C dL_law_268 ?_
      refine j_sld C B hm dL_law_269 (fun hm => ?_)
      refine j_aload_n C 0 dL_law_270 rfl rfl ?_
      refine j_iload_n C 3 dL_law_271 rfl rfl ?_
      refine j_iconst C 3 dL_law_272 (by decide) ?_
      refine j_iadd C dL_law_273 ?_
      refine j_sld C B hm dL_law_274 (fun hm => ?_)
      refine j_aload_n C 0 dL_law_275 rfl rfl ?_
      refine j_iload_n C 3 dL_law_276 rfl rfl ?_
      refine j_iconst C 4 dL_law_277 (by decide) ?_
      refine j_iadd C dL_law_278 ?_
      refine j_sld C B hm dL_law_279 (fun hm => ?_)
      refine j_cV C l_L_18 [.int (sx (ix (v3 + ((1 : Int32))))), .int (sx (ix (v3 + ((2 : Int32))))), .int (sx (ix (v3 + ((3 : Int32))))), .int (sx (ix (v3 + ((4 : Int32)))))] [] (fun u3 => some (.int u3.1)) (fun u3 => u3.2) (fun u3 => [.int u3.1]) n_0 hm (fun l u hu => c_Race_moon hu) rfl (Nat.le_of_ble_eq_true rfl) rfl (Nat.le_of_ble_eq_true rfl) (Nat.le_of_ble_eq_true rfl) (fun _ => rfl) dL_law_280 (fun u3 hm => ?_)
      refine j_aload_n C 2 dL_law_283 rfl rfl ?_
      refine j_aload_n C 0 dL_law_284 rfl rfl ?_
      refine j_iload_n C 3 dL_law_285 rfl rfl ?_
      refine j_iconst C 1 dL_law_286 (by decide) ?_
      refine j_iadd C dL_law_287 ?_
      refine j_sld C B hm dL_law_288 (fun hm => ?_)
      refine j_aload_n C 0 dL_law_289 rfl rfl ?_
      refine j_iload_n C 3 dL_law_290 rfl rfl ?_
      refine j_iconst C 2 dL_law_291 (by decide) ?_
      refine j_iadd C dL_law_292 ?_
      refine j_sld C B hm dL_law_293 (fun hm => ?_)
      refine j_aload_n C 0 dL_law_294 rfl rfl ?_
      refine j_iload_n C 3 dL_law_295 rfl rfl ?_
      refine j_iconst C 3 dL_law_296 (by decide) ?_
      refine j_iadd C dL_law_297 ?_
      refine j_sld C B hm dL_law_298 (fun hm => ?_)
      refine j_aload_n C 0 dL_law_299 rfl rfl ?_
      refine j_iload_n C 3 dL_law_300 rfl rfl ?_
      refine j_iconst C 4 dL_law_301 (by decide) ?_
      refine j_iadd C dL_law_302 ?_
      refine j_sld C B hm dL_law_303 (fun hm => ?_)
      refine j_cV C l_L_22 [.int (sx (ix (v3 + ((1 : Int32))))), .int (sx (ix (v3 + ((2 : Int32))))), .int (sx (ix (v3 + ((3 : Int32))))), .int (sx (ix (v3 + ((4 : Int32)))))] [.int u3.1] (fun u4 => some (.int u4.1)) (fun u4 => u4.2) (fun u4 => [.int u4.1, .int u3.1]) n_84 hm (fun l u hu => c_Mod_moon hu) rfl (Nat.le_of_ble_eq_true rfl) rfl (Nat.le_of_ble_eq_true rfl) (Nat.le_of_ble_eq_true rfl) (fun _ => rfl) dL_law_304 (fun u4 hm => ?_)
      refine j_if_icmpeq C 1553 dL_law_307 (by decide) hm (fun hm => ?_) (fun hm => ?_)
      · refine j_sub (L' := [(0, .ref b), (1, .ref (G.1 + 0)), (2, .ref (G.1 + 84)), (3, .int v3)]) [0, 1, 2, 3] rfl ?_
        exact w_Law_loop_1553 C B Z O hm
      · refine j_iconst C 0 dL_law_310 (by decide) ?_
        obtain rfl := Option.some.inj hm
        exact j_lawret C Z O dL_law_311
    rcases if_inv hm with ⟨c87, hm⟩ | ⟨c87, hm⟩
    · refine j_swIn C 2 312 dL_law_33 c87 (by decide) (by decide) rfl (by decide) ?_
      refine j_aload_n C 1 dL_law_312 rfl rfl ?_
      refine j_aload_n C 0 dL_law_313 rfl rfl ?_
      refine j_iload_n C 3 dL_law_314 rfl rfl ?_
      refine j_iconst C 1 dL_law_315 (by decide) ?_
      refine j_iadd C dL_law_316 ?_
      refine j_sld C B hm dL_law_317 (fun hm => ?_)
      refine j_aload_n C 0 dL_law_318 rfl rfl ?_
      refine j_iload_n C 3 dL_law_319 rfl rfl ?_
      refine j_iconst C 2 dL_law_320 (by decide) ?_
      refine j_iadd C dL_law_321 ?_
      refine j_sld C B hm dL_law_322 (fun hm => ?_)
      refine j_cV C l_L_23 [.int (sx (ix (v3 + ((1 : Int32))))), .int (sx (ix (v3 + ((2 : Int32)))))] [] (fun u5 => some (.int u5.1)) (fun u5 => u5.2) (fun u5 => [.int u5.1]) n_0 hm (fun l u hu => c_Race_terms hu) rfl (Nat.le_of_ble_eq_true rfl) rfl (Nat.le_of_ble_eq_true rfl) (Nat.le_of_ble_eq_true rfl) (fun _ => rfl) dL_law_323 (fun u5 hm => ?_)
      refine j_aload_n C 2 dL_law_326 rfl rfl ?_
      refine j_aload_n C 0 dL_law_327 rfl rfl ?_
      refine j_iload_n C 3 dL_law_328 rfl rfl ?_
      refine j_iconst C 1 dL_law_329 (by decide) ?_
      refine j_iadd C dL_law_330 ?_
      refine j_sld C B hm dL_law_331 (fun hm => ?_)
      refine j_aload_n C 0 dL_law_332 rfl rfl ?_
      refine j_iload_n C 3 dL_law_333 rfl rfl ?_
      refine j_iconst C 2 dL_law_334 (by decide) ?_
      refine j_iadd C dL_law_335 ?_
      refine j_sld C B hm dL_law_336 (fun hm => ?_)
      refine j_cV C l_L_27 [.int (sx (ix (v3 + ((1 : Int32))))), .int (sx (ix (v3 + ((2 : Int32)))))] [.int u5.1] (fun u6 => some (.int u6.1)) (fun u6 => u6.2) (fun u6 => [.int u6.1, .int u5.1]) n_84 hm (fun l u hu => c_Mod_terms hu) rfl (Nat.le_of_ble_eq_true rfl) rfl (Nat.le_of_ble_eq_true rfl) (Nat.le_of_ble_eq_true rfl) (fun _ => rfl) dL_law_337 (fun u6 hm => ?_)
      refine j_if_icmpeq C 1553 dL_law_340 (by decide) hm (fun hm => ?_) (fun hm => ?_)
      · refine j_sub (L' := [(0, .ref b), (1, .ref (G.1 + 0)), (2, .ref (G.1 + 84)), (3, .int v3)]) [0, 1, 2, 3] rfl ?_
        exact w_Law_loop_1553 C B Z O hm
      · refine j_iconst C 0 dL_law_343 (by decide) ?_
        obtain rfl := Option.some.inj hm
        exact j_lawret C Z O dL_law_344
    rcases if_inv hm with ⟨c88, hm⟩ | ⟨c88, hm⟩
    · refine j_swIn C 3 345 dL_law_33 c88 (by decide) (by decide) rfl (by decide) ?_
      refine j_aload_n C 1 dL_law_345 rfl rfl ?_
      refine j_aload_n C 0 dL_law_346 rfl rfl ?_
      refine j_iload_n C 3 dL_law_347 rfl rfl ?_
      refine j_iconst C 1 dL_law_348 (by decide) ?_
      refine j_iadd C dL_law_349 ?_
      refine j_sld C B hm dL_law_350 (fun hm => ?_)
      refine j_aload_n C 0 dL_law_351 rfl rfl ?_
      refine j_iload_n C 3 dL_law_352 rfl rfl ?_
      refine j_iconst C 2 dL_law_353 (by decide) ?_
      refine j_iadd C dL_law_354 ?_
      refine j_sld C B hm dL_law_355 (fun hm => ?_)
      refine j_aload_n C 0 dL_law_356 rfl rfl ?_
      refine j_iload_n C 3 dL_law_357 rfl rfl ?_
      refine j_iconst C 3 dL_law_358 (by decide) ?_
      refine j_iadd C dL_law_359 ?_
      refine j_sld C B hm dL_law_360 (fun hm => ?_)
      refine j_aload_n C 0 dL_law_361 rfl rfl ?_
      refine j_iload_n C 3 dL_law_362 rfl rfl ?_
      refine j_iconst C 4 dL_law_363 (by decide) ?_
      refine j_iadd C dL_law_364 ?_
      refine j_sld C B hm dL_law_365 (fun hm => ?_)
      refine j_aload_n C 0 dL_law_366 rfl rfl ?_
      refine j_iload_n C 3 dL_law_367 rfl rfl ?_
      refine j_iconst C 5 dL_law_368 (by decide) ?_
      refine j_iadd C dL_law_369 ?_
      refine j_sld C B hm dL_law_370 (fun hm => ?_)
      refine j_cV C l_L_28 [.int (sx (ix (v3 + ((1 : Int32))))), .int (sx (ix (v3 + ((2 : Int32))))), .int (sx (ix (v3 + ((3 : Int32))))), .int (sx (ix (v3 + ((4 : Int32))))), .int (sx (ix (v3 + ((5 : Int32)))))] [] (fun u7 => some (.int u7.1)) (fun u7 => u7.2) (fun u7 => [.int u7.1]) n_0 hm (fun l u hu => c_Race_feed hu) rfl (Nat.le_of_ble_eq_true rfl) rfl (Nat.le_of_ble_eq_true rfl) (Nat.le_of_ble_eq_true rfl) (fun _ => rfl) dL_law_371 (fun u7 hm => ?_)
      refine j_aload_n C 2 dL_law_374 rfl rfl ?_
      refine j_aload_n C 0 dL_law_375 rfl rfl ?_
      refine j_iload_n C 3 dL_law_376 rfl rfl ?_
      refine j_iconst C 1 dL_law_377 (by decide) ?_
      refine j_iadd C dL_law_378 ?_
      refine j_sld C B hm dL_law_379 (fun hm => ?_)
      refine j_aload_n C 0 dL_law_380 rfl rfl ?_
      refine j_iload_n C 3 dL_law_381 rfl rfl ?_
      refine j_iconst C 2 dL_law_382 (by decide) ?_
      refine j_iadd C dL_law_383 ?_
      refine j_sld C B hm dL_law_384 (fun hm => ?_)
      refine j_aload_n C 0 dL_law_385 rfl rfl ?_
      refine j_iload_n C 3 dL_law_386 rfl rfl ?_
      refine j_iconst C 3 dL_law_387 (by decide) ?_
      refine j_iadd C dL_law_388 ?_
      refine j_sld C B hm dL_law_389 (fun hm => ?_)
      refine j_aload_n C 0 dL_law_390 rfl rfl ?_
      refine j_iload_n C 3 dL_law_391 rfl rfl ?_
      refine j_iconst C 4 dL_law_392 (by decide) ?_
      refine j_iadd C dL_law_393 ?_
      refine j_sld C B hm dL_law_394 (fun hm => ?_)
      refine j_aload_n C 0 dL_law_395 rfl rfl ?_
      refine j_iload_n C 3 dL_law_396 rfl rfl ?_
      refine j_iconst C 5 dL_law_397 (by decide) ?_
      refine j_iadd C dL_law_398 ?_
      refine j_sld C B hm dL_law_399 (fun hm => ?_)
      refine j_cV C l_L_32 [.int (sx (ix (v3 + ((1 : Int32))))), .int (sx (ix (v3 + ((2 : Int32))))), .int (sx (ix (v3 + ((3 : Int32))))), .int (sx (ix (v3 + ((4 : Int32))))), .int (sx (ix (v3 + ((5 : Int32)))))] [.int u7.1] (fun u8 => some (.int u8.1)) (fun u8 => u8.2) (fun u8 => [.int u8.1, .int u7.1]) n_84 hm (fun l u hu => c_Mod_feed hu) rfl (Nat.le_of_ble_eq_true rfl) rfl (Nat.le_of_ble_eq_true rfl) (Nat.le_of_ble_eq_true rfl) (fun _ => rfl) dL_law_400 (fun u8 hm => ?_)
      refine j_if_icmpeq C 1553 dL_law_403 (by decide) hm (fun hm => ?_) (fun hm => ?_)
      · refine j_sub (L' := [(0, .ref b), (1, .ref (G.1 + 0)), (2, .ref (G.1 + 84)), (3, .int v3)]) [0, 1, 2, 3] rfl ?_
        exact w_Law_loop_1553 C B Z O hm
      · refine j_iconst C 0 dL_law_406 (by decide) ?_
        obtain rfl := Option.some.inj hm
        exact j_lawret C Z O dL_law_407
    rcases if_inv hm with ⟨c89, hm⟩ | ⟨c89, hm⟩
    · refine j_swIn C 4 408 dL_law_33 c89 (by decide) (by decide) rfl (by decide) ?_
      refine j_aload_n C 1 dL_law_408 rfl rfl ?_
      refine j_aload_n C 0 dL_law_409 rfl rfl ?_
      refine j_iload_n C 3 dL_law_410 rfl rfl ?_
      refine j_iconst C 1 dL_law_411 (by decide) ?_
      refine j_iadd C dL_law_412 ?_
      refine j_sld C B hm dL_law_413 (fun hm => ?_)
      refine j_cV C l_L_33 [.int (sx (ix (v3 + ((1 : Int32)))))] [] (fun u9 => some (.int u9.1)) (fun u9 => u9.2) (fun u9 => [.int u9.1]) n_0 hm (fun l u hu => c_Race_end hu) rfl (Nat.le_of_ble_eq_true rfl) rfl (Nat.le_of_ble_eq_true rfl) (Nat.le_of_ble_eq_true rfl) (fun _ => rfl) dL_law_414 (fun u9 hm => ?_)
      refine j_aload_n C 2 dL_law_417 rfl rfl ?_
      refine j_aload_n C 0 dL_law_418 rfl rfl ?_
      refine j_iload_n C 3 dL_law_419 rfl rfl ?_
      refine j_iconst C 1 dL_law_420 (by decide) ?_
      refine j_iadd C dL_law_421 ?_
      refine j_sld C B hm dL_law_422 (fun hm => ?_)
      refine j_cV C l_L_37 [.int (sx (ix (v3 + ((1 : Int32)))))] [.int u9.1] (fun u10 => some (.int u10.1)) (fun u10 => u10.2) (fun u10 => [.int u10.1, .int u9.1]) n_84 hm (fun l u hu => c_Mod_end hu) rfl (Nat.le_of_ble_eq_true rfl) rfl (Nat.le_of_ble_eq_true rfl) (Nat.le_of_ble_eq_true rfl) (fun _ => rfl) dL_law_423 (fun u10 hm => ?_)
      refine j_if_icmpeq C 1553 dL_law_426 (by decide) hm (fun hm => ?_) (fun hm => ?_)
      · refine j_sub (L' := [(0, .ref b), (1, .ref (G.1 + 0)), (2, .ref (G.1 + 84)), (3, .int v3)]) [0, 1, 2, 3] rfl ?_
        exact w_Law_loop_1553 C B Z O hm
      · refine j_iconst C 0 dL_law_429 (by decide) ?_
        obtain rfl := Option.some.inj hm
        exact j_lawret C Z O dL_law_430
    rcases if_inv hm with ⟨c90, hm⟩ | ⟨c90, hm⟩
    · refine j_swIn C 5 431 dL_law_33 c90 (by decide) (by decide) rfl (by decide) ?_
      refine j_aload_n C 1 dL_law_431 rfl rfl ?_
      refine j_cV C l_L_38 [] [] (fun u11 => some (.int u11.1)) (fun u11 => u11.2) (fun u11 => [.int u11.1]) n_0 hm (fun l u hu => c_Race_row hu) rfl (Nat.le_of_ble_eq_true rfl) rfl (Nat.le_of_ble_eq_true rfl) (Nat.le_of_ble_eq_true rfl) (fun _ => rfl) dL_law_432 (fun u11 hm => ?_)
      refine j_aload_n C 2 dL_law_435 rfl rfl ?_
      refine j_cV C l_L_42 [] [.int u11.1] (fun u12 => some (.int u12.1)) (fun u12 => u12.2) (fun u12 => [.int u12.1, .int u11.1]) n_84 hm (fun l u hu => c_Mod_row hu) rfl (Nat.le_of_ble_eq_true rfl) rfl (Nat.le_of_ble_eq_true rfl) (Nat.le_of_ble_eq_true rfl) (fun _ => rfl) dL_law_436 (fun u12 hm => ?_)
      refine j_if_icmpeq C 1553 dL_law_439 (by decide) hm (fun hm => ?_) (fun hm => ?_)
      · refine j_sub (L' := [(0, .ref b), (1, .ref (G.1 + 0)), (2, .ref (G.1 + 84)), (3, .int v3)]) [0, 1, 2, 3] rfl ?_
        exact w_Law_loop_1553 C B Z O hm
      · refine j_iconst C 0 dL_law_442 (by decide) ?_
        obtain rfl := Option.some.inj hm
        exact j_lawret C Z O dL_law_443
    rcases if_inv hm with ⟨c91, hm⟩ | ⟨c91, hm⟩
    · refine j_swIn C 6 444 dL_law_33 c91 (by decide) (by decide) rfl (by decide) ?_
      refine j_aload_n C 1 dL_law_444 rfl rfl ?_
      refine j_cV C l_L_43 [] [] (fun u13 => some (.int u13)) (fun _ => h) (fun u13 => [.int u13]) n_0 hm (fun l u hu => c_Race_foul hu) rfl (Nat.le_of_ble_eq_true rfl) rfl (Nat.le_of_ble_eq_true rfl) (Nat.le_of_ble_eq_true rfl) (fun _ => rfl) dL_law_445 (fun u13 hm => ?_)
      refine j_aload_n C 2 dL_law_448 rfl rfl ?_
      refine j_cV C l_L_46 [] [.int u13] (fun u14 => some (.int u14)) (fun _ => h) (fun u14 => [.int u14, .int u13]) n_84 hm (fun l u hu => c_Mod_foul hu) rfl (Nat.le_of_ble_eq_true rfl) rfl (Nat.le_of_ble_eq_true rfl) (Nat.le_of_ble_eq_true rfl) (fun _ => rfl) dL_law_449 (fun u14 hm => ?_)
      refine j_if_icmpeq C 1553 dL_law_452 (by decide) hm (fun hm => ?_) (fun hm => ?_)
      · refine j_sub (L' := [(0, .ref b), (1, .ref (G.1 + 0)), (2, .ref (G.1 + 84)), (3, .int v3)]) [0, 1, 2, 3] rfl ?_
        exact w_Law_loop_1553 C B Z O hm
      · refine j_iconst C 0 dL_law_455 (by decide) ?_
        obtain rfl := Option.some.inj hm
        exact j_lawret C Z O dL_law_456
    rcases if_inv hm with ⟨c92, hm⟩ | ⟨c92, hm⟩
    · refine j_swIn C 7 457 dL_law_33 c92 (by decide) (by decide) rfl (by decide) ?_
      refine j_aload_n C 1 dL_law_457 rfl rfl ?_
      refine j_cV C l_L_47 [] [] (fun u15 => some (.int u15.1)) (fun u15 => u15.2) (fun u15 => [.int u15.1]) n_0 hm (fun l u hu => c_Race_law hu) rfl (Nat.le_of_ble_eq_true rfl) rfl (Nat.le_of_ble_eq_true rfl) (Nat.le_of_ble_eq_true rfl) (fun _ => rfl) dL_law_458 (fun u15 hm => ?_)
      refine j_aload_n C 2 dL_law_461 rfl rfl ?_
      refine j_cV C l_L_50 [] [.int u15.1] (fun u16 => some (.int u16.1)) (fun u16 => u16.2) (fun u16 => [.int u16.1, .int u15.1]) n_84 hm (fun l u hu => c_Mod_law hu) rfl (Nat.le_of_ble_eq_true rfl) rfl (Nat.le_of_ble_eq_true rfl) (Nat.le_of_ble_eq_true rfl) (fun _ => rfl) dL_law_462 (fun u16 hm => ?_)
      refine j_if_icmpeq C 1553 dL_law_465 (by decide) hm (fun hm => ?_) (fun hm => ?_)
      · refine j_sub (L' := [(0, .ref b), (1, .ref (G.1 + 0)), (2, .ref (G.1 + 84)), (3, .int v3)]) [0, 1, 2, 3] rfl ?_
        exact w_Law_loop_1553 C B Z O hm
      · refine j_iconst C 0 dL_law_468 (by decide) ?_
        obtain rfl := Option.some.inj hm
        exact j_lawret C Z O dL_law_469
    rcases if_inv hm with ⟨c93, hm⟩ | ⟨c93, hm⟩
    · refine j_swIn C 8 470 dL_law_33 c93 (by decide) (by decide) rfl (by decide) ?_
      refine j_aload_n C 1 dL_law_470 rfl rfl ?_
      refine j_cV C l_L_51 [] [] (fun u17 => some (.int u17)) (fun _ => h) (fun u17 => [.int u17]) n_0 hm (fun l u hu => c_Race_fault hu) rfl (Nat.le_of_ble_eq_true rfl) rfl (Nat.le_of_ble_eq_true rfl) (Nat.le_of_ble_eq_true rfl) (fun _ => rfl) dL_law_471 (fun u17 hm => ?_)
      refine j_aload_n C 2 dL_law_474 rfl rfl ?_
      refine j_cV C l_L_54 [] [.int u17] (fun u18 => some (.int u18)) (fun _ => h) (fun u18 => [.int u18, .int u17]) n_84 hm (fun l u hu => c_Mod_fault hu) rfl (Nat.le_of_ble_eq_true rfl) rfl (Nat.le_of_ble_eq_true rfl) (Nat.le_of_ble_eq_true rfl) (fun _ => rfl) dL_law_475 (fun u18 hm => ?_)
      refine j_if_icmpeq C 1553 dL_law_478 (by decide) hm (fun hm => ?_) (fun hm => ?_)
      · refine j_sub (L' := [(0, .ref b), (1, .ref (G.1 + 0)), (2, .ref (G.1 + 84)), (3, .int v3)]) [0, 1, 2, 3] rfl ?_
        exact w_Law_loop_1553 C B Z O hm
      · refine j_iconst C 0 dL_law_481 (by decide) ?_
        obtain rfl := Option.some.inj hm
        exact j_lawret C Z O dL_law_482
    rcases if_inv hm with ⟨c94, hm⟩ | ⟨c94, hm⟩
    · refine j_swIn C 9 483 dL_law_33 c94 (by decide) (by decide) rfl (by decide) ?_
      refine j_aload_n C 1 dL_law_483 rfl rfl ?_
      refine j_aload_n C 0 dL_law_484 rfl rfl ?_
      refine j_iload_n C 3 dL_law_485 rfl rfl ?_
      refine j_iconst C 1 dL_law_486 (by decide) ?_
      refine j_iadd C dL_law_487 ?_
      refine j_sld C B hm dL_law_488 (fun hm => ?_)
      refine j_cV C l_L_55 [.int (sx (ix (v3 + ((1 : Int32)))))] [] (fun u19 => some (.int u19.1)) (fun u19 => u19.2) (fun u19 => [.int u19.1]) n_0 hm (fun l u hu => c_Race_force hu) rfl (Nat.le_of_ble_eq_true rfl) rfl (Nat.le_of_ble_eq_true rfl) (Nat.le_of_ble_eq_true rfl) (fun _ => rfl) dL_law_489 (fun u19 hm => ?_)
      refine j_aload_n C 2 dL_law_492 rfl rfl ?_
      refine j_aload_n C 0 dL_law_493 rfl rfl ?_
      refine j_iload_n C 3 dL_law_494 rfl rfl ?_
      refine j_iconst C 1 dL_law_495 (by decide) ?_
      refine j_iadd C dL_law_496 ?_
      refine j_sld C B hm dL_law_497 (fun hm => ?_)
      refine j_cV C l_L_58 [.int (sx (ix (v3 + ((1 : Int32)))))] [.int u19.1] (fun u20 => some (.int u20.1)) (fun u20 => u20.2) (fun u20 => [.int u20.1, .int u19.1]) n_84 hm (fun l u hu => c_Mod_force hu) rfl (Nat.le_of_ble_eq_true rfl) rfl (Nat.le_of_ble_eq_true rfl) (Nat.le_of_ble_eq_true rfl) (fun _ => rfl) dL_law_498 (fun u20 hm => ?_)
      refine j_if_icmpeq C 1553 dL_law_501 (by decide) hm (fun hm => ?_) (fun hm => ?_)
      · refine j_sub (L' := [(0, .ref b), (1, .ref (G.1 + 0)), (2, .ref (G.1 + 84)), (3, .int v3)]) [0, 1, 2, 3] rfl ?_
        exact w_Law_loop_1553 C B Z O hm
      · refine j_iconst C 0 dL_law_504 (by decide) ?_
        obtain rfl := Option.some.inj hm
        exact j_lawret C Z O dL_law_505
    rcases if_inv hm with ⟨c95, hm⟩ | ⟨c95, hm⟩
    · refine j_swIn C 10 506 dL_law_33 c95 (by decide) (by decide) rfl (by decide) ?_
      refine j_aload_n C 1 dL_law_506 rfl rfl ?_
      refine j_aload_n C 0 dL_law_507 rfl rfl ?_
      refine j_iload_n C 3 dL_law_508 rfl rfl ?_
      refine j_iconst C 1 dL_law_509 (by decide) ?_
      refine j_iadd C dL_law_510 ?_
      refine j_sld C B hm dL_law_511 (fun hm => ?_)
      refine j_aload_n C 0 dL_law_512 rfl rfl ?_
      refine j_iload_n C 3 dL_law_513 rfl rfl ?_
      refine j_iconst C 2 dL_law_514 (by decide) ?_
      refine j_iadd C dL_law_515 ?_
      refine j_sld C B hm dL_law_516 (fun hm => ?_)
      refine j_cV C l_L_59 [.int (sx (ix (v3 + ((1 : Int32))))), .int (sx (ix (v3 + ((2 : Int32)))))] [] (fun u21 => some (.int u21.1)) (fun u21 => u21.2) (fun u21 => [.int u21.1]) n_0 hm (fun l u hu => c_Race_level hu) rfl (Nat.le_of_ble_eq_true rfl) rfl (Nat.le_of_ble_eq_true rfl) (Nat.le_of_ble_eq_true rfl) (fun _ => rfl) dL_law_517 (fun u21 hm => ?_)
      refine j_aload_n C 2 dL_law_520 rfl rfl ?_
      refine j_aload_n C 0 dL_law_521 rfl rfl ?_
      refine j_iload_n C 3 dL_law_522 rfl rfl ?_
      refine j_iconst C 1 dL_law_523 (by decide) ?_
      refine j_iadd C dL_law_524 ?_
      refine j_sld C B hm dL_law_525 (fun hm => ?_)
      refine j_aload_n C 0 dL_law_526 rfl rfl ?_
      refine j_iload_n C 3 dL_law_527 rfl rfl ?_
      refine j_iconst C 2 dL_law_528 (by decide) ?_
      refine j_iadd C dL_law_529 ?_
      refine j_sld C B hm dL_law_530 (fun hm => ?_)
      refine j_cV C l_L_62 [.int (sx (ix (v3 + ((1 : Int32))))), .int (sx (ix (v3 + ((2 : Int32)))))] [.int u21.1] (fun u22 => some (.int u22)) (fun _ => u21.2) (fun u22 => [.int u22, .int u21.1]) n_84 hm (fun l u hu => c_Mod_level hu) rfl (Nat.le_of_ble_eq_true rfl) rfl (Nat.le_of_ble_eq_true rfl) (Nat.le_of_ble_eq_true rfl) (fun _ => rfl) dL_law_531 (fun u22 hm => ?_)
      refine j_if_icmpeq C 1553 dL_law_534 (by decide) hm (fun hm => ?_) (fun hm => ?_)
      · refine j_sub (L' := [(0, .ref b), (1, .ref (G.1 + 0)), (2, .ref (G.1 + 84)), (3, .int v3)]) [0, 1, 2, 3] rfl ?_
        exact w_Law_loop_1553 C B Z O hm
      · refine j_iconst C 0 dL_law_537 (by decide) ?_
        obtain rfl := Option.some.inj hm
        exact j_lawret C Z O dL_law_538
    rcases if_inv hm with ⟨c96, hm⟩ | ⟨c96, hm⟩
    · refine j_swIn C 11 539 dL_law_33 c96 (by decide) (by decide) rfl (by decide) ?_
      refine j_aload_n C 1 dL_law_539 rfl rfl ?_
      refine j_aload_n C 0 dL_law_540 rfl rfl ?_
      refine j_iload_n C 3 dL_law_541 rfl rfl ?_
      refine j_iconst C 1 dL_law_542 (by decide) ?_
      refine j_iadd C dL_law_543 ?_
      refine j_sld C B hm dL_law_544 (fun hm => ?_)
      refine j_cV C l_L_63 [.int (sx (ix (v3 + ((1 : Int32)))))] [] (fun u23 => some (.int u23.1)) (fun u23 => u23.2) (fun u23 => [.int u23.1]) n_0 hm (fun l u hu => c_Race_flow hu) rfl (Nat.le_of_ble_eq_true rfl) rfl (Nat.le_of_ble_eq_true rfl) (Nat.le_of_ble_eq_true rfl) (fun _ => rfl) dL_law_545 (fun u23 hm => ?_)
      refine j_aload_n C 2 dL_law_548 rfl rfl ?_
      refine j_aload_n C 0 dL_law_549 rfl rfl ?_
      refine j_iload_n C 3 dL_law_550 rfl rfl ?_
      refine j_iconst C 1 dL_law_551 (by decide) ?_
      refine j_iadd C dL_law_552 ?_
      refine j_sld C B hm dL_law_553 (fun hm => ?_)
      refine j_cV C l_L_66 [.int (sx (ix (v3 + ((1 : Int32)))))] [.int u23.1] (fun u24 => some (.int u24.1)) (fun u24 => u24.2) (fun u24 => [.int u24.1, .int u23.1]) n_84 hm (fun l u hu => c_Mod_flow hu) rfl (Nat.le_of_ble_eq_true rfl) rfl (Nat.le_of_ble_eq_true rfl) (Nat.le_of_ble_eq_true rfl) (fun _ => rfl) dL_law_554 (fun u24 hm => ?_)
      refine j_if_icmpeq C 1553 dL_law_557 (by decide) hm (fun hm => ?_) (fun hm => ?_)
      · refine j_sub (L' := [(0, .ref b), (1, .ref (G.1 + 0)), (2, .ref (G.1 + 84)), (3, .int v3)]) [0, 1, 2, 3] rfl ?_
        exact w_Law_loop_1553 C B Z O hm
      · refine j_iconst C 0 dL_law_560 (by decide) ?_
        obtain rfl := Option.some.inj hm
        exact j_lawret C Z O dL_law_561
    rcases if_inv hm with ⟨c97, hm⟩ | ⟨c97, hm⟩
    · refine j_swIn C 12 562 dL_law_33 c97 (by decide) (by decide) rfl (by decide) ?_
      refine j_aload_n C 1 dL_law_562 rfl rfl ?_
      refine j_aload_n C 0 dL_law_563 rfl rfl ?_
      refine j_iload_n C 3 dL_law_564 rfl rfl ?_
      refine j_iconst C 1 dL_law_565 (by decide) ?_
      refine j_iadd C dL_law_566 ?_
      refine j_sld C B hm dL_law_567 (fun hm => ?_)
      refine j_aload_n C 0 dL_law_568 rfl rfl ?_
      refine j_iload_n C 3 dL_law_569 rfl rfl ?_
      refine j_iconst C 2 dL_law_570 (by decide) ?_
      refine j_iadd C dL_law_571 ?_
      refine j_sld C B hm dL_law_572 (fun hm => ?_)
      refine j_cV C l_L_67 [.int (sx (ix (v3 + ((1 : Int32))))), .int (sx (ix (v3 + ((2 : Int32)))))] [] (fun u25 => some (.int u25.1)) (fun u25 => u25.2) (fun u25 => [.int u25.1]) n_0 hm (fun l u hu => c_Race_kind hu) rfl (Nat.le_of_ble_eq_true rfl) rfl (Nat.le_of_ble_eq_true rfl) (Nat.le_of_ble_eq_true rfl) (fun _ => rfl) dL_law_573 (fun u25 hm => ?_)
      refine j_aload_n C 2 dL_law_576 rfl rfl ?_
      refine j_aload_n C 0 dL_law_577 rfl rfl ?_
      refine j_iload_n C 3 dL_law_578 rfl rfl ?_
      refine j_iconst C 1 dL_law_579 (by decide) ?_
      refine j_iadd C dL_law_580 ?_
      refine j_sld C B hm dL_law_581 (fun hm => ?_)
      refine j_aload_n C 0 dL_law_582 rfl rfl ?_
      refine j_iload_n C 3 dL_law_583 rfl rfl ?_
      refine j_iconst C 2 dL_law_584 (by decide) ?_
      refine j_iadd C dL_law_585 ?_
      refine j_sld C B hm dL_law_586 (fun hm => ?_)
      refine j_cV C l_L_70 [.int (sx (ix (v3 + ((1 : Int32))))), .int (sx (ix (v3 + ((2 : Int32)))))] [.int u25.1] (fun u26 => some (.int u26.1)) (fun u26 => u26.2) (fun u26 => [.int u26.1, .int u25.1]) n_84 hm (fun l u hu => c_Mod_kind hu) rfl (Nat.le_of_ble_eq_true rfl) rfl (Nat.le_of_ble_eq_true rfl) (Nat.le_of_ble_eq_true rfl) (fun _ => rfl) dL_law_587 (fun u26 hm => ?_)
      refine j_if_icmpeq C 1553 dL_law_590 (by decide) hm (fun hm => ?_) (fun hm => ?_)
      · refine j_sub (L' := [(0, .ref b), (1, .ref (G.1 + 0)), (2, .ref (G.1 + 84)), (3, .int v3)]) [0, 1, 2, 3] rfl ?_
        exact w_Law_loop_1553 C B Z O hm
      · refine j_iconst C 0 dL_law_593 (by decide) ?_
        obtain rfl := Option.some.inj hm
        exact j_lawret C Z O dL_law_594
    rcases if_inv hm with ⟨c98, hm⟩ | ⟨c98, hm⟩
    · refine j_swIn C 13 595 dL_law_33 c98 (by decide) (by decide) rfl (by decide) ?_
      refine j_aload_n C 1 dL_law_595 rfl rfl ?_
      refine j_aload_n C 0 dL_law_596 rfl rfl ?_
      refine j_iload_n C 3 dL_law_597 rfl rfl ?_
      refine j_iconst C 1 dL_law_598 (by decide) ?_
      refine j_iadd C dL_law_599 ?_
      refine j_sld C B hm dL_law_600 (fun hm => ?_)
      refine j_aload_n C 0 dL_law_601 rfl rfl ?_
      refine j_iload_n C 3 dL_law_602 rfl rfl ?_
      refine j_iconst C 2 dL_law_603 (by decide) ?_
      refine j_iadd C dL_law_604 ?_
      refine j_sld C B hm dL_law_605 (fun hm => ?_)
      refine j_aload_n C 0 dL_law_606 rfl rfl ?_
      refine j_iload_n C 3 dL_law_607 rfl rfl ?_
      refine j_iconst C 3 dL_law_608 (by decide) ?_
      refine j_iadd C dL_law_609 ?_
      refine j_sld C B hm dL_law_610 (fun hm => ?_)
      refine j_cV C l_L_71 [.int (sx (ix (v3 + ((1 : Int32))))), .int (sx (ix (v3 + ((2 : Int32))))), .int (sx (ix (v3 + ((3 : Int32)))))] [] (fun u27 => some (.int u27.1)) (fun u27 => u27.2) (fun u27 => [.int u27.1]) n_0 hm (fun l u hu => c_Race_cell hu) rfl (Nat.le_of_ble_eq_true rfl) rfl (Nat.le_of_ble_eq_true rfl) (Nat.le_of_ble_eq_true rfl) (fun _ => rfl) dL_law_611 (fun u27 hm => ?_)
      refine j_aload_n C 2 dL_law_614 rfl rfl ?_
      refine j_aload_n C 0 dL_law_615 rfl rfl ?_
      refine j_iload_n C 3 dL_law_616 rfl rfl ?_
      refine j_iconst C 1 dL_law_617 (by decide) ?_
      refine j_iadd C dL_law_618 ?_
      refine j_sld C B hm dL_law_619 (fun hm => ?_)
      refine j_aload_n C 0 dL_law_620 rfl rfl ?_
      refine j_iload_n C 3 dL_law_621 rfl rfl ?_
      refine j_iconst C 2 dL_law_622 (by decide) ?_
      refine j_iadd C dL_law_623 ?_
      refine j_sld C B hm dL_law_624 (fun hm => ?_)
      refine j_aload_n C 0 dL_law_625 rfl rfl ?_
      refine j_iload_n C 3 dL_law_626 rfl rfl ?_
      refine j_iconst C 3 dL_law_627 (by decide) ?_
      refine j_iadd C dL_law_628 ?_
      refine j_sld C B hm dL_law_629 (fun hm => ?_)
      refine j_cV C l_L_74 [.int (sx (ix (v3 + ((1 : Int32))))), .int (sx (ix (v3 + ((2 : Int32))))), .int (sx (ix (v3 + ((3 : Int32)))))] [.int u27.1] (fun u28 => some (.int u28.1)) (fun u28 => u28.2) (fun u28 => [.int u28.1, .int u27.1]) n_84 hm (fun l u hu => c_Mod_cell hu) rfl (Nat.le_of_ble_eq_true rfl) rfl (Nat.le_of_ble_eq_true rfl) (Nat.le_of_ble_eq_true rfl) (fun _ => rfl) dL_law_630 (fun u28 hm => ?_)
      refine j_if_icmpeq C 1553 dL_law_633 (by decide) hm (fun hm => ?_) (fun hm => ?_)
      · refine j_sub (L' := [(0, .ref b), (1, .ref (G.1 + 0)), (2, .ref (G.1 + 84)), (3, .int v3)]) [0, 1, 2, 3] rfl ?_
        exact w_Law_loop_1553 C B Z O hm
      · refine j_iconst C 0 dL_law_636 (by decide) ?_
        obtain rfl := Option.some.inj hm
        exact j_lawret C Z O dL_law_637
    rcases if_inv hm with ⟨c99, hm⟩ | ⟨c99, hm⟩
    · refine j_swIn C 14 638 dL_law_33 c99 (by decide) (by decide) rfl (by decide) ?_
      refine j_aload_n C 1 dL_law_638 rfl rfl ?_
      refine j_aload_n C 0 dL_law_639 rfl rfl ?_
      refine j_iload_n C 3 dL_law_640 rfl rfl ?_
      refine j_iconst C 1 dL_law_641 (by decide) ?_
      refine j_iadd C dL_law_642 ?_
      refine j_sld C B hm dL_law_643 (fun hm => ?_)
      refine j_aload_n C 0 dL_law_644 rfl rfl ?_
      refine j_iload_n C 3 dL_law_645 rfl rfl ?_
      refine j_iconst C 2 dL_law_646 (by decide) ?_
      refine j_iadd C dL_law_647 ?_
      refine j_sld C B hm dL_law_648 (fun hm => ?_)
      refine j_cV C l_L_75 [.int (sx (ix (v3 + ((1 : Int32))))), .int (sx (ix (v3 + ((2 : Int32)))))] [] (fun u29 => some (.int u29.1)) (fun u29 => u29.2) (fun u29 => [.int u29.1]) n_0 hm (fun l u hu => c_Race_slack hu) rfl (Nat.le_of_ble_eq_true rfl) rfl (Nat.le_of_ble_eq_true rfl) (Nat.le_of_ble_eq_true rfl) (fun _ => rfl) dL_law_649 (fun u29 hm => ?_)
      refine j_aload_n C 2 dL_law_652 rfl rfl ?_
      refine j_aload_n C 0 dL_law_653 rfl rfl ?_
      refine j_iload_n C 3 dL_law_654 rfl rfl ?_
      refine j_iconst C 1 dL_law_655 (by decide) ?_
      refine j_iadd C dL_law_656 ?_
      refine j_sld C B hm dL_law_657 (fun hm => ?_)
      refine j_aload_n C 0 dL_law_658 rfl rfl ?_
      refine j_iload_n C 3 dL_law_659 rfl rfl ?_
      refine j_iconst C 2 dL_law_660 (by decide) ?_
      refine j_iadd C dL_law_661 ?_
      refine j_sld C B hm dL_law_662 (fun hm => ?_)
      refine j_cV C l_L_78 [.int (sx (ix (v3 + ((1 : Int32))))), .int (sx (ix (v3 + ((2 : Int32)))))] [.int u29.1] (fun u30 => some (.int u30.1)) (fun u30 => u30.2) (fun u30 => [.int u30.1, .int u29.1]) n_84 hm (fun l u hu => c_Mod_slack hu) rfl (Nat.le_of_ble_eq_true rfl) rfl (Nat.le_of_ble_eq_true rfl) (Nat.le_of_ble_eq_true rfl) (fun _ => rfl) dL_law_663 (fun u30 hm => ?_)
      refine j_if_icmpeq C 1553 dL_law_666 (by decide) hm (fun hm => ?_) (fun hm => ?_)
      · refine j_sub (L' := [(0, .ref b), (1, .ref (G.1 + 0)), (2, .ref (G.1 + 84)), (3, .int v3)]) [0, 1, 2, 3] rfl ?_
        exact w_Law_loop_1553 C B Z O hm
      · refine j_iconst C 0 dL_law_669 (by decide) ?_
        obtain rfl := Option.some.inj hm
        exact j_lawret C Z O dL_law_670
    rcases if_inv hm with ⟨c100, hm⟩ | ⟨c100, hm⟩
    · refine j_swIn C 15 671 dL_law_33 c100 (by decide) (by decide) rfl (by decide) ?_
      refine j_aload_n C 1 dL_law_671 rfl rfl ?_
      refine j_aload_n C 0 dL_law_672 rfl rfl ?_
      refine j_iload_n C 3 dL_law_673 rfl rfl ?_
      refine j_iconst C 1 dL_law_674 (by decide) ?_
      refine j_iadd C dL_law_675 ?_
      refine j_sld C B hm dL_law_676 (fun hm => ?_)
      refine j_cV C l_L_79 [.int (sx (ix (v3 + ((1 : Int32)))))] [] (fun u31 => some (.int u31.1)) (fun u31 => u31.2) (fun u31 => [.int u31.1]) n_0 hm (fun l u hu => c_Race_late hu) rfl (Nat.le_of_ble_eq_true rfl) rfl (Nat.le_of_ble_eq_true rfl) (Nat.le_of_ble_eq_true rfl) (fun _ => rfl) dL_law_677 (fun u31 hm => ?_)
      refine j_aload_n C 2 dL_law_680 rfl rfl ?_
      refine j_aload_n C 0 dL_law_681 rfl rfl ?_
      refine j_iload_n C 3 dL_law_682 rfl rfl ?_
      refine j_iconst C 1 dL_law_683 (by decide) ?_
      refine j_iadd C dL_law_684 ?_
      refine j_sld C B hm dL_law_685 (fun hm => ?_)
      refine j_cV C l_L_82 [.int (sx (ix (v3 + ((1 : Int32)))))] [.int u31.1] (fun u32 => some (.int u32.1)) (fun u32 => u32.2) (fun u32 => [.int u32.1, .int u31.1]) n_84 hm (fun l u hu => c_Mod_late hu) rfl (Nat.le_of_ble_eq_true rfl) rfl (Nat.le_of_ble_eq_true rfl) (Nat.le_of_ble_eq_true rfl) (fun _ => rfl) dL_law_686 (fun u32 hm => ?_)
      refine j_if_icmpeq C 1553 dL_law_689 (by decide) hm (fun hm => ?_) (fun hm => ?_)
      · refine j_sub (L' := [(0, .ref b), (1, .ref (G.1 + 0)), (2, .ref (G.1 + 84)), (3, .int v3)]) [0, 1, 2, 3] rfl ?_
        exact w_Law_loop_1553 C B Z O hm
      · refine j_iconst C 0 dL_law_692 (by decide) ?_
        obtain rfl := Option.some.inj hm
        exact j_lawret C Z O dL_law_693
    rcases if_inv hm with ⟨c101, hm⟩ | ⟨c101, hm⟩
    · refine j_swIn C 16 694 dL_law_33 c101 (by decide) (by decide) rfl (by decide) ?_
      refine j_aload_n C 1 dL_law_694 rfl rfl ?_
      refine j_aload_n C 0 dL_law_695 rfl rfl ?_
      refine j_iload_n C 3 dL_law_696 rfl rfl ?_
      refine j_iconst C 1 dL_law_697 (by decide) ?_
      refine j_iadd C dL_law_698 ?_
      refine j_sld C B hm dL_law_699 (fun hm => ?_)
      refine j_aload_n C 0 dL_law_700 rfl rfl ?_
      refine j_iload_n C 3 dL_law_701 rfl rfl ?_
      refine j_iconst C 2 dL_law_702 (by decide) ?_
      refine j_iadd C dL_law_703 ?_
      refine j_sld C B hm dL_law_704 (fun hm => ?_)
      refine j_cV C l_L_83 [.int (sx (ix (v3 + ((1 : Int32))))), .int (sx (ix (v3 + ((2 : Int32)))))] [] (fun u33 => some (.int u33.1)) (fun u33 => u33.2) (fun u33 => [.int u33.1]) n_0 hm (fun l u hu => c_Race_boat hu) rfl (Nat.le_of_ble_eq_true rfl) rfl (Nat.le_of_ble_eq_true rfl) (Nat.le_of_ble_eq_true rfl) (fun _ => rfl) dL_law_705 (fun u33 hm => ?_)
      refine j_aload_n C 2 dL_law_708 rfl rfl ?_
      refine j_aload_n C 0 dL_law_709 rfl rfl ?_
      refine j_iload_n C 3 dL_law_710 rfl rfl ?_
      refine j_iconst C 1 dL_law_711 (by decide) ?_
      refine j_iadd C dL_law_712 ?_
      refine j_sld C B hm dL_law_713 (fun hm => ?_)
      refine j_aload_n C 0 dL_law_714 rfl rfl ?_
      refine j_iload_n C 3 dL_law_715 rfl rfl ?_
      refine j_iconst C 2 dL_law_716 (by decide) ?_
      refine j_iadd C dL_law_717 ?_
      refine j_sld C B hm dL_law_718 (fun hm => ?_)
      refine j_cV C l_L_86 [.int (sx (ix (v3 + ((1 : Int32))))), .int (sx (ix (v3 + ((2 : Int32)))))] [.int u33.1] (fun u34 => some (.int u34.1)) (fun u34 => u34.2) (fun u34 => [.int u34.1, .int u33.1]) n_84 hm (fun l u hu => c_Mod_boat hu) rfl (Nat.le_of_ble_eq_true rfl) rfl (Nat.le_of_ble_eq_true rfl) (Nat.le_of_ble_eq_true rfl) (fun _ => rfl) dL_law_719 (fun u34 hm => ?_)
      refine j_if_icmpeq C 1553 dL_law_722 (by decide) hm (fun hm => ?_) (fun hm => ?_)
      · refine j_sub (L' := [(0, .ref b), (1, .ref (G.1 + 0)), (2, .ref (G.1 + 84)), (3, .int v3)]) [0, 1, 2, 3] rfl ?_
        exact w_Law_loop_1553 C B Z O hm
      · refine j_iconst C 0 dL_law_725 (by decide) ?_
        obtain rfl := Option.some.inj hm
        exact j_lawret C Z O dL_law_726
    rcases if_inv hm with ⟨c102, hm⟩ | ⟨c102, hm⟩
    · refine j_swIn C 17 727 dL_law_33 c102 (by decide) (by decide) rfl (by decide) ?_
      refine j_aload_n C 1 dL_law_727 rfl rfl ?_
      refine j_aload_n C 0 dL_law_728 rfl rfl ?_
      refine j_iload_n C 3 dL_law_729 rfl rfl ?_
      refine j_iconst C 1 dL_law_730 (by decide) ?_
      refine j_iadd C dL_law_731 ?_
      refine j_sld C B hm dL_law_732 (fun hm => ?_)
      refine j_aload_n C 0 dL_law_733 rfl rfl ?_
      refine j_iload_n C 3 dL_law_734 rfl rfl ?_
      refine j_iconst C 2 dL_law_735 (by decide) ?_
      refine j_iadd C dL_law_736 ?_
      refine j_sld C B hm dL_law_737 (fun hm => ?_)
      refine j_aload_n C 0 dL_law_738 rfl rfl ?_
      refine j_iload_n C 3 dL_law_739 rfl rfl ?_
      refine j_iconst C 3 dL_law_740 (by decide) ?_
      refine j_iadd C dL_law_741 ?_
      refine j_sld C B hm dL_law_742 (fun hm => ?_)
      refine j_aload_n C 0 dL_law_743 rfl rfl ?_
      refine j_iload_n C 3 dL_law_744 rfl rfl ?_
      refine j_iconst C 4 dL_law_745 (by decide) ?_
      refine j_iadd C dL_law_746 ?_
      refine j_sld C B hm dL_law_747 (fun hm => ?_)
      refine j_cV C l_L_87 [.int (sx (ix (v3 + ((1 : Int32))))), .int (sx (ix (v3 + ((2 : Int32))))), .int (sx (ix (v3 + ((3 : Int32))))), .int (sx (ix (v3 + ((4 : Int32)))))] [] (fun u35 => some (.int u35.1)) (fun u35 => u35.2) (fun u35 => [.int u35.1]) n_0 hm (fun l u hu => c_Race_soonest hu) rfl (Nat.le_of_ble_eq_true rfl) rfl (Nat.le_of_ble_eq_true rfl) (Nat.le_of_ble_eq_true rfl) (fun _ => rfl) dL_law_748 (fun u35 hm => ?_)
      refine j_aload_n C 2 dL_law_751 rfl rfl ?_
      refine j_aload_n C 0 dL_law_752 rfl rfl ?_
      refine j_iload_n C 3 dL_law_753 rfl rfl ?_
      refine j_iconst C 1 dL_law_754 (by decide) ?_
      refine j_iadd C dL_law_755 ?_
      refine j_sld C B hm dL_law_756 (fun hm => ?_)
      refine j_aload_n C 0 dL_law_757 rfl rfl ?_
      refine j_iload_n C 3 dL_law_758 rfl rfl ?_
      refine j_iconst C 2 dL_law_759 (by decide) ?_
      refine j_iadd C dL_law_760 ?_
      refine j_sld C B hm dL_law_761 (fun hm => ?_)
      refine j_aload_n C 0 dL_law_762 rfl rfl ?_
      refine j_iload_n C 3 dL_law_763 rfl rfl ?_
      refine j_iconst C 3 dL_law_764 (by decide) ?_
      refine j_iadd C dL_law_765 ?_
      refine j_sld C B hm dL_law_766 (fun hm => ?_)
      refine j_aload_n C 0 dL_law_767 rfl rfl ?_
      refine j_iload_n C 3 dL_law_768 rfl rfl ?_
      refine j_iconst C 4 dL_law_769 (by decide) ?_
      refine j_iadd C dL_law_770 ?_
      refine j_sld C B hm dL_law_771 (fun hm => ?_)
      refine j_cV C l_L_90 [.int (sx (ix (v3 + ((1 : Int32))))), .int (sx (ix (v3 + ((2 : Int32))))), .int (sx (ix (v3 + ((3 : Int32))))), .int (sx (ix (v3 + ((4 : Int32)))))] [.int u35.1] (fun u36 => some (.int u36.1)) (fun u36 => u36.2) (fun u36 => [.int u36.1, .int u35.1]) n_84 hm (fun l u hu => c_Mod_soonest hu) rfl (Nat.le_of_ble_eq_true rfl) rfl (Nat.le_of_ble_eq_true rfl) (Nat.le_of_ble_eq_true rfl) (fun _ => rfl) dL_law_772 (fun u36 hm => ?_)
      refine j_if_icmpeq C 1553 dL_law_775 (by decide) hm (fun hm => ?_) (fun hm => ?_)
      · refine j_sub (L' := [(0, .ref b), (1, .ref (G.1 + 0)), (2, .ref (G.1 + 84)), (3, .int v3)]) [0, 1, 2, 3] rfl ?_
        exact w_Law_loop_1553 C B Z O hm
      · refine j_iconst C 0 dL_law_778 (by decide) ?_
        obtain rfl := Option.some.inj hm
        exact j_lawret C Z O dL_law_779
    rcases if_inv hm with ⟨c103, hm⟩ | ⟨c103, hm⟩
    · refine j_swIn C 18 780 dL_law_33 c103 (by decide) (by decide) rfl (by decide) ?_
      refine j_aload_n C 1 dL_law_780 rfl rfl ?_
      refine j_aload_n C 0 dL_law_781 rfl rfl ?_
      refine j_iload_n C 3 dL_law_782 rfl rfl ?_
      refine j_iconst C 1 dL_law_783 (by decide) ?_
      refine j_iadd C dL_law_784 ?_
      refine j_sld C B hm dL_law_785 (fun hm => ?_)
      refine j_aload_n C 0 dL_law_786 rfl rfl ?_
      refine j_iload_n C 3 dL_law_787 rfl rfl ?_
      refine j_iconst C 2 dL_law_788 (by decide) ?_
      refine j_iadd C dL_law_789 ?_
      refine j_sld C B hm dL_law_790 (fun hm => ?_)
      refine j_aload_n C 0 dL_law_791 rfl rfl ?_
      refine j_iload_n C 3 dL_law_792 rfl rfl ?_
      refine j_iconst C 3 dL_law_793 (by decide) ?_
      refine j_iadd C dL_law_794 ?_
      refine j_sld C B hm dL_law_795 (fun hm => ?_)
      refine j_aload_n C 0 dL_law_796 rfl rfl ?_
      refine j_iload_n C 3 dL_law_797 rfl rfl ?_
      refine j_iconst C 4 dL_law_798 (by decide) ?_
      refine j_iadd C dL_law_799 ?_
      refine j_sld C B hm dL_law_800 (fun hm => ?_)
      refine j_aload_n C 0 dL_law_801 rfl rfl ?_
      refine j_iload_n C 3 dL_law_802 rfl rfl ?_
      refine j_iconst C 5 dL_law_803 (by decide) ?_
      refine j_iadd C dL_law_804 ?_
      refine j_sld C B hm dL_law_805 (fun hm => ?_)
      refine j_cV C l_L_91 [.int (sx (ix (v3 + ((1 : Int32))))), .int (sx (ix (v3 + ((2 : Int32))))), .int (sx (ix (v3 + ((3 : Int32))))), .int (sx (ix (v3 + ((4 : Int32))))), .int (sx (ix (v3 + ((5 : Int32)))))] [] (fun u37 => some (.int u37.1)) (fun u37 => u37.2) (fun u37 => [.int u37.1]) n_0 hm (fun l u hu => c_Race_way hu) rfl (Nat.le_of_ble_eq_true rfl) rfl (Nat.le_of_ble_eq_true rfl) (Nat.le_of_ble_eq_true rfl) (fun _ => rfl) dL_law_806 (fun u37 hm => ?_)
      refine j_aload_n C 2 dL_law_809 rfl rfl ?_
      refine j_aload_n C 0 dL_law_810 rfl rfl ?_
      refine j_iload_n C 3 dL_law_811 rfl rfl ?_
      refine j_iconst C 1 dL_law_812 (by decide) ?_
      refine j_iadd C dL_law_813 ?_
      refine j_sld C B hm dL_law_814 (fun hm => ?_)
      refine j_aload_n C 0 dL_law_815 rfl rfl ?_
      refine j_iload_n C 3 dL_law_816 rfl rfl ?_
      refine j_iconst C 2 dL_law_817 (by decide) ?_
      refine j_iadd C dL_law_818 ?_
      refine j_sld C B hm dL_law_819 (fun hm => ?_)
      refine j_aload_n C 0 dL_law_820 rfl rfl ?_
      refine j_iload_n C 3 dL_law_821 rfl rfl ?_
      refine j_iconst C 3 dL_law_822 (by decide) ?_
      refine j_iadd C dL_law_823 ?_
      refine j_sld C B hm dL_law_824 (fun hm => ?_)
      refine j_aload_n C 0 dL_law_825 rfl rfl ?_
      refine j_iload_n C 3 dL_law_826 rfl rfl ?_
      refine j_iconst C 4 dL_law_827 (by decide) ?_
      refine j_iadd C dL_law_828 ?_
      refine j_sld C B hm dL_law_829 (fun hm => ?_)
      refine j_aload_n C 0 dL_law_830 rfl rfl ?_
      refine j_iload_n C 3 dL_law_831 rfl rfl ?_
      refine j_iconst C 5 dL_law_832 (by decide) ?_
      refine j_iadd C dL_law_833 ?_
      refine j_sld C B hm dL_law_834 (fun hm => ?_)
      refine j_cV C l_L_94 [.int (sx (ix (v3 + ((1 : Int32))))), .int (sx (ix (v3 + ((2 : Int32))))), .int (sx (ix (v3 + ((3 : Int32))))), .int (sx (ix (v3 + ((4 : Int32))))), .int (sx (ix (v3 + ((5 : Int32)))))] [.int u37.1] (fun u38 => some (.int u38.1)) (fun u38 => u38.2) (fun u38 => [.int u38.1, .int u37.1]) n_84 hm (fun l u hu => c_Mod_way hu) rfl (Nat.le_of_ble_eq_true rfl) rfl (Nat.le_of_ble_eq_true rfl) (Nat.le_of_ble_eq_true rfl) (fun _ => rfl) dL_law_835 (fun u38 hm => ?_)
      refine j_if_icmpeq C 1553 dL_law_838 (by decide) hm (fun hm => ?_) (fun hm => ?_)
      · refine j_sub (L' := [(0, .ref b), (1, .ref (G.1 + 0)), (2, .ref (G.1 + 84)), (3, .int v3)]) [0, 1, 2, 3] rfl ?_
        exact w_Law_loop_1553 C B Z O hm
      · refine j_iconst C 0 dL_law_841 (by decide) ?_
        obtain rfl := Option.some.inj hm
        exact j_lawret C Z O dL_law_842
    rcases if_inv hm with ⟨c104, hm⟩ | ⟨c104, hm⟩
    · refine j_swIn C 19 843 dL_law_33 c104 (by decide) (by decide) rfl (by decide) ?_
      refine j_aload_n C 1 dL_law_843 rfl rfl ?_
      refine j_aload_n C 0 dL_law_844 rfl rfl ?_
      refine j_iload_n C 3 dL_law_845 rfl rfl ?_
      refine j_iconst C 1 dL_law_846 (by decide) ?_
      refine j_iadd C dL_law_847 ?_
      refine j_sld C B hm dL_law_848 (fun hm => ?_)
      refine j_aload_n C 0 dL_law_849 rfl rfl ?_
      refine j_iload_n C 3 dL_law_850 rfl rfl ?_
      refine j_iconst C 2 dL_law_851 (by decide) ?_
      refine j_iadd C dL_law_852 ?_
      refine j_sld C B hm dL_law_853 (fun hm => ?_)
      refine j_aload_n C 0 dL_law_854 rfl rfl ?_
      refine j_iload_n C 3 dL_law_855 rfl rfl ?_
      refine j_iconst C 3 dL_law_856 (by decide) ?_
      refine j_iadd C dL_law_857 ?_
      refine j_sld C B hm dL_law_858 (fun hm => ?_)
      refine j_aload_n C 0 dL_law_859 rfl rfl ?_
      refine j_iload_n C 3 dL_law_860 rfl rfl ?_
      refine j_iconst C 4 dL_law_861 (by decide) ?_
      refine j_iadd C dL_law_862 ?_
      refine j_sld C B hm dL_law_863 (fun hm => ?_)
      refine j_cV C l_L_95 [.int (sx (ix (v3 + ((1 : Int32))))), .int (sx (ix (v3 + ((2 : Int32))))), .int (sx (ix (v3 + ((3 : Int32))))), .int (sx (ix (v3 + ((4 : Int32)))))] [] (fun u39 => some (.int u39.1)) (fun u39 => u39.2) (fun u39 => [.int u39.1]) n_0 hm (fun l u hu => c_Race_calmest hu) rfl (Nat.le_of_ble_eq_true rfl) rfl (Nat.le_of_ble_eq_true rfl) (Nat.le_of_ble_eq_true rfl) (fun _ => rfl) dL_law_864 (fun u39 hm => ?_)
      refine j_aload_n C 2 dL_law_867 rfl rfl ?_
      refine j_aload_n C 0 dL_law_868 rfl rfl ?_
      refine j_iload_n C 3 dL_law_869 rfl rfl ?_
      refine j_iconst C 1 dL_law_870 (by decide) ?_
      refine j_iadd C dL_law_871 ?_
      refine j_sld C B hm dL_law_872 (fun hm => ?_)
      refine j_aload_n C 0 dL_law_873 rfl rfl ?_
      refine j_iload_n C 3 dL_law_874 rfl rfl ?_
      refine j_iconst C 2 dL_law_875 (by decide) ?_
      refine j_iadd C dL_law_876 ?_
      refine j_sld C B hm dL_law_877 (fun hm => ?_)
      refine j_aload_n C 0 dL_law_878 rfl rfl ?_
      refine j_iload_n C 3 dL_law_879 rfl rfl ?_
      refine j_iconst C 3 dL_law_880 (by decide) ?_
      refine j_iadd C dL_law_881 ?_
      refine j_sld C B hm dL_law_882 (fun hm => ?_)
      refine j_aload_n C 0 dL_law_883 rfl rfl ?_
      refine j_iload_n C 3 dL_law_884 rfl rfl ?_
      refine j_iconst C 4 dL_law_885 (by decide) ?_
      refine j_iadd C dL_law_886 ?_
      refine j_sld C B hm dL_law_887 (fun hm => ?_)
      refine j_cV C l_L_98 [.int (sx (ix (v3 + ((1 : Int32))))), .int (sx (ix (v3 + ((2 : Int32))))), .int (sx (ix (v3 + ((3 : Int32))))), .int (sx (ix (v3 + ((4 : Int32)))))] [.int u39.1] (fun u40 => some (.int u40.1)) (fun u40 => u40.2) (fun u40 => [.int u40.1, .int u39.1]) n_84 hm (fun l u hu => c_Mod_calmest hu) rfl (Nat.le_of_ble_eq_true rfl) rfl (Nat.le_of_ble_eq_true rfl) (Nat.le_of_ble_eq_true rfl) (fun _ => rfl) dL_law_888 (fun u40 hm => ?_)
      refine j_if_icmpeq C 1553 dL_law_891 (by decide) hm (fun hm => ?_) (fun hm => ?_)
      · refine j_sub (L' := [(0, .ref b), (1, .ref (G.1 + 0)), (2, .ref (G.1 + 84)), (3, .int v3)]) [0, 1, 2, 3] rfl ?_
        exact w_Law_loop_1553 C B Z O hm
      · refine j_iconst C 0 dL_law_894 (by decide) ?_
        obtain rfl := Option.some.inj hm
        exact j_lawret C Z O dL_law_895
    rcases if_inv hm with ⟨c105, hm⟩ | ⟨c105, hm⟩
    · refine j_swIn C 20 896 dL_law_33 c105 (by decide) (by decide) rfl (by decide) ?_
      refine j_aload_n C 1 dL_law_896 rfl rfl ?_
      refine j_aload_n C 0 dL_law_897 rfl rfl ?_
      refine j_iload_n C 3 dL_law_898 rfl rfl ?_
      refine j_iconst C 1 dL_law_899 (by decide) ?_
      refine j_iadd C dL_law_900 ?_
      refine j_sld C B hm dL_law_901 (fun hm => ?_)
      refine j_aload_n C 0 dL_law_902 rfl rfl ?_
      refine j_iload_n C 3 dL_law_903 rfl rfl ?_
      refine j_iconst C 2 dL_law_904 (by decide) ?_
      refine j_iadd C dL_law_905 ?_
      refine j_sld C B hm dL_law_906 (fun hm => ?_)
      refine j_aload_n C 0 dL_law_907 rfl rfl ?_
      refine j_iload_n C 3 dL_law_908 rfl rfl ?_
      refine j_iconst C 3 dL_law_909 (by decide) ?_
      refine j_iadd C dL_law_910 ?_
      refine j_sld C B hm dL_law_911 (fun hm => ?_)
      refine j_aload_n C 0 dL_law_912 rfl rfl ?_
      refine j_iload_n C 3 dL_law_913 rfl rfl ?_
      refine j_iconst C 4 dL_law_914 (by decide) ?_
      refine j_iadd C dL_law_915 ?_
      refine j_sld C B hm dL_law_916 (fun hm => ?_)
      refine j_cV C l_L_99 [.int (sx (ix (v3 + ((1 : Int32))))), .int (sx (ix (v3 + ((2 : Int32))))), .int (sx (ix (v3 + ((3 : Int32))))), .int (sx (ix (v3 + ((4 : Int32)))))] [] (fun u41 => some (.int u41.1)) (fun u41 => u41.2) (fun u41 => [.int u41.1]) n_0 hm (fun l u hu => c_Race_latest hu) rfl (Nat.le_of_ble_eq_true rfl) rfl (Nat.le_of_ble_eq_true rfl) (Nat.le_of_ble_eq_true rfl) (fun _ => rfl) dL_law_917 (fun u41 hm => ?_)
      refine j_aload_n C 2 dL_law_920 rfl rfl ?_
      refine j_aload_n C 0 dL_law_921 rfl rfl ?_
      refine j_iload_n C 3 dL_law_922 rfl rfl ?_
      refine j_iconst C 1 dL_law_923 (by decide) ?_
      refine j_iadd C dL_law_924 ?_
      refine j_sld C B hm dL_law_925 (fun hm => ?_)
      refine j_aload_n C 0 dL_law_926 rfl rfl ?_
      refine j_iload_n C 3 dL_law_927 rfl rfl ?_
      refine j_iconst C 2 dL_law_928 (by decide) ?_
      refine j_iadd C dL_law_929 ?_
      refine j_sld C B hm dL_law_930 (fun hm => ?_)
      refine j_aload_n C 0 dL_law_931 rfl rfl ?_
      refine j_iload_n C 3 dL_law_932 rfl rfl ?_
      refine j_iconst C 3 dL_law_933 (by decide) ?_
      refine j_iadd C dL_law_934 ?_
      refine j_sld C B hm dL_law_935 (fun hm => ?_)
      refine j_aload_n C 0 dL_law_936 rfl rfl ?_
      refine j_iload_n C 3 dL_law_937 rfl rfl ?_
      refine j_iconst C 4 dL_law_938 (by decide) ?_
      refine j_iadd C dL_law_939 ?_
      refine j_sld C B hm dL_law_940 (fun hm => ?_)
      refine j_cV C l_L_102 [.int (sx (ix (v3 + ((1 : Int32))))), .int (sx (ix (v3 + ((2 : Int32))))), .int (sx (ix (v3 + ((3 : Int32))))), .int (sx (ix (v3 + ((4 : Int32)))))] [.int u41.1] (fun u42 => some (.int u42.1)) (fun u42 => u42.2) (fun u42 => [.int u42.1, .int u41.1]) n_84 hm (fun l u hu => c_Mod_latest hu) rfl (Nat.le_of_ble_eq_true rfl) rfl (Nat.le_of_ble_eq_true rfl) (Nat.le_of_ble_eq_true rfl) (fun _ => rfl) dL_law_941 (fun u42 hm => ?_)
      refine j_if_icmpeq C 1553 dL_law_944 (by decide) hm (fun hm => ?_) (fun hm => ?_)
      · refine j_sub (L' := [(0, .ref b), (1, .ref (G.1 + 0)), (2, .ref (G.1 + 84)), (3, .int v3)]) [0, 1, 2, 3] rfl ?_
        exact w_Law_loop_1553 C B Z O hm
      · refine j_iconst C 0 dL_law_947 (by decide) ?_
        obtain rfl := Option.some.inj hm
        exact j_lawret C Z O dL_law_948
    rcases if_inv hm with ⟨c106, hm⟩ | ⟨c106, hm⟩
    · refine j_swIn C 21 949 dL_law_33 c106 (by decide) (by decide) rfl (by decide) ?_
      refine j_aload_n C 1 dL_law_949 rfl rfl ?_
      refine j_aload_n C 0 dL_law_950 rfl rfl ?_
      refine j_iload_n C 3 dL_law_951 rfl rfl ?_
      refine j_iconst C 1 dL_law_952 (by decide) ?_
      refine j_iadd C dL_law_953 ?_
      refine j_sld C B hm dL_law_954 (fun hm => ?_)
      refine j_cV C l_L_103 [.int (sx (ix (v3 + ((1 : Int32)))))] [] (fun u43 => some (.int u43.1)) (fun u43 => u43.2) (fun u43 => [.int u43.1]) n_0 hm (fun l u hu => c_Race_move hu) rfl (Nat.le_of_ble_eq_true rfl) rfl (Nat.le_of_ble_eq_true rfl) (Nat.le_of_ble_eq_true rfl) (fun _ => rfl) dL_law_955 (fun u43 hm => ?_)
      refine j_aload_n C 2 dL_law_958 rfl rfl ?_
      refine j_aload_n C 0 dL_law_959 rfl rfl ?_
      refine j_iload_n C 3 dL_law_960 rfl rfl ?_
      refine j_iconst C 1 dL_law_961 (by decide) ?_
      refine j_iadd C dL_law_962 ?_
      refine j_sld C B hm dL_law_963 (fun hm => ?_)
      refine j_cV C l_L_106 [.int (sx (ix (v3 + ((1 : Int32)))))] [.int u43.1] (fun u44 => some (.int u44.1)) (fun u44 => u44.2) (fun u44 => [.int u44.1, .int u43.1]) n_84 hm (fun l u hu => c_Mod_move hu) rfl (Nat.le_of_ble_eq_true rfl) rfl (Nat.le_of_ble_eq_true rfl) (Nat.le_of_ble_eq_true rfl) (fun _ => rfl) dL_law_964 (fun u44 hm => ?_)
      refine j_if_icmpeq C 1553 dL_law_967 (by decide) hm (fun hm => ?_) (fun hm => ?_)
      · refine j_sub (L' := [(0, .ref b), (1, .ref (G.1 + 0)), (2, .ref (G.1 + 84)), (3, .int v3)]) [0, 1, 2, 3] rfl ?_
        exact w_Law_loop_1553 C B Z O hm
      · refine j_iconst C 0 dL_law_970 (by decide) ?_
        obtain rfl := Option.some.inj hm
        exact j_lawret C Z O dL_law_971
    rcases if_inv hm with ⟨c107, hm⟩ | ⟨c107, hm⟩
    · refine j_swIn C 22 972 dL_law_33 c107 (by decide) (by decide) rfl (by decide) ?_
      refine j_aload_n C 1 dL_law_972 rfl rfl ?_
      refine j_cV C l_L_107 [] [] (fun u45 => some (.int u45.1)) (fun u45 => u45.2) (fun u45 => [.int u45.1]) n_0 hm (fun l u hu => c_Race_tear hu) rfl (Nat.le_of_ble_eq_true rfl) rfl (Nat.le_of_ble_eq_true rfl) (Nat.le_of_ble_eq_true rfl) (fun _ => rfl) dL_law_973 (fun u45 hm => ?_)
      refine j_aload_n C 2 dL_law_976 rfl rfl ?_
      refine j_cV C l_L_110 [] [.int u45.1] (fun u46 => some (.int u46.1)) (fun u46 => u46.2) (fun u46 => [.int u46.1, .int u45.1]) n_84 hm (fun l u hu => c_Mod_tear hu) rfl (Nat.le_of_ble_eq_true rfl) rfl (Nat.le_of_ble_eq_true rfl) (Nat.le_of_ble_eq_true rfl) (fun _ => rfl) dL_law_977 (fun u46 hm => ?_)
      refine j_if_icmpeq C 1553 dL_law_980 (by decide) hm (fun hm => ?_) (fun hm => ?_)
      · refine j_sub (L' := [(0, .ref b), (1, .ref (G.1 + 0)), (2, .ref (G.1 + 84)), (3, .int v3)]) [0, 1, 2, 3] rfl ?_
        exact w_Law_loop_1553 C B Z O hm
      · refine j_iconst C 0 dL_law_983 (by decide) ?_
        obtain rfl := Option.some.inj hm
        exact j_lawret C Z O dL_law_984
    rcases if_inv hm with ⟨c108, hm⟩ | ⟨c108, hm⟩
    · refine j_swIn C 23 985 dL_law_33 c108 (by decide) (by decide) rfl (by decide) ?_
      refine j_aload_n C 1 dL_law_985 rfl rfl ?_
      refine j_aload_n C 0 dL_law_986 rfl rfl ?_
      refine j_iload_n C 3 dL_law_987 rfl rfl ?_
      refine j_iconst C 1 dL_law_988 (by decide) ?_
      refine j_iadd C dL_law_989 ?_
      refine j_sld C B hm dL_law_990 (fun hm => ?_)
      refine j_aload_n C 0 dL_law_991 rfl rfl ?_
      refine j_iload_n C 3 dL_law_992 rfl rfl ?_
      refine j_iconst C 2 dL_law_993 (by decide) ?_
      refine j_iadd C dL_law_994 ?_
      refine j_sld C B hm dL_law_995 (fun hm => ?_)
      refine j_aload_n C 0 dL_law_996 rfl rfl ?_
      refine j_iload_n C 3 dL_law_997 rfl rfl ?_
      refine j_iconst C 3 dL_law_998 (by decide) ?_
      refine j_iadd C dL_law_999 ?_
      refine j_sld C B hm dL_law_1000 (fun hm => ?_)
      refine j_aload_n C 0 dL_law_1001 rfl rfl ?_
      refine j_iload_n C 3 dL_law_1002 rfl rfl ?_
      refine j_iconst C 4 dL_law_1003 (by decide) ?_
      refine j_iadd C dL_law_1004 ?_
      refine j_sld C B hm dL_law_1005 (fun hm => ?_)
      refine j_cV C l_L_111 [.int (sx (ix (v3 + ((1 : Int32))))), .int (sx (ix (v3 + ((2 : Int32))))), .int (sx (ix (v3 + ((3 : Int32))))), .int (sx (ix (v3 + ((4 : Int32)))))] [] (fun u47 => some (.int u47.1)) (fun u47 => u47.2) (fun u47 => [.int u47.1]) n_0 hm (fun l u hu => c_Race_done hu) rfl (Nat.le_of_ble_eq_true rfl) rfl (Nat.le_of_ble_eq_true rfl) (Nat.le_of_ble_eq_true rfl) (fun _ => rfl) dL_law_1006 (fun u47 hm => ?_)
      refine j_aload_n C 2 dL_law_1009 rfl rfl ?_
      refine j_aload_n C 0 dL_law_1010 rfl rfl ?_
      refine j_iload_n C 3 dL_law_1011 rfl rfl ?_
      refine j_iconst C 1 dL_law_1012 (by decide) ?_
      refine j_iadd C dL_law_1013 ?_
      refine j_sld C B hm dL_law_1014 (fun hm => ?_)
      refine j_aload_n C 0 dL_law_1015 rfl rfl ?_
      refine j_iload_n C 3 dL_law_1016 rfl rfl ?_
      refine j_iconst C 2 dL_law_1017 (by decide) ?_
      refine j_iadd C dL_law_1018 ?_
      refine j_sld C B hm dL_law_1019 (fun hm => ?_)
      refine j_aload_n C 0 dL_law_1020 rfl rfl ?_
      refine j_iload_n C 3 dL_law_1021 rfl rfl ?_
      refine j_iconst C 3 dL_law_1022 (by decide) ?_
      refine j_iadd C dL_law_1023 ?_
      refine j_sld C B hm dL_law_1024 (fun hm => ?_)
      refine j_aload_n C 0 dL_law_1025 rfl rfl ?_
      refine j_iload_n C 3 dL_law_1026 rfl rfl ?_
      refine j_iconst C 4 dL_law_1027 (by decide) ?_
      refine j_iadd C dL_law_1028 ?_
      refine j_sld C B hm dL_law_1029 (fun hm => ?_)
      refine j_cV C l_L_114 [.int (sx (ix (v3 + ((1 : Int32))))), .int (sx (ix (v3 + ((2 : Int32))))), .int (sx (ix (v3 + ((3 : Int32))))), .int (sx (ix (v3 + ((4 : Int32)))))] [.int u47.1] (fun u48 => some (.int u48.1)) (fun u48 => u48.2) (fun u48 => [.int u48.1, .int u47.1]) n_84 hm (fun l u hu => c_Mod_done hu) rfl (Nat.le_of_ble_eq_true rfl) rfl (Nat.le_of_ble_eq_true rfl) (Nat.le_of_ble_eq_true rfl) (fun _ => rfl) dL_law_1030 (fun u48 hm => ?_)
      refine j_if_icmpeq C 1553 dL_law_1033 (by decide) hm (fun hm => ?_) (fun hm => ?_)
      · refine j_sub (L' := [(0, .ref b), (1, .ref (G.1 + 0)), (2, .ref (G.1 + 84)), (3, .int v3)]) [0, 1, 2, 3] rfl ?_
        exact w_Law_loop_1553 C B Z O hm
      · refine j_iconst C 0 dL_law_1036 (by decide) ?_
        obtain rfl := Option.some.inj hm
        exact j_lawret C Z O dL_law_1037
    rcases if_inv hm with ⟨c109, hm⟩ | ⟨c109, hm⟩
    · refine j_swIn C 24 1038 dL_law_33 c109 (by decide) (by decide) rfl (by decide) ?_
      refine j_aload_n C 1 dL_law_1038 rfl rfl ?_
      refine j_aload_n C 0 dL_law_1039 rfl rfl ?_
      refine j_iload_n C 3 dL_law_1040 rfl rfl ?_
      refine j_iconst C 1 dL_law_1041 (by decide) ?_
      refine j_iadd C dL_law_1042 ?_
      refine j_sld C B hm dL_law_1043 (fun hm => ?_)
      refine j_aload_n C 0 dL_law_1044 rfl rfl ?_
      refine j_iload_n C 3 dL_law_1045 rfl rfl ?_
      refine j_iconst C 2 dL_law_1046 (by decide) ?_
      refine j_iadd C dL_law_1047 ?_
      refine j_sld C B hm dL_law_1048 (fun hm => ?_)
      refine j_aload_n C 0 dL_law_1049 rfl rfl ?_
      refine j_iload_n C 3 dL_law_1050 rfl rfl ?_
      refine j_iconst C 3 dL_law_1051 (by decide) ?_
      refine j_iadd C dL_law_1052 ?_
      refine j_sld C B hm dL_law_1053 (fun hm => ?_)
      refine j_cV C l_L_115 [.int (sx (ix (v3 + ((1 : Int32))))), .int (sx (ix (v3 + ((2 : Int32))))), .int (sx (ix (v3 + ((3 : Int32)))))] [] (fun u49 => some (.int u49.1)) (fun u49 => u49.2) (fun u49 => [.int u49.1]) n_0 hm (fun l u hu => c_Race_margin hu) rfl (Nat.le_of_ble_eq_true rfl) rfl (Nat.le_of_ble_eq_true rfl) (Nat.le_of_ble_eq_true rfl) (fun _ => rfl) dL_law_1054 (fun u49 hm => ?_)
      refine j_aload_n C 2 dL_law_1057 rfl rfl ?_
      refine j_aload_n C 0 dL_law_1058 rfl rfl ?_
      refine j_iload_n C 3 dL_law_1059 rfl rfl ?_
      refine j_iconst C 1 dL_law_1060 (by decide) ?_
      refine j_iadd C dL_law_1061 ?_
      refine j_sld C B hm dL_law_1062 (fun hm => ?_)
      refine j_aload_n C 0 dL_law_1063 rfl rfl ?_
      refine j_iload_n C 3 dL_law_1064 rfl rfl ?_
      refine j_iconst C 2 dL_law_1065 (by decide) ?_
      refine j_iadd C dL_law_1066 ?_
      refine j_sld C B hm dL_law_1067 (fun hm => ?_)
      refine j_aload_n C 0 dL_law_1068 rfl rfl ?_
      refine j_iload_n C 3 dL_law_1069 rfl rfl ?_
      refine j_iconst C 3 dL_law_1070 (by decide) ?_
      refine j_iadd C dL_law_1071 ?_
      refine j_sld C B hm dL_law_1072 (fun hm => ?_)
      refine j_cV C l_L_118 [.int (sx (ix (v3 + ((1 : Int32))))), .int (sx (ix (v3 + ((2 : Int32))))), .int (sx (ix (v3 + ((3 : Int32)))))] [.int u49.1] (fun u50 => some (.int u50.1)) (fun u50 => u50.2) (fun u50 => [.int u50.1, .int u49.1]) n_84 hm (fun l u hu => c_Mod_margin hu) rfl (Nat.le_of_ble_eq_true rfl) rfl (Nat.le_of_ble_eq_true rfl) (Nat.le_of_ble_eq_true rfl) (fun _ => rfl) dL_law_1073 (fun u50 hm => ?_)
      refine j_if_icmpeq C 1553 dL_law_1076 (by decide) hm (fun hm => ?_) (fun hm => ?_)
      · refine j_sub (L' := [(0, .ref b), (1, .ref (G.1 + 0)), (2, .ref (G.1 + 84)), (3, .int v3)]) [0, 1, 2, 3] rfl ?_
        exact w_Law_loop_1553 C B Z O hm
      · refine j_iconst C 0 dL_law_1079 (by decide) ?_
        obtain rfl := Option.some.inj hm
        exact j_lawret C Z O dL_law_1080
    rcases if_inv hm with ⟨c110, hm⟩ | ⟨c110, hm⟩
    · refine j_swIn C 25 1081 dL_law_33 c110 (by decide) (by decide) rfl (by decide) ?_
      refine j_aload_n C 1 dL_law_1081 rfl rfl ?_
      refine j_aload_n C 0 dL_law_1082 rfl rfl ?_
      refine j_iload_n C 3 dL_law_1083 rfl rfl ?_
      refine j_iconst C 1 dL_law_1084 (by decide) ?_
      refine j_iadd C dL_law_1085 ?_
      refine j_sld C B hm dL_law_1086 (fun hm => ?_)
      refine j_aload_n C 0 dL_law_1087 rfl rfl ?_
      refine j_iload_n C 3 dL_law_1088 rfl rfl ?_
      refine j_iconst C 2 dL_law_1089 (by decide) ?_
      refine j_iadd C dL_law_1090 ?_
      refine j_sld C B hm dL_law_1091 (fun hm => ?_)
      refine j_aload_n C 0 dL_law_1092 rfl rfl ?_
      refine j_iload_n C 3 dL_law_1093 rfl rfl ?_
      refine j_iconst C 3 dL_law_1094 (by decide) ?_
      refine j_iadd C dL_law_1095 ?_
      refine j_sld C B hm dL_law_1096 (fun hm => ?_)
      refine j_cV C l_L_119 [.int (sx (ix (v3 + ((1 : Int32))))), .int (sx (ix (v3 + ((2 : Int32))))), .int (sx (ix (v3 + ((3 : Int32)))))] [] (fun u51 => some (.int u51.1)) (fun u51 => u51.2) (fun u51 => [.int u51.1]) n_0 hm (fun l u hu => c_Race_ship hu) rfl (Nat.le_of_ble_eq_true rfl) rfl (Nat.le_of_ble_eq_true rfl) (Nat.le_of_ble_eq_true rfl) (fun _ => rfl) dL_law_1097 (fun u51 hm => ?_)
      refine j_aload_n C 2 dL_law_1100 rfl rfl ?_
      refine j_aload_n C 0 dL_law_1101 rfl rfl ?_
      refine j_iload_n C 3 dL_law_1102 rfl rfl ?_
      refine j_iconst C 1 dL_law_1103 (by decide) ?_
      refine j_iadd C dL_law_1104 ?_
      refine j_sld C B hm dL_law_1105 (fun hm => ?_)
      refine j_aload_n C 0 dL_law_1106 rfl rfl ?_
      refine j_iload_n C 3 dL_law_1107 rfl rfl ?_
      refine j_iconst C 2 dL_law_1108 (by decide) ?_
      refine j_iadd C dL_law_1109 ?_
      refine j_sld C B hm dL_law_1110 (fun hm => ?_)
      refine j_aload_n C 0 dL_law_1111 rfl rfl ?_
      refine j_iload_n C 3 dL_law_1112 rfl rfl ?_
      refine j_iconst C 3 dL_law_1113 (by decide) ?_
      refine j_iadd C dL_law_1114 ?_
      refine j_sld C B hm dL_law_1115 (fun hm => ?_)
      refine j_cV C l_L_122 [.int (sx (ix (v3 + ((1 : Int32))))), .int (sx (ix (v3 + ((2 : Int32))))), .int (sx (ix (v3 + ((3 : Int32)))))] [.int u51.1] (fun u52 => some (.int u52.1)) (fun u52 => u52.2) (fun u52 => [.int u52.1, .int u51.1]) n_84 hm (fun l u hu => c_Mod_ship hu) rfl (Nat.le_of_ble_eq_true rfl) rfl (Nat.le_of_ble_eq_true rfl) (Nat.le_of_ble_eq_true rfl) (fun _ => rfl) dL_law_1116 (fun u52 hm => ?_)
      refine j_if_icmpeq C 1553 dL_law_1119 (by decide) hm (fun hm => ?_) (fun hm => ?_)
      · refine j_sub (L' := [(0, .ref b), (1, .ref (G.1 + 0)), (2, .ref (G.1 + 84)), (3, .int v3)]) [0, 1, 2, 3] rfl ?_
        exact w_Law_loop_1553 C B Z O hm
      · refine j_iconst C 0 dL_law_1122 (by decide) ?_
        obtain rfl := Option.some.inj hm
        exact j_lawret C Z O dL_law_1123
    rcases if_inv hm with ⟨c111, hm⟩ | ⟨c111, hm⟩
    · refine j_swIn C 26 1124 dL_law_33 c111 (by decide) (by decide) rfl (by decide) ?_
      refine j_aload_n C 1 dL_law_1124 rfl rfl ?_
      refine j_aload_n C 0 dL_law_1125 rfl rfl ?_
      refine j_iload_n C 3 dL_law_1126 rfl rfl ?_
      refine j_iconst C 1 dL_law_1127 (by decide) ?_
      refine j_iadd C dL_law_1128 ?_
      refine j_sld C B hm dL_law_1129 (fun hm => ?_)
      refine j_cV C l_L_123 [.int (sx (ix (v3 + ((1 : Int32)))))] [] (fun u53 => some (.int u53.1)) (fun u53 => u53.2) (fun u53 => [.int u53.1]) n_0 hm (fun l u hu => c_Race_order hu) rfl (Nat.le_of_ble_eq_true rfl) rfl (Nat.le_of_ble_eq_true rfl) (Nat.le_of_ble_eq_true rfl) (fun _ => rfl) dL_law_1130 (fun u53 hm => ?_)
      refine j_aload_n C 2 dL_law_1133 rfl rfl ?_
      refine j_aload_n C 0 dL_law_1134 rfl rfl ?_
      refine j_iload_n C 3 dL_law_1135 rfl rfl ?_
      refine j_iconst C 1 dL_law_1136 (by decide) ?_
      refine j_iadd C dL_law_1137 ?_
      refine j_sld C B hm dL_law_1138 (fun hm => ?_)
      refine j_cV C l_L_126 [.int (sx (ix (v3 + ((1 : Int32)))))] [.int u53.1] (fun u54 => some (.int u54.1)) (fun u54 => u54.2) (fun u54 => [.int u54.1, .int u53.1]) n_84 hm (fun l u hu => c_Mod_order hu) rfl (Nat.le_of_ble_eq_true rfl) rfl (Nat.le_of_ble_eq_true rfl) (Nat.le_of_ble_eq_true rfl) (fun _ => rfl) dL_law_1139 (fun u54 hm => ?_)
      refine j_if_icmpeq C 1553 dL_law_1142 (by decide) hm (fun hm => ?_) (fun hm => ?_)
      · refine j_sub (L' := [(0, .ref b), (1, .ref (G.1 + 0)), (2, .ref (G.1 + 84)), (3, .int v3)]) [0, 1, 2, 3] rfl ?_
        exact w_Law_loop_1553 C B Z O hm
      · refine j_iconst C 0 dL_law_1145 (by decide) ?_
        obtain rfl := Option.some.inj hm
        exact j_lawret C Z O dL_law_1146
    rcases if_inv hm with ⟨c112, hm⟩ | ⟨c112, hm⟩
    · refine j_swIn C 27 1147 dL_law_33 c112 (by decide) (by decide) rfl (by decide) ?_
      refine j_aload_n C 1 dL_law_1147 rfl rfl ?_
      refine j_aload_n C 0 dL_law_1148 rfl rfl ?_
      refine j_iload_n C 3 dL_law_1149 rfl rfl ?_
      refine j_iconst C 1 dL_law_1150 (by decide) ?_
      refine j_iadd C dL_law_1151 ?_
      refine j_sld C B hm dL_law_1152 (fun hm => ?_)
      refine j_cV C l_L_127 [.int (sx (ix (v3 + ((1 : Int32)))))] [] (fun u55 => some (.int u55.1)) (fun u55 => u55.2) (fun u55 => [.int u55.1]) n_0 hm (fun l u hu => c_Race_begins hu) rfl (Nat.le_of_ble_eq_true rfl) rfl (Nat.le_of_ble_eq_true rfl) (Nat.le_of_ble_eq_true rfl) (fun _ => rfl) dL_law_1153 (fun u55 hm => ?_)
      refine j_aload_n C 2 dL_law_1156 rfl rfl ?_
      refine j_aload_n C 0 dL_law_1157 rfl rfl ?_
      refine j_iload_n C 3 dL_law_1158 rfl rfl ?_
      refine j_iconst C 1 dL_law_1159 (by decide) ?_
      refine j_iadd C dL_law_1160 ?_
      refine j_sld C B hm dL_law_1161 (fun hm => ?_)
      refine j_cV C l_L_130 [.int (sx (ix (v3 + ((1 : Int32)))))] [.int u55.1] (fun u56 => some (.int u56.1)) (fun u56 => u56.2) (fun u56 => [.int u56.1, .int u55.1]) n_84 hm (fun l u hu => c_Mod_begins hu) rfl (Nat.le_of_ble_eq_true rfl) rfl (Nat.le_of_ble_eq_true rfl) (Nat.le_of_ble_eq_true rfl) (fun _ => rfl) dL_law_1162 (fun u56 hm => ?_)
      refine j_if_icmpeq C 1553 dL_law_1165 (by decide) hm (fun hm => ?_) (fun hm => ?_)
      · refine j_sub (L' := [(0, .ref b), (1, .ref (G.1 + 0)), (2, .ref (G.1 + 84)), (3, .int v3)]) [0, 1, 2, 3] rfl ?_
        exact w_Law_loop_1553 C B Z O hm
      · refine j_iconst C 0 dL_law_1168 (by decide) ?_
        obtain rfl := Option.some.inj hm
        exact j_lawret C Z O dL_law_1169
    rcases if_inv hm with ⟨c113, hm⟩ | ⟨c113, hm⟩
    · refine j_swIn C 28 1170 dL_law_33 c113 (by decide) (by decide) rfl (by decide) ?_
      refine j_aload_n C 1 dL_law_1170 rfl rfl ?_
      refine j_aload_n C 0 dL_law_1171 rfl rfl ?_
      refine j_iload_n C 3 dL_law_1172 rfl rfl ?_
      refine j_iconst C 1 dL_law_1173 (by decide) ?_
      refine j_iadd C dL_law_1174 ?_
      refine j_sld C B hm dL_law_1175 (fun hm => ?_)
      refine j_cV C l_L_131 [.int (sx (ix (v3 + ((1 : Int32)))))] [] (fun u57 => some (.long u57.1)) (fun u57 => u57.2) (fun u57 => [.long u57.1]) n_0 hm (fun l u hu => c_Race_taken hu) rfl (Nat.le_of_ble_eq_true rfl) rfl (Nat.le_of_ble_eq_true rfl) (Nat.le_of_ble_eq_true rfl) (fun _ => rfl) dL_law_1176 (fun u57 hm => ?_)
      refine j_aload_n C 2 dL_law_1179 rfl rfl ?_
      refine j_aload_n C 0 dL_law_1180 rfl rfl ?_
      refine j_iload_n C 3 dL_law_1181 rfl rfl ?_
      refine j_iconst C 1 dL_law_1182 (by decide) ?_
      refine j_iadd C dL_law_1183 ?_
      refine j_sld C B hm dL_law_1184 (fun hm => ?_)
      refine j_cV C l_L_135 [.int (sx (ix (v3 + ((1 : Int32)))))] [.long u57.1] (fun u58 => some (.long u58.1)) (fun u58 => u58.2) (fun u58 => [.long u58.1, .long u57.1]) n_84 hm (fun l u hu => c_Mod_taken hu) rfl (Nat.le_of_ble_eq_true rfl) rfl (Nat.le_of_ble_eq_true rfl) (Nat.le_of_ble_eq_true rfl) (fun _ => rfl) dL_law_1185 (fun u58 hm => ?_)
      refine j_lcmp C dL_law_1188 ?_
      refine j_ifeq C 1553 dL_law_1189 (by decide) hm (fun hm => ?_) (fun hm => ?_)
      · refine j_sub (L' := [(0, .ref b), (1, .ref (G.1 + 0)), (2, .ref (G.1 + 84)), (3, .int v3)]) [0, 1, 2, 3] rfl ?_
        exact w_Law_loop_1553 C B Z O hm
      · refine j_iconst C 0 dL_law_1192 (by decide) ?_
        obtain rfl := Option.some.inj hm
        exact j_lawret C Z O dL_law_1193
    rcases if_inv hm with ⟨c114, hm⟩ | ⟨c114, hm⟩
    · refine j_swIn C 29 1194 dL_law_33 c114 (by decide) (by decide) rfl (by decide) ?_
      refine j_aload_n C 1 dL_law_1194 rfl rfl ?_
      refine j_aload_n C 0 dL_law_1195 rfl rfl ?_
      refine j_iload_n C 3 dL_law_1196 rfl rfl ?_
      refine j_iconst C 1 dL_law_1197 (by decide) ?_
      refine j_iadd C dL_law_1198 ?_
      refine j_sld C B hm dL_law_1199 (fun hm => ?_)
      refine j_aload_n C 0 dL_law_1200 rfl rfl ?_
      refine j_iload_n C 3 dL_law_1201 rfl rfl ?_
      refine j_iconst C 2 dL_law_1202 (by decide) ?_
      refine j_iadd C dL_law_1203 ?_
      refine j_sld C B hm dL_law_1204 (fun hm => ?_)
      refine j_cV C l_L_136 [.int (sx (ix (v3 + ((1 : Int32))))), .int (sx (ix (v3 + ((2 : Int32)))))] [] (fun u59 => some (.int u59.1)) (fun u59 => u59.2) (fun u59 => [.int u59.1]) n_0 hm (fun l u hu => c_Race_most hu) rfl (Nat.le_of_ble_eq_true rfl) rfl (Nat.le_of_ble_eq_true rfl) (Nat.le_of_ble_eq_true rfl) (fun _ => rfl) dL_law_1205 (fun u59 hm => ?_)
      refine j_aload_n C 2 dL_law_1208 rfl rfl ?_
      refine j_aload_n C 0 dL_law_1209 rfl rfl ?_
      refine j_iload_n C 3 dL_law_1210 rfl rfl ?_
      refine j_iconst C 1 dL_law_1211 (by decide) ?_
      refine j_iadd C dL_law_1212 ?_
      refine j_sld C B hm dL_law_1213 (fun hm => ?_)
      refine j_aload_n C 0 dL_law_1214 rfl rfl ?_
      refine j_iload_n C 3 dL_law_1215 rfl rfl ?_
      refine j_iconst C 2 dL_law_1216 (by decide) ?_
      refine j_iadd C dL_law_1217 ?_
      refine j_sld C B hm dL_law_1218 (fun hm => ?_)
      refine j_cV C l_L_139 [.int (sx (ix (v3 + ((1 : Int32))))), .int (sx (ix (v3 + ((2 : Int32)))))] [.int u59.1] (fun u60 => some (.int u60.1)) (fun u60 => u60.2) (fun u60 => [.int u60.1, .int u59.1]) n_84 hm (fun l u hu => c_Mod_most hu) rfl (Nat.le_of_ble_eq_true rfl) rfl (Nat.le_of_ble_eq_true rfl) (Nat.le_of_ble_eq_true rfl) (fun _ => rfl) dL_law_1219 (fun u60 hm => ?_)
      refine j_if_icmpeq C 1553 dL_law_1222 (by decide) hm (fun hm => ?_) (fun hm => ?_)
      · refine j_sub (L' := [(0, .ref b), (1, .ref (G.1 + 0)), (2, .ref (G.1 + 84)), (3, .int v3)]) [0, 1, 2, 3] rfl ?_
        exact w_Law_loop_1553 C B Z O hm
      · refine j_iconst C 0 dL_law_1225 (by decide) ?_
        obtain rfl := Option.some.inj hm
        exact j_lawret C Z O dL_law_1226
    rcases if_inv hm with ⟨c115, hm⟩ | ⟨c115, hm⟩
    · refine j_swIn C 30 1227 dL_law_33 c115 (by decide) (by decide) rfl (by decide) ?_
      refine j_aload_n C 1 dL_law_1227 rfl rfl ?_
      refine j_aload_n C 0 dL_law_1228 rfl rfl ?_
      refine j_iload_n C 3 dL_law_1229 rfl rfl ?_
      refine j_iconst C 1 dL_law_1230 (by decide) ?_
      refine j_iadd C dL_law_1231 ?_
      refine j_sld C B hm dL_law_1232 (fun hm => ?_)
      refine j_aload_n C 0 dL_law_1233 rfl rfl ?_
      refine j_iload_n C 3 dL_law_1234 rfl rfl ?_
      refine j_iconst C 2 dL_law_1235 (by decide) ?_
      refine j_iadd C dL_law_1236 ?_
      refine j_sld C B hm dL_law_1237 (fun hm => ?_)
      refine j_cV C l_L_140 [.int (sx (ix (v3 + ((1 : Int32))))), .int (sx (ix (v3 + ((2 : Int32)))))] [] (fun u61 => some (.int u61.1)) (fun u61 => u61.2) (fun u61 => [.int u61.1]) n_0 hm (fun l u hu => c_Race_cast hu) rfl (Nat.le_of_ble_eq_true rfl) rfl (Nat.le_of_ble_eq_true rfl) (Nat.le_of_ble_eq_true rfl) (fun _ => rfl) dL_law_1238 (fun u61 hm => ?_)
      refine j_aload_n C 2 dL_law_1241 rfl rfl ?_
      refine j_aload_n C 0 dL_law_1242 rfl rfl ?_
      refine j_iload_n C 3 dL_law_1243 rfl rfl ?_
      refine j_iconst C 1 dL_law_1244 (by decide) ?_
      refine j_iadd C dL_law_1245 ?_
      refine j_sld C B hm dL_law_1246 (fun hm => ?_)
      refine j_aload_n C 0 dL_law_1247 rfl rfl ?_
      refine j_iload_n C 3 dL_law_1248 rfl rfl ?_
      refine j_iconst C 2 dL_law_1249 (by decide) ?_
      refine j_iadd C dL_law_1250 ?_
      refine j_sld C B hm dL_law_1251 (fun hm => ?_)
      refine j_cV C l_L_143 [.int (sx (ix (v3 + ((1 : Int32))))), .int (sx (ix (v3 + ((2 : Int32)))))] [.int u61.1] (fun u62 => some (.int u62.1)) (fun u62 => u62.2) (fun u62 => [.int u62.1, .int u61.1]) n_84 hm (fun l u hu => c_Mod_cast hu) rfl (Nat.le_of_ble_eq_true rfl) rfl (Nat.le_of_ble_eq_true rfl) (Nat.le_of_ble_eq_true rfl) (fun _ => rfl) dL_law_1252 (fun u62 hm => ?_)
      refine j_if_icmpeq C 1553 dL_law_1255 (by decide) hm (fun hm => ?_) (fun hm => ?_)
      · refine j_sub (L' := [(0, .ref b), (1, .ref (G.1 + 0)), (2, .ref (G.1 + 84)), (3, .int v3)]) [0, 1, 2, 3] rfl ?_
        exact w_Law_loop_1553 C B Z O hm
      · refine j_iconst C 0 dL_law_1258 (by decide) ?_
        obtain rfl := Option.some.inj hm
        exact j_lawret C Z O dL_law_1259
    rcases if_inv hm with ⟨c116, hm⟩ | ⟨c116, hm⟩
    · refine j_swIn C 31 1260 dL_law_33 c116 (by decide) (by decide) rfl (by decide) ?_
      refine j_aload_n C 1 dL_law_1260 rfl rfl ?_
      refine j_aload_n C 0 dL_law_1261 rfl rfl ?_
      refine j_iload_n C 3 dL_law_1262 rfl rfl ?_
      refine j_iconst C 1 dL_law_1263 (by decide) ?_
      refine j_iadd C dL_law_1264 ?_
      refine j_sld C B hm dL_law_1265 (fun hm => ?_)
      refine j_aload_n C 0 dL_law_1266 rfl rfl ?_
      refine j_iload_n C 3 dL_law_1267 rfl rfl ?_
      refine j_iconst C 2 dL_law_1268 (by decide) ?_
      refine j_iadd C dL_law_1269 ?_
      refine j_sld C B hm dL_law_1270 (fun hm => ?_)
      refine j_cV C l_L_144 [.int (sx (ix (v3 + ((1 : Int32))))), .int (sx (ix (v3 + ((2 : Int32)))))] [] (fun u63 => some (.int u63.1)) (fun u63 => u63.2) (fun u63 => [.int u63.1]) n_0 hm (fun l u hu => c_Race_agree hu) rfl (Nat.le_of_ble_eq_true rfl) rfl (Nat.le_of_ble_eq_true rfl) (Nat.le_of_ble_eq_true rfl) (fun _ => rfl) dL_law_1271 (fun u63 hm => ?_)
      refine j_aload_n C 2 dL_law_1274 rfl rfl ?_
      refine j_aload_n C 0 dL_law_1275 rfl rfl ?_
      refine j_iload_n C 3 dL_law_1276 rfl rfl ?_
      refine j_iconst C 1 dL_law_1277 (by decide) ?_
      refine j_iadd C dL_law_1278 ?_
      refine j_sld C B hm dL_law_1279 (fun hm => ?_)
      refine j_aload_n C 0 dL_law_1280 rfl rfl ?_
      refine j_iload_n C 3 dL_law_1281 rfl rfl ?_
      refine j_iconst C 2 dL_law_1282 (by decide) ?_
      refine j_iadd C dL_law_1283 ?_
      refine j_sld C B hm dL_law_1284 (fun hm => ?_)
      refine j_cV C l_L_147 [.int (sx (ix (v3 + ((1 : Int32))))), .int (sx (ix (v3 + ((2 : Int32)))))] [.int u63.1] (fun u64 => some (.int u64.1)) (fun u64 => u64.2) (fun u64 => [.int u64.1, .int u63.1]) n_84 hm (fun l u hu => c_Mod_agree hu) rfl (Nat.le_of_ble_eq_true rfl) rfl (Nat.le_of_ble_eq_true rfl) (Nat.le_of_ble_eq_true rfl) (fun _ => rfl) dL_law_1285 (fun u64 hm => ?_)
      refine j_if_icmpeq C 1553 dL_law_1288 (by decide) hm (fun hm => ?_) (fun hm => ?_)
      · refine j_sub (L' := [(0, .ref b), (1, .ref (G.1 + 0)), (2, .ref (G.1 + 84)), (3, .int v3)]) [0, 1, 2, 3] rfl ?_
        exact w_Law_loop_1553 C B Z O hm
      · refine j_iconst C 0 dL_law_1291 (by decide) ?_
        obtain rfl := Option.some.inj hm
        exact j_lawret C Z O dL_law_1292
    rcases if_inv hm with ⟨c117, hm⟩ | ⟨c117, hm⟩
    · refine j_swIn C 32 1293 dL_law_33 c117 (by decide) (by decide) rfl (by decide) ?_
      refine j_aload_n C 1 dL_law_1293 rfl rfl ?_
      refine j_aload_n C 0 dL_law_1294 rfl rfl ?_
      refine j_iload_n C 3 dL_law_1295 rfl rfl ?_
      refine j_iconst C 1 dL_law_1296 (by decide) ?_
      refine j_iadd C dL_law_1297 ?_
      refine j_sld C B hm dL_law_1298 (fun hm => ?_)
      refine j_cV C l_L_148 [.int (sx (ix (v3 + ((1 : Int32)))))] [] (fun u65 => some (.int u65.1)) (fun u65 => u65.2) (fun u65 => [.int u65.1]) n_0 hm (fun l u hu => c_Race_tells hu) rfl (Nat.le_of_ble_eq_true rfl) rfl (Nat.le_of_ble_eq_true rfl) (Nat.le_of_ble_eq_true rfl) (fun _ => rfl) dL_law_1299 (fun u65 hm => ?_)
      refine j_aload_n C 2 dL_law_1302 rfl rfl ?_
      refine j_aload_n C 0 dL_law_1303 rfl rfl ?_
      refine j_iload_n C 3 dL_law_1304 rfl rfl ?_
      refine j_iconst C 1 dL_law_1305 (by decide) ?_
      refine j_iadd C dL_law_1306 ?_
      refine j_sld C B hm dL_law_1307 (fun hm => ?_)
      refine j_cV C l_L_151 [.int (sx (ix (v3 + ((1 : Int32)))))] [.int u65.1] (fun u66 => some (.int u66.1)) (fun u66 => u66.2) (fun u66 => [.int u66.1, .int u65.1]) n_84 hm (fun l u hu => c_Mod_tells hu) rfl (Nat.le_of_ble_eq_true rfl) rfl (Nat.le_of_ble_eq_true rfl) (Nat.le_of_ble_eq_true rfl) (fun _ => rfl) dL_law_1308 (fun u66 hm => ?_)
      refine j_if_icmpeq C 1553 dL_law_1311 (by decide) hm (fun hm => ?_) (fun hm => ?_)
      · refine j_sub (L' := [(0, .ref b), (1, .ref (G.1 + 0)), (2, .ref (G.1 + 84)), (3, .int v3)]) [0, 1, 2, 3] rfl ?_
        exact w_Law_loop_1553 C B Z O hm
      · refine j_iconst C 0 dL_law_1314 (by decide) ?_
        obtain rfl := Option.some.inj hm
        exact j_lawret C Z O dL_law_1315
    rcases if_inv hm with ⟨c118, hm⟩ | ⟨c118, hm⟩
    · refine j_swIn C 33 1316 dL_law_33 c118 (by decide) (by decide) rfl (by decide) ?_
      refine j_aload_n C 1 dL_law_1316 rfl rfl ?_
      refine j_aload_n C 0 dL_law_1317 rfl rfl ?_
      refine j_iload_n C 3 dL_law_1318 rfl rfl ?_
      refine j_iconst C 1 dL_law_1319 (by decide) ?_
      refine j_iadd C dL_law_1320 ?_
      refine j_sld C B hm dL_law_1321 (fun hm => ?_)
      refine j_aload_n C 0 dL_law_1322 rfl rfl ?_
      refine j_iload_n C 3 dL_law_1323 rfl rfl ?_
      refine j_iconst C 2 dL_law_1324 (by decide) ?_
      refine j_iadd C dL_law_1325 ?_
      refine j_sld C B hm dL_law_1326 (fun hm => ?_)
      refine j_cV C l_L_152 [.int (sx (ix (v3 + ((1 : Int32))))), .int (sx (ix (v3 + ((2 : Int32)))))] [] (fun u67 => some (.int u67.1)) (fun u67 => u67.2) (fun u67 => [.int u67.1]) n_0 hm (fun l u hu => c_Race_right hu) rfl (Nat.le_of_ble_eq_true rfl) rfl (Nat.le_of_ble_eq_true rfl) (Nat.le_of_ble_eq_true rfl) (fun _ => rfl) dL_law_1327 (fun u67 hm => ?_)
      refine j_aload_n C 2 dL_law_1330 rfl rfl ?_
      refine j_aload_n C 0 dL_law_1331 rfl rfl ?_
      refine j_iload_n C 3 dL_law_1332 rfl rfl ?_
      refine j_iconst C 1 dL_law_1333 (by decide) ?_
      refine j_iadd C dL_law_1334 ?_
      refine j_sld C B hm dL_law_1335 (fun hm => ?_)
      refine j_aload_n C 0 dL_law_1336 rfl rfl ?_
      refine j_iload_n C 3 dL_law_1337 rfl rfl ?_
      refine j_iconst C 2 dL_law_1338 (by decide) ?_
      refine j_iadd C dL_law_1339 ?_
      refine j_sld C B hm dL_law_1340 (fun hm => ?_)
      refine j_cV C l_L_155 [.int (sx (ix (v3 + ((1 : Int32))))), .int (sx (ix (v3 + ((2 : Int32)))))] [.int u67.1] (fun u68 => some (.int u68.1)) (fun u68 => u68.2) (fun u68 => [.int u68.1, .int u67.1]) n_84 hm (fun l u hu => c_Mod_right hu) rfl (Nat.le_of_ble_eq_true rfl) rfl (Nat.le_of_ble_eq_true rfl) (Nat.le_of_ble_eq_true rfl) (fun _ => rfl) dL_law_1341 (fun u68 hm => ?_)
      refine j_if_icmpeq C 1553 dL_law_1344 (by decide) hm (fun hm => ?_) (fun hm => ?_)
      · refine j_sub (L' := [(0, .ref b), (1, .ref (G.1 + 0)), (2, .ref (G.1 + 84)), (3, .int v3)]) [0, 1, 2, 3] rfl ?_
        exact w_Law_loop_1553 C B Z O hm
      · refine j_iconst C 0 dL_law_1347 (by decide) ?_
        obtain rfl := Option.some.inj hm
        exact j_lawret C Z O dL_law_1348
    rcases if_inv hm with ⟨c119, hm⟩ | ⟨c119, hm⟩
    · refine j_swIn C 34 1349 dL_law_33 c119 (by decide) (by decide) rfl (by decide) ?_
      refine j_aload_n C 1 dL_law_1349 rfl rfl ?_
      refine j_aload_n C 0 dL_law_1350 rfl rfl ?_
      refine j_iload_n C 3 dL_law_1351 rfl rfl ?_
      refine j_iconst C 1 dL_law_1352 (by decide) ?_
      refine j_iadd C dL_law_1353 ?_
      refine j_sld C B hm dL_law_1354 (fun hm => ?_)
      refine j_cV C l_L_156 [.int (sx (ix (v3 + ((1 : Int32)))))] [] (fun u69 => some (.int u69.1)) (fun u69 => u69.2) (fun u69 => [.int u69.1]) n_0 hm (fun l u hu => c_Race_mark hu) rfl (Nat.le_of_ble_eq_true rfl) rfl (Nat.le_of_ble_eq_true rfl) (Nat.le_of_ble_eq_true rfl) (fun _ => rfl) dL_law_1355 (fun u69 hm => ?_)
      refine j_aload_n C 2 dL_law_1358 rfl rfl ?_
      refine j_aload_n C 0 dL_law_1359 rfl rfl ?_
      refine j_iload_n C 3 dL_law_1360 rfl rfl ?_
      refine j_iconst C 1 dL_law_1361 (by decide) ?_
      refine j_iadd C dL_law_1362 ?_
      refine j_sld C B hm dL_law_1363 (fun hm => ?_)
      refine j_cV C l_L_159 [.int (sx (ix (v3 + ((1 : Int32)))))] [.int u69.1] (fun u70 => some (.int u70.1)) (fun u70 => u70.2) (fun u70 => [.int u70.1, .int u69.1]) n_84 hm (fun l u hu => c_Mod_mark hu) rfl (Nat.le_of_ble_eq_true rfl) rfl (Nat.le_of_ble_eq_true rfl) (Nat.le_of_ble_eq_true rfl) (fun _ => rfl) dL_law_1364 (fun u70 hm => ?_)
      refine j_if_icmpeq C 1553 dL_law_1367 (by decide) hm (fun hm => ?_) (fun hm => ?_)
      · refine j_sub (L' := [(0, .ref b), (1, .ref (G.1 + 0)), (2, .ref (G.1 + 84)), (3, .int v3)]) [0, 1, 2, 3] rfl ?_
        exact w_Law_loop_1553 C B Z O hm
      · refine j_iconst C 0 dL_law_1370 (by decide) ?_
        obtain rfl := Option.some.inj hm
        exact j_lawret C Z O dL_law_1371
    rcases if_inv hm with ⟨c120, hm⟩ | ⟨c120, hm⟩
    · refine j_swIn C 35 1372 dL_law_33 c120 (by decide) (by decide) rfl (by decide) ?_
      refine j_aload_n C 1 dL_law_1372 rfl rfl ?_
      refine j_aload_n C 0 dL_law_1373 rfl rfl ?_
      refine j_iload_n C 3 dL_law_1374 rfl rfl ?_
      refine j_iconst C 1 dL_law_1375 (by decide) ?_
      refine j_iadd C dL_law_1376 ?_
      refine j_sld C B hm dL_law_1377 (fun hm => ?_)
      refine j_aload_n C 0 dL_law_1378 rfl rfl ?_
      refine j_iload_n C 3 dL_law_1379 rfl rfl ?_
      refine j_iconst C 2 dL_law_1380 (by decide) ?_
      refine j_iadd C dL_law_1381 ?_
      refine j_sld C B hm dL_law_1382 (fun hm => ?_)
      refine j_aload_n C 0 dL_law_1383 rfl rfl ?_
      refine j_iload_n C 3 dL_law_1384 rfl rfl ?_
      refine j_iconst C 3 dL_law_1385 (by decide) ?_
      refine j_iadd C dL_law_1386 ?_
      refine j_sld C B hm dL_law_1387 (fun hm => ?_)
      refine j_aload_n C 0 dL_law_1388 rfl rfl ?_
      refine j_iload_n C 3 dL_law_1389 rfl rfl ?_
      refine j_iconst C 4 dL_law_1390 (by decide) ?_
      refine j_iadd C dL_law_1391 ?_
      refine j_sld C B hm dL_law_1392 (fun hm => ?_)
      refine j_cV C l_L_160 [.int (sx (ix (v3 + ((1 : Int32))))), .int (sx (ix (v3 + ((2 : Int32))))), .int (sx (ix (v3 + ((3 : Int32))))), .int (sx (ix (v3 + ((4 : Int32)))))] [] (fun u71 => some (.int u71.1)) (fun u71 => u71.2) (fun u71 => [.int u71.1]) n_0 hm (fun l u hu => c_Race_lost hu) rfl (Nat.le_of_ble_eq_true rfl) rfl (Nat.le_of_ble_eq_true rfl) (Nat.le_of_ble_eq_true rfl) (fun _ => rfl) dL_law_1393 (fun u71 hm => ?_)
      refine j_aload_n C 2 dL_law_1396 rfl rfl ?_
      refine j_aload_n C 0 dL_law_1397 rfl rfl ?_
      refine j_iload_n C 3 dL_law_1398 rfl rfl ?_
      refine j_iconst C 1 dL_law_1399 (by decide) ?_
      refine j_iadd C dL_law_1400 ?_
      refine j_sld C B hm dL_law_1401 (fun hm => ?_)
      refine j_aload_n C 0 dL_law_1402 rfl rfl ?_
      refine j_iload_n C 3 dL_law_1403 rfl rfl ?_
      refine j_iconst C 2 dL_law_1404 (by decide) ?_
      refine j_iadd C dL_law_1405 ?_
      refine j_sld C B hm dL_law_1406 (fun hm => ?_)
      refine j_aload_n C 0 dL_law_1407 rfl rfl ?_
      refine j_iload_n C 3 dL_law_1408 rfl rfl ?_
      refine j_iconst C 3 dL_law_1409 (by decide) ?_
      refine j_iadd C dL_law_1410 ?_
      refine j_sld C B hm dL_law_1411 (fun hm => ?_)
      refine j_aload_n C 0 dL_law_1412 rfl rfl ?_
      refine j_iload_n C 3 dL_law_1413 rfl rfl ?_
      refine j_iconst C 4 dL_law_1414 (by decide) ?_
      refine j_iadd C dL_law_1415 ?_
      refine j_sld C B hm dL_law_1416 (fun hm => ?_)
      refine j_cV C l_L_163 [.int (sx (ix (v3 + ((1 : Int32))))), .int (sx (ix (v3 + ((2 : Int32))))), .int (sx (ix (v3 + ((3 : Int32))))), .int (sx (ix (v3 + ((4 : Int32)))))] [.int u71.1] (fun u72 => some (.int u72.1)) (fun u72 => u72.2) (fun u72 => [.int u72.1, .int u71.1]) n_84 hm (fun l u hu => c_Mod_lost hu) rfl (Nat.le_of_ble_eq_true rfl) rfl (Nat.le_of_ble_eq_true rfl) (Nat.le_of_ble_eq_true rfl) (fun _ => rfl) dL_law_1417 (fun u72 hm => ?_)
      refine j_if_icmpeq C 1553 dL_law_1420 (by decide) hm (fun hm => ?_) (fun hm => ?_)
      · refine j_sub (L' := [(0, .ref b), (1, .ref (G.1 + 0)), (2, .ref (G.1 + 84)), (3, .int v3)]) [0, 1, 2, 3] rfl ?_
        exact w_Law_loop_1553 C B Z O hm
      · refine j_iconst C 0 dL_law_1423 (by decide) ?_
        obtain rfl := Option.some.inj hm
        exact j_lawret C Z O dL_law_1424
    rcases if_inv hm with ⟨c121, hm⟩ | ⟨c121, hm⟩
    · refine j_swIn C 36 1425 dL_law_33 c121 (by decide) (by decide) rfl (by decide) ?_
      refine j_aload_n C 1 dL_law_1425 rfl rfl ?_
      refine j_aload_n C 0 dL_law_1426 rfl rfl ?_
      refine j_iload_n C 3 dL_law_1427 rfl rfl ?_
      refine j_iconst C 1 dL_law_1428 (by decide) ?_
      refine j_iadd C dL_law_1429 ?_
      refine j_sld C B hm dL_law_1430 (fun hm => ?_)
      refine j_cV C l_L_164 [.int (sx (ix (v3 + ((1 : Int32)))))] [] (fun u73 => some (.int u73.1)) (fun u73 => u73.2) (fun u73 => [.int u73.1]) n_0 hm (fun l u hu => c_Race_day hu) rfl (Nat.le_of_ble_eq_true rfl) rfl (Nat.le_of_ble_eq_true rfl) (Nat.le_of_ble_eq_true rfl) (fun _ => rfl) dL_law_1431 (fun u73 hm => ?_)
      refine j_aload_n C 2 dL_law_1434 rfl rfl ?_
      refine j_aload_n C 0 dL_law_1435 rfl rfl ?_
      refine j_iload_n C 3 dL_law_1436 rfl rfl ?_
      refine j_iconst C 1 dL_law_1437 (by decide) ?_
      refine j_iadd C dL_law_1438 ?_
      refine j_sld C B hm dL_law_1439 (fun hm => ?_)
      refine j_cV C l_L_167 [.int (sx (ix (v3 + ((1 : Int32)))))] [.int u73.1] (fun u74 => some (.int u74.1)) (fun u74 => u74.2) (fun u74 => [.int u74.1, .int u73.1]) n_84 hm (fun l u hu => c_Mod_day hu) rfl (Nat.le_of_ble_eq_true rfl) rfl (Nat.le_of_ble_eq_true rfl) (Nat.le_of_ble_eq_true rfl) (fun _ => rfl) dL_law_1440 (fun u74 hm => ?_)
      refine j_if_icmpeq C 1553 dL_law_1443 (by decide) hm (fun hm => ?_) (fun hm => ?_)
      · refine j_sub (L' := [(0, .ref b), (1, .ref (G.1 + 0)), (2, .ref (G.1 + 84)), (3, .int v3)]) [0, 1, 2, 3] rfl ?_
        exact w_Law_loop_1553 C B Z O hm
      · refine j_iconst C 0 dL_law_1446 (by decide) ?_
        obtain rfl := Option.some.inj hm
        exact j_lawret C Z O dL_law_1447
    rcases if_inv hm with ⟨c122, hm⟩ | ⟨c122, hm⟩
    · refine j_swIn C 37 1448 dL_law_33 c122 (by decide) (by decide) rfl (by decide) ?_
      refine j_aload_n C 1 dL_law_1448 rfl rfl ?_
      refine j_aload_n C 0 dL_law_1449 rfl rfl ?_
      refine j_iload_n C 3 dL_law_1450 rfl rfl ?_
      refine j_iconst C 1 dL_law_1451 (by decide) ?_
      refine j_iadd C dL_law_1452 ?_
      refine j_sld C B hm dL_law_1453 (fun hm => ?_)
      refine j_cV C l_L_168 [.int (sx (ix (v3 + ((1 : Int32)))))] [] (fun u75 => some (.int u75)) (fun _ => h) (fun u75 => [.int u75]) n_0 hm (fun l u hu => c_Race_drawn hu) rfl (Nat.le_of_ble_eq_true rfl) rfl (Nat.le_of_ble_eq_true rfl) (Nat.le_of_ble_eq_true rfl) (fun _ => rfl) dL_law_1454 (fun u75 hm => ?_)
      refine j_aload_n C 2 dL_law_1457 rfl rfl ?_
      refine j_aload_n C 0 dL_law_1458 rfl rfl ?_
      refine j_iload_n C 3 dL_law_1459 rfl rfl ?_
      refine j_iconst C 1 dL_law_1460 (by decide) ?_
      refine j_iadd C dL_law_1461 ?_
      refine j_sld C B hm dL_law_1462 (fun hm => ?_)
      refine j_cV C l_L_171 [.int (sx (ix (v3 + ((1 : Int32)))))] [.int u75] (fun u76 => some (.int u76)) (fun _ => h) (fun u76 => [.int u76, .int u75]) n_84 hm (fun l u hu => c_Mod_drawn hu) rfl (Nat.le_of_ble_eq_true rfl) rfl (Nat.le_of_ble_eq_true rfl) (Nat.le_of_ble_eq_true rfl) (fun _ => rfl) dL_law_1463 (fun u76 hm => ?_)
      refine j_if_icmpeq C 1553 dL_law_1466 (by decide) hm (fun hm => ?_) (fun hm => ?_)
      · refine j_sub (L' := [(0, .ref b), (1, .ref (G.1 + 0)), (2, .ref (G.1 + 84)), (3, .int v3)]) [0, 1, 2, 3] rfl ?_
        exact w_Law_loop_1553 C B Z O hm
      · refine j_iconst C 0 dL_law_1469 (by decide) ?_
        obtain rfl := Option.some.inj hm
        exact j_lawret C Z O dL_law_1470
    rcases if_inv hm with ⟨c123, hm⟩ | ⟨c123, hm⟩
    · refine j_swIn C 38 1471 dL_law_33 c123 (by decide) (by decide) rfl (by decide) ?_
      refine j_aload_n C 1 dL_law_1471 rfl rfl ?_
      refine j_aload_n C 0 dL_law_1472 rfl rfl ?_
      refine j_iload_n C 3 dL_law_1473 rfl rfl ?_
      refine j_iconst C 1 dL_law_1474 (by decide) ?_
      refine j_iadd C dL_law_1475 ?_
      refine j_sld C B hm dL_law_1476 (fun hm => ?_)
      refine j_cV C l_L_172 [.int (sx (ix (v3 + ((1 : Int32)))))] [] (fun u77 => some (.int u77.1)) (fun u77 => u77.2) (fun u77 => [.int u77.1]) n_0 hm (fun l u hu => c_Race_image hu) rfl (Nat.le_of_ble_eq_true rfl) rfl (Nat.le_of_ble_eq_true rfl) (Nat.le_of_ble_eq_true rfl) (fun _ => rfl) dL_law_1477 (fun u77 hm => ?_)
      refine j_aload_n C 2 dL_law_1480 rfl rfl ?_
      refine j_aload_n C 0 dL_law_1481 rfl rfl ?_
      refine j_iload_n C 3 dL_law_1482 rfl rfl ?_
      refine j_iconst C 1 dL_law_1483 (by decide) ?_
      refine j_iadd C dL_law_1484 ?_
      refine j_sld C B hm dL_law_1485 (fun hm => ?_)
      refine j_cV C l_L_175 [.int (sx (ix (v3 + ((1 : Int32)))))] [.int u77.1] (fun u78 => some (.int u78.1)) (fun u78 => u78.2) (fun u78 => [.int u78.1, .int u77.1]) n_84 hm (fun l u hu => c_Mod_image hu) rfl (Nat.le_of_ble_eq_true rfl) rfl (Nat.le_of_ble_eq_true rfl) (Nat.le_of_ble_eq_true rfl) (fun _ => rfl) dL_law_1486 (fun u78 hm => ?_)
      refine j_if_icmpeq C 1553 dL_law_1489 (by decide) hm (fun hm => ?_) (fun hm => ?_)
      · refine j_sub (L' := [(0, .ref b), (1, .ref (G.1 + 0)), (2, .ref (G.1 + 84)), (3, .int v3)]) [0, 1, 2, 3] rfl ?_
        exact w_Law_loop_1553 C B Z O hm
      · refine j_iconst C 0 dL_law_1492 (by decide) ?_
        obtain rfl := Option.some.inj hm
        exact j_lawret C Z O dL_law_1493
    rcases if_inv hm with ⟨c124, hm⟩ | ⟨c124, hm⟩
    · refine j_swIn C 39 1494 dL_law_33 c124 (by decide) (by decide) rfl (by decide) ?_
      refine j_aload_n C 1 dL_law_1494 rfl rfl ?_
      refine j_aload_n C 0 dL_law_1495 rfl rfl ?_
      refine j_iload_n C 3 dL_law_1496 rfl rfl ?_
      refine j_iconst C 1 dL_law_1497 (by decide) ?_
      refine j_iadd C dL_law_1498 ?_
      refine j_sld C B hm dL_law_1499 (fun hm => ?_)
      refine j_cV C l_L_176 [.int (sx (ix (v3 + ((1 : Int32)))))] [] (fun u79 => some (.int u79.1)) (fun u79 => u79.2) (fun u79 => [.int u79.1]) n_0 hm (fun l u hu => c_Race_back hu) rfl (Nat.le_of_ble_eq_true rfl) rfl (Nat.le_of_ble_eq_true rfl) (Nat.le_of_ble_eq_true rfl) (fun _ => rfl) dL_law_1500 (fun u79 hm => ?_)
      refine j_aload_n C 2 dL_law_1503 rfl rfl ?_
      refine j_aload_n C 0 dL_law_1504 rfl rfl ?_
      refine j_iload_n C 3 dL_law_1505 rfl rfl ?_
      refine j_iconst C 1 dL_law_1506 (by decide) ?_
      refine j_iadd C dL_law_1507 ?_
      refine j_sld C B hm dL_law_1508 (fun hm => ?_)
      refine j_cV C l_L_179 [.int (sx (ix (v3 + ((1 : Int32)))))] [.int u79.1] (fun u80 => some (.int u80.1)) (fun u80 => u80.2) (fun u80 => [.int u80.1, .int u79.1]) n_84 hm (fun l u hu => c_Mod_back hu) rfl (Nat.le_of_ble_eq_true rfl) rfl (Nat.le_of_ble_eq_true rfl) (Nat.le_of_ble_eq_true rfl) (fun _ => rfl) dL_law_1509 (fun u80 hm => ?_)
      refine j_if_icmpeq C 1553 dL_law_1512 (by decide) hm (fun hm => ?_) (fun hm => ?_)
      · refine j_sub (L' := [(0, .ref b), (1, .ref (G.1 + 0)), (2, .ref (G.1 + 84)), (3, .int v3)]) [0, 1, 2, 3] rfl ?_
        exact w_Law_loop_1553 C B Z O hm
      · refine j_iconst C 0 dL_law_1515 (by decide) ?_
        obtain rfl := Option.some.inj hm
        exact j_lawret C Z O dL_law_1516
    rcases if_inv hm with ⟨c125, hm⟩ | ⟨c125, hm⟩
    · refine j_swIn C 40 1517 dL_law_33 c125 (by decide) (by decide) rfl (by decide) ?_
      refine j_aload_n C 1 dL_law_1517 rfl rfl ?_
      refine j_aload_n C 0 dL_law_1518 rfl rfl ?_
      refine j_iload_n C 3 dL_law_1519 rfl rfl ?_
      refine j_iconst C 1 dL_law_1520 (by decide) ?_
      refine j_iadd C dL_law_1521 ?_
      refine j_sld C B hm dL_law_1522 (fun hm => ?_)
      refine j_cV C l_L_180 [.int (sx (ix (v3 + ((1 : Int32)))))] [] (fun u81 => some (.int u81)) (fun _ => h) (fun u81 => [.int u81]) n_0 hm (fun l u hu => c_Race_count hu) rfl (Nat.le_of_ble_eq_true rfl) rfl (Nat.le_of_ble_eq_true rfl) (Nat.le_of_ble_eq_true rfl) (fun _ => rfl) dL_law_1523 (fun u81 hm => ?_)
      refine j_aload_n C 2 dL_law_1526 rfl rfl ?_
      refine j_aload_n C 0 dL_law_1527 rfl rfl ?_
      refine j_iload_n C 3 dL_law_1528 rfl rfl ?_
      refine j_iconst C 1 dL_law_1529 (by decide) ?_
      refine j_iadd C dL_law_1530 ?_
      refine j_sld C B hm dL_law_1531 (fun hm => ?_)
      refine j_cV C l_L_183 [.int (sx (ix (v3 + ((1 : Int32)))))] [.int u81] (fun u82 => some (.int u82)) (fun _ => h) (fun u82 => [.int u82, .int u81]) n_84 hm (fun l u hu => c_Mod_count hu) rfl (Nat.le_of_ble_eq_true rfl) rfl (Nat.le_of_ble_eq_true rfl) (Nat.le_of_ble_eq_true rfl) (fun _ => rfl) dL_law_1532 (fun u82 hm => ?_)
      refine j_if_icmpeq C 1553 dL_law_1535 (by decide) hm (fun hm => ?_) (fun hm => ?_)
      · refine j_sub (L' := [(0, .ref b), (1, .ref (G.1 + 0)), (2, .ref (G.1 + 84)), (3, .int v3)]) [0, 1, 2, 3] rfl ?_
        exact w_Law_loop_1553 C B Z O hm
      · refine j_iconst C 0 dL_law_1538 (by decide) ?_
        obtain rfl := Option.some.inj hm
        exact j_lawret C Z O dL_law_1539
    rcases if_inv hm with ⟨c126, hm⟩ | ⟨c126, hm⟩
    · refine j_swIn C 41 1540 dL_law_33 c126 (by decide) (by decide) rfl (by decide) ?_
      refine j_aload_n C 1 dL_law_1540 rfl rfl ?_
      refine j_cV C l_L_184 [] [] (fun u83 => some (.int u83)) (fun _ => h) (fun u83 => [.int u83]) n_0 hm (fun l u hu => c_Race_status hu) rfl (Nat.le_of_ble_eq_true rfl) rfl (Nat.le_of_ble_eq_true rfl) (Nat.le_of_ble_eq_true rfl) (fun _ => rfl) dL_law_1541 (fun u83 hm => ?_)
      refine j_aload_n C 2 dL_law_1544 rfl rfl ?_
      refine j_cV C l_L_187 [] [.int u83] (fun u84 => some (.int u84)) (fun _ => h) (fun u84 => [.int u84, .int u83]) n_84 hm (fun l u hu => c_Mod_status hu) rfl (Nat.le_of_ble_eq_true rfl) rfl (Nat.le_of_ble_eq_true rfl) (Nat.le_of_ble_eq_true rfl) (fun _ => rfl) dL_law_1545 (fun u84 hm => ?_)
      refine j_if_icmpeq C 1553 dL_law_1548 (by decide) hm (fun hm => ?_) (fun hm => ?_)
      · refine j_sub (L' := [(0, .ref b), (1, .ref (G.1 + 0)), (2, .ref (G.1 + 84)), (3, .int v3)]) [0, 1, 2, 3] rfl ?_
        exact w_Law_loop_1553 C B Z O hm
      · refine j_iconst C 0 dL_law_1551 (by decide) ?_
        obtain rfl := Option.some.inj hm
        exact j_lawret C Z O dL_law_1552
    refine j_tableOut C 1553 dL_law_33 (by have e0 := sw_ne (n := 0) c85 (by decide); have e1 := sw_ne (n := 1) c86 (by decide); have e2 := sw_ne (n := 2) c87 (by decide); have e3 := sw_ne (n := 3) c88 (by decide); have e4 := sw_ne (n := 4) c89 (by decide); have e5 := sw_ne (n := 5) c90 (by decide); have e6 := sw_ne (n := 6) c91 (by decide); have e7 := sw_ne (n := 7) c92 (by decide); have e8 := sw_ne (n := 8) c93 (by decide); have e9 := sw_ne (n := 9) c94 (by decide); have e10 := sw_ne (n := 10) c95 (by decide); have e11 := sw_ne (n := 11) c96 (by decide); have e12 := sw_ne (n := 12) c97 (by decide); have e13 := sw_ne (n := 13) c98 (by decide); have e14 := sw_ne (n := 14) c99 (by decide); have e15 := sw_ne (n := 15) c100 (by decide); have e16 := sw_ne (n := 16) c101 (by decide); have e17 := sw_ne (n := 17) c102 (by decide); have e18 := sw_ne (n := 18) c103 (by decide); have e19 := sw_ne (n := 19) c104 (by decide); have e20 := sw_ne (n := 20) c105 (by decide); have e21 := sw_ne (n := 21) c106 (by decide); have e22 := sw_ne (n := 22) c107 (by decide); have e23 := sw_ne (n := 23) c108 (by decide); have e24 := sw_ne (n := 24) c109 (by decide); have e25 := sw_ne (n := 25) c110 (by decide); have e26 := sw_ne (n := 26) c111 (by decide); have e27 := sw_ne (n := 27) c112 (by decide); have e28 := sw_ne (n := 28) c113 (by decide); have e29 := sw_ne (n := 29) c114 (by decide); have e30 := sw_ne (n := 30) c115 (by decide); have e31 := sw_ne (n := 31) c116 (by decide); have e32 := sw_ne (n := 32) c117 (by decide); have e33 := sw_ne (n := 33) c118 (by decide); have e34 := sw_ne (n := 34) c119 (by decide); have e35 := sw_ne (n := 35) c120 (by decide); have e36 := sw_ne (n := 36) c121 (by decide); have e37 := sw_ne (n := 37) c122 (by decide); have e38 := sw_ne (n := 38) c123 (by decide); have e39 := sw_ne (n := 39) c124 (by decide); have e40 := sw_ne (n := 40) c125 (by decide); have e41 := sw_ne (n := 41) c126 (by decide); omega) (by decide) ?_
    refine j_sub (L' := [(0, .ref b), (1, .ref (G.1 + 0)), (2, .ref (G.1 + 84)), (3, .int v3)]) [0, 1, 2, 3] rfl ?_
    exact w_Law_loop_1553 C B Z O hm
theorem k_Law_loop_18 {G : jG} {X : jX} {b sn : Nat} {sx : Nat → Int32} (C : jC G X cL_law 4 RL 2048 84000) (B : jB G X b sn sx) (Z : jZ G X b) {v3 : Int32} {h : Hp} {out : (Int32 × Hp)} (O : (O_Law_loop G X) out) (hm : lp (fun q => s_Law_loop_18 sx sn q.1 q.2) (v3, h) = some out) : J G X 18 [(0, .ref b), (1, .ref (G.1 + 0)), (2, .ref (G.1 + 84)), (3, .int v3)] [] h :=
  lp_ok (P := P_Law_loop_18 b G X) (O := (O_Law_loop G X)) (fun q r hm O => w_Law_loop_18 C B Z O hm) hm O
