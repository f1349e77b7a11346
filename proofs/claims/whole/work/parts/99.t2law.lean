theorem lc_0 {Θ : Th} {Γ : Gm} {b L : Nat} {xs : Nat → Int32} (hW : LwB Θ Γ b L xs) {i : Int} (hi : 0 ≤ i ∧ i + 6 ≤ L) {σ : Mem} (hJ : JJ σ) (kk : ∀ σ', JJ σ' → Run Θ Γ 1201 (LL Θ b i) [] σ') : Run Θ Γ 180 (LL Θ b i) [] σ := by
  have hB := hW.1
  refine R_aload_n hB (j := 1) dL_law_180 rfl rfl ?_
  refine R_arg hW hi (j := 1) (by decide) dL_law_181 dL_law_182 dL_law_183 dL_law_184 dL_law_185 ?_
  refine R_arg hW hi (j := 2) (by decide) dL_law_186 dL_law_187 dL_law_188 dL_law_189 dL_law_190 ?_
  refine R_cV1 hB (s_type _ _ (xq_rng _ _) (xq_rng _ _) hJ.1) mv_L_13 rfl rfl (by decide) dL_law_191 rfl rfl (Nat.le_of_ble_eq_true rfl) (fun z1 σ1 h1 => ?_)
  refine R_aload_n hB (j := 2) dL_law_194 rfl rfl ?_
  refine R_arg hW hi (j := 1) (by decide) dL_law_195 dL_law_196 dL_law_197 dL_law_198 dL_law_199 ?_
  refine R_arg hW hi (j := 2) (by decide) dL_law_200 dL_law_201 dL_law_202 dL_law_203 dL_law_204 ?_
  refine R_cV1 hB (s_mtype _ _ (xq_rng _ _) (xq_rng _ _) (st_type (σ2 := σ1) (z2 := 0) hJ h1).1) mv_L_17 rfl rfl (by decide) dL_law_205 rfl rfl (Nat.le_of_ble_eq_true rfl) (fun z2 σ2 h2 => ?_)
  have hq := (st_type hJ h1).2 h2
  exact R_icmp_same hB 1201 hq.1 dL_law_208 (by decide) (kk σ2 hq.2)
theorem lc_1 {Θ : Th} {Γ : Gm} {b L : Nat} {xs : Nat → Int32} (hW : LwB Θ Γ b L xs) {i : Int} (hi : 0 ≤ i ∧ i + 6 ≤ L) {σ : Mem} (hJ : JJ σ) (kk : ∀ σ', JJ σ' → Run Θ Γ 1201 (LL Θ b i) [] σ') : Run Θ Γ 213 (LL Θ b i) [] σ := by
  have hB := hW.1
  refine R_aload_n hB (j := 1) dL_law_213 rfl rfl ?_
  refine R_arg hW hi (j := 1) (by decide) dL_law_214 dL_law_215 dL_law_216 dL_law_217 dL_law_218 ?_
  refine R_cV1 hB (s_wipe _ (xq_rng _ _) hJ.1) mv_L_18 rfl rfl (by decide) dL_law_219 rfl rfl (Nat.le_of_ble_eq_true rfl) (fun z1 σ1 h1 => ?_)
  refine R_aload_n hB (j := 2) dL_law_222 rfl rfl ?_
  refine R_arg hW hi (j := 1) (by decide) dL_law_223 dL_law_224 dL_law_225 dL_law_226 dL_law_227 ?_
  refine R_cV1 hB (s_mwipe _ (xq_rng _ _) (st_wipe (σ2 := σ1) (z2 := 0) hJ h1).1) mv_L_22 rfl rfl (by decide) dL_law_228 rfl rfl (Nat.le_of_ble_eq_true rfl) (fun z2 σ2 h2 => ?_)
  have hq := (st_wipe hJ h1).2 h2
  exact R_icmp_same hB 1201 hq.1 dL_law_231 (by decide) (kk σ2 hq.2)
theorem lc_2 {Θ : Th} {Γ : Gm} {b L : Nat} {xs : Nat → Int32} (hW : LwB Θ Γ b L xs) {i : Int} (hi : 0 ≤ i ∧ i + 6 ≤ L) {σ : Mem} (hJ : JJ σ) (kk : ∀ σ', JJ σ' → Run Θ Γ 1201 (LL Θ b i) [] σ') : Run Θ Γ 236 (LL Θ b i) [] σ := by
  have hB := hW.1
  refine R_aload_n hB (j := 1) dL_law_236 rfl rfl ?_
  refine R_arg hW hi (j := 1) (by decide) dL_law_237 dL_law_238 dL_law_239 dL_law_240 dL_law_241 ?_
  refine R_cV1 hB (s_undo _ (xq_rng _ _) hJ.1) mv_L_23 rfl rfl (by decide) dL_law_242 rfl rfl (Nat.le_of_ble_eq_true rfl) (fun z1 σ1 h1 => ?_)
  refine R_aload_n hB (j := 2) dL_law_245 rfl rfl ?_
  refine R_arg hW hi (j := 1) (by decide) dL_law_246 dL_law_247 dL_law_248 dL_law_249 dL_law_250 ?_
  refine R_cV1 hB (s_mundo _ (xq_rng _ _) (st_undo (σ2 := σ1) (z2 := 0) hJ h1).1) mv_L_26 rfl rfl (by decide) dL_law_251 rfl rfl (Nat.le_of_ble_eq_true rfl) (fun z2 σ2 h2 => ?_)
  have hq := (st_undo hJ h1).2 h2
  exact R_icmp_same hB 1201 hq.1 dL_law_254 (by decide) (kk σ2 hq.2)
theorem lc_3 {Θ : Th} {Γ : Gm} {b L : Nat} {xs : Nat → Int32} (hW : LwB Θ Γ b L xs) {i : Int} (hi : 0 ≤ i ∧ i + 6 ≤ L) {σ : Mem} (hJ : JJ σ) (kk : ∀ σ', JJ σ' → Run Θ Γ 1201 (LL Θ b i) [] σ') : Run Θ Γ 259 (LL Θ b i) [] σ := by
  have hB := hW.1
  refine R_aload_n hB (j := 1) dL_law_259 rfl rfl ?_
  refine R_arg hW hi (j := 1) (by decide) dL_law_260 dL_law_261 dL_law_262 dL_law_263 dL_law_264 ?_
  refine R_cV1 hB (s_fault _ (xq_rng _ _) hJ.1) mv_L_27 rfl rfl (by decide) dL_law_265 rfl rfl (Nat.le_of_ble_eq_true rfl) (fun z1 σ1 h1 => ?_)
  refine R_aload_n hB (j := 2) dL_law_268 rfl rfl ?_
  refine R_arg hW hi (j := 1) (by decide) dL_law_269 dL_law_270 dL_law_271 dL_law_272 dL_law_273 ?_
  refine R_cV1 hB (s_mfault _ (xq_rng _ _) (by rw [h1.1]; exact hJ.1) (by rw [h1.1]; exact hJ.2.1)) mv_L_30 rfl rfl (by decide) dL_law_274 rfl rfl (Nat.le_of_ble_eq_true rfl) (fun z2 σ2 h2 => ?_)
  have hq := st_fault hJ h1 h2
  exact R_icmp_same hB 1201 hq.1 dL_law_277 (by decide) (kk σ2 hq.2)
theorem lc_4 {Θ : Th} {Γ : Gm} {b L : Nat} {xs : Nat → Int32} (hW : LwB Θ Γ b L xs) {i : Int} (hi : 0 ≤ i ∧ i + 6 ≤ L) {σ : Mem} (hJ : JJ σ) (kk : ∀ σ', JJ σ' → Run Θ Γ 1201 (LL Θ b i) [] σ') : Run Θ Γ 282 (LL Θ b i) [] σ := by
  have hB := hW.1
  refine R_aload_n hB (j := 1) dL_law_282 rfl rfl ?_
  refine R_arg hW hi (j := 1) (by decide) dL_law_283 dL_law_284 dL_law_285 dL_law_286 dL_law_287 ?_
  refine R_arg hW hi (j := 2) (by decide) dL_law_288 dL_law_289 dL_law_290 dL_law_291 dL_law_292 ?_
  refine R_cV1 hB (s_sleeper _ _ (xq_rng _ _) (xq_rng _ _) hJ.1) mv_L_31 rfl rfl (by decide) dL_law_293 rfl rfl (Nat.le_of_ble_eq_true rfl) (fun z1 σ1 h1 => ?_)
  refine R_aload_n hB (j := 2) dL_law_296 rfl rfl ?_
  refine R_arg hW hi (j := 1) (by decide) dL_law_297 dL_law_298 dL_law_299 dL_law_300 dL_law_301 ?_
  refine R_arg hW hi (j := 2) (by decide) dL_law_302 dL_law_303 dL_law_304 dL_law_305 dL_law_306 ?_
  refine R_cV1 hB (s_msleeper _ _ (xq_rng _ _) (xq_rng _ _) (by rw [h1.1]; exact hJ.1) (by rw [h1.1]; exact hJ.2.1)) mv_L_34 rfl rfl (by decide) dL_law_307 rfl rfl (Nat.le_of_ble_eq_true rfl) (fun z2 σ2 h2 => ?_)
  have hq := st_sleeper hJ h1 h2
  exact R_icmp_same hB 1201 hq.1 dL_law_310 (by decide) (kk σ2 hq.2)
theorem lc_5 {Θ : Th} {Γ : Gm} {b L : Nat} {xs : Nat → Int32} (hW : LwB Θ Γ b L xs) {i : Int} (hi : 0 ≤ i ∧ i + 6 ≤ L) {σ : Mem} (hJ : JJ σ) (kk : ∀ σ', JJ σ' → Run Θ Γ 1201 (LL Θ b i) [] σ') : Run Θ Γ 315 (LL Θ b i) [] σ := by
  have hB := hW.1
  refine R_aload_n hB (j := 1) dL_law_315 rfl rfl ?_
  refine R_arg hW hi (j := 1) (by decide) dL_law_316 dL_law_317 dL_law_318 dL_law_319 dL_law_320 ?_
  refine R_arg hW hi (j := 2) (by decide) dL_law_321 dL_law_322 dL_law_323 dL_law_324 dL_law_325 ?_
  refine R_cV1 hB (s_deed _ _ (xq_rng _ _) (xq_rng _ _) hJ.1) mv_L_35 rfl rfl (by decide) dL_law_326 rfl rfl (Nat.le_of_ble_eq_true rfl) (fun z1 σ1 h1 => ?_)
  refine R_aload_n hB (j := 2) dL_law_329 rfl rfl ?_
  refine R_arg hW hi (j := 1) (by decide) dL_law_330 dL_law_331 dL_law_332 dL_law_333 dL_law_334 ?_
  refine R_arg hW hi (j := 2) (by decide) dL_law_335 dL_law_336 dL_law_337 dL_law_338 dL_law_339 ?_
  refine R_cV1 hB (s_mdeed _ _ (xq_rng _ _) (xq_rng _ _) (by rw [h1.1]; exact hJ.1) (by rw [h1.1]; exact hJ.2.1)) mv_L_38 rfl rfl (by decide) dL_law_340 rfl rfl (Nat.le_of_ble_eq_true rfl) (fun z2 σ2 h2 => ?_)
  have hq := st_deed hJ h1 h2
  exact R_icmp_same hB 1201 hq.1 dL_law_343 (by decide) (kk σ2 hq.2)
theorem lc_6 {Θ : Th} {Γ : Gm} {b L : Nat} {xs : Nat → Int32} (hW : LwB Θ Γ b L xs) {i : Int} (hi : 0 ≤ i ∧ i + 6 ≤ L) {σ : Mem} (hJ : JJ σ) (kk : ∀ σ', JJ σ' → Run Θ Γ 1201 (LL Θ b i) [] σ') : Run Θ Γ 348 (LL Θ b i) [] σ := by
  have hB := hW.1
  refine R_aload_n hB (j := 1) dL_law_348 rfl rfl ?_
  refine R_arg hW hi (j := 1) (by decide) dL_law_349 dL_law_350 dL_law_351 dL_law_352 dL_law_353 ?_
  refine R_arg hW hi (j := 2) (by decide) dL_law_354 dL_law_355 dL_law_356 dL_law_357 dL_law_358 ?_
  refine R_cV1 hB (s_law _ _ (xq_rng _ _) (xq_rng _ _) hJ.1) mv_L_39 rfl rfl (by decide) dL_law_359 rfl rfl (Nat.le_of_ble_eq_true rfl) (fun z1 σ1 h1 => ?_)
  refine R_aload_n hB (j := 2) dL_law_362 rfl rfl ?_
  refine R_arg hW hi (j := 1) (by decide) dL_law_363 dL_law_364 dL_law_365 dL_law_366 dL_law_367 ?_
  refine R_arg hW hi (j := 2) (by decide) dL_law_368 dL_law_369 dL_law_370 dL_law_371 dL_law_372 ?_
  refine R_cV1 hB (s_mlaw _ _ (xq_rng _ _) (xq_rng _ _) ) mv_L_42 rfl rfl (by decide) dL_law_373 rfl rfl (Nat.le_of_ble_eq_true rfl) (fun z2 σ2 h2 => ?_)
  have hq := st_law hJ h1 h2
  exact R_icmp_same hB 1201 hq.1 dL_law_376 (by decide) (kk σ2 hq.2)
theorem lc_7 {Θ : Th} {Γ : Gm} {b L : Nat} {xs : Nat → Int32} (hW : LwB Θ Γ b L xs) {i : Int} (hi : 0 ≤ i ∧ i + 6 ≤ L) {σ : Mem} (hJ : JJ σ) (kk : ∀ σ', JJ σ' → Run Θ Γ 1201 (LL Θ b i) [] σ') : Run Θ Γ 381 (LL Θ b i) [] σ := by
  have hB := hW.1
  refine R_aload_n hB (j := 1) dL_law_381 rfl rfl ?_
  refine R_arg hW hi (j := 1) (by decide) dL_law_382 dL_law_383 dL_law_384 dL_law_385 dL_law_386 ?_
  refine R_arg hW hi (j := 2) (by decide) dL_law_387 dL_law_388 dL_law_389 dL_law_390 dL_law_391 ?_
  refine R_cV1 hB (s_depth _ _ (xq_rng _ _) (xq_rng _ _) hJ.1) mv_L_43 rfl rfl (by decide) dL_law_392 rfl rfl (Nat.le_of_ble_eq_true rfl) (fun z1 σ1 h1 => ?_)
  refine R_aload_n hB (j := 2) dL_law_395 rfl rfl ?_
  refine R_arg hW hi (j := 1) (by decide) dL_law_396 dL_law_397 dL_law_398 dL_law_399 dL_law_400 ?_
  refine R_arg hW hi (j := 2) (by decide) dL_law_401 dL_law_402 dL_law_403 dL_law_404 dL_law_405 ?_
  refine R_cV1 hB (s_mdepth _ _ (xq_rng _ _) (xq_rng _ _) (hJ.sc h1.1).1 (hJ.sc h1.1).2.1) mv_L_46 rfl rfl (by decide) dL_law_406 rfl rfl (Nat.le_of_ble_eq_true rfl) (fun z2 σ2 h2 => ?_)
  have hq := st_depth hJ h1 h2
  exact R_icmp_same hB 1201 hq.1 dL_law_409 (by decide) (kk σ2 hq.2)
theorem lc_8 {Θ : Th} {Γ : Gm} {b L : Nat} {xs : Nat → Int32} (hW : LwB Θ Γ b L xs) {i : Int} (hi : 0 ≤ i ∧ i + 6 ≤ L) {σ : Mem} (hJ : JJ σ) (kk : ∀ σ', JJ σ' → Run Θ Γ 1201 (LL Θ b i) [] σ') : Run Θ Γ 414 (LL Θ b i) [] σ := by
  have hB := hW.1
  refine R_aload_n hB (j := 1) dL_law_414 rfl rfl ?_
  refine R_arg hW hi (j := 1) (by decide) dL_law_415 dL_law_416 dL_law_417 dL_law_418 dL_law_419 ?_
  refine R_arg hW hi (j := 2) (by decide) dL_law_420 dL_law_421 dL_law_422 dL_law_423 dL_law_424 ?_
  refine R_arg hW hi (j := 3) (by decide) dL_law_425 dL_law_426 dL_law_427 dL_law_428 dL_law_429 ?_
  refine R_cV1 hB (s_hears _ _ _ (xq_rng _ _) (xq_rng _ _) (xq_rng _ _) hJ.1) mv_L_47 rfl rfl (by decide) dL_law_430 rfl rfl (Nat.le_of_ble_eq_true rfl) (fun z1 σ1 h1 => ?_)
  refine R_aload_n hB (j := 2) dL_law_433 rfl rfl ?_
  refine R_arg hW hi (j := 1) (by decide) dL_law_434 dL_law_435 dL_law_436 dL_law_437 dL_law_438 ?_
  refine R_arg hW hi (j := 2) (by decide) dL_law_439 dL_law_440 dL_law_441 dL_law_442 dL_law_443 ?_
  refine R_arg hW hi (j := 3) (by decide) dL_law_444 dL_law_445 dL_law_446 dL_law_447 dL_law_448 ?_
  refine R_cV1 hB (s_mhears _ _ _ (xq_rng _ _) (xq_rng _ _) (xq_rng _ _) (hJ.sc h1.1).1 (hJ.sc h1.1).2.1) mv_L_51 rfl rfl (by decide) dL_law_449 rfl rfl (Nat.le_of_ble_eq_true rfl) (fun z2 σ2 h2 => ?_)
  have hq := st_hears hJ h1 h2
  exact R_icmp_same hB 1201 hq.1 dL_law_452 (by decide) (kk σ2 hq.2)
theorem lc_9 {Θ : Th} {Γ : Gm} {b L : Nat} {xs : Nat → Int32} (hW : LwB Θ Γ b L xs) {i : Int} (hi : 0 ≤ i ∧ i + 6 ≤ L) {σ : Mem} (hJ : JJ σ) (kk : ∀ σ', JJ σ' → Run Θ Γ 1201 (LL Θ b i) [] σ') : Run Θ Γ 457 (LL Θ b i) [] σ := by
  have hB := hW.1
  refine R_aload_n hB (j := 1) dL_law_457 rfl rfl ?_
  refine R_arg hW hi (j := 1) (by decide) dL_law_458 dL_law_459 dL_law_460 dL_law_461 dL_law_462 ?_
  refine R_arg hW hi (j := 2) (by decide) dL_law_463 dL_law_464 dL_law_465 dL_law_466 dL_law_467 ?_
  refine R_cV1 hB (s_proof _ _ (xq_rng _ _) (xq_rng _ _) hJ.1) mv_L_52 rfl rfl (by decide) dL_law_468 rfl rfl (Nat.le_of_ble_eq_true rfl) (fun z1 σ1 h1 => ?_)
  refine R_aload_n hB (j := 2) dL_law_471 rfl rfl ?_
  refine R_arg hW hi (j := 1) (by decide) dL_law_472 dL_law_473 dL_law_474 dL_law_475 dL_law_476 ?_
  refine R_arg hW hi (j := 2) (by decide) dL_law_477 dL_law_478 dL_law_479 dL_law_480 dL_law_481 ?_
  refine R_cV1 hB (s_mproof _ _ (xq_rng _ _) (xq_rng _ _) (hJ.sc h1.1).1 (hJ.sc h1.1).2.1) mv_L_55 rfl rfl (by decide) dL_law_482 rfl rfl (Nat.le_of_ble_eq_true rfl) (fun z2 σ2 h2 => ?_)
  have hq := st_proof hJ h1 h2
  exact R_icmp_same hB 1201 hq.1 dL_law_485 (by decide) (kk σ2 hq.2)
theorem lc_10 {Θ : Th} {Γ : Gm} {b L : Nat} {xs : Nat → Int32} (hW : LwB Θ Γ b L xs) {i : Int} (hi : 0 ≤ i ∧ i + 6 ≤ L) {σ : Mem} (hJ : JJ σ) (kk : ∀ σ', JJ σ' → Run Θ Γ 1201 (LL Θ b i) [] σ') : Run Θ Γ 490 (LL Θ b i) [] σ := by
  have hB := hW.1
  refine R_aload_n hB (j := 1) dL_law_490 rfl rfl ?_
  refine R_arg hW hi (j := 1) (by decide) dL_law_491 dL_law_492 dL_law_493 dL_law_494 dL_law_495 ?_
  refine R_arg hW hi (j := 2) (by decide) dL_law_496 dL_law_497 dL_law_498 dL_law_499 dL_law_500 ?_
  refine R_cV1 hB (s_nights _ _ (xq_rng _ _) (xq_rng _ _) hJ.1) mv_L_56 rfl rfl (by decide) dL_law_501 rfl rfl (Nat.le_of_ble_eq_true rfl) (fun z1 σ1 h1 => ?_)
  refine R_aload_n hB (j := 2) dL_law_504 rfl rfl ?_
  refine R_arg hW hi (j := 1) (by decide) dL_law_505 dL_law_506 dL_law_507 dL_law_508 dL_law_509 ?_
  refine R_arg hW hi (j := 2) (by decide) dL_law_510 dL_law_511 dL_law_512 dL_law_513 dL_law_514 ?_
  refine R_cV1 hB (s_mnights _ _ (xq_rng _ _) (xq_rng _ _) (hJ.sc h1.1).1 (hJ.sc h1.1).2.1) mv_L_59 rfl rfl (by decide) dL_law_515 rfl rfl (Nat.le_of_ble_eq_true rfl) (fun z2 σ2 h2 => ?_)
  have hq := st_nights hJ h1 h2
  exact R_icmp_same hB 1201 hq.1 dL_law_518 (by decide) (kk σ2 hq.2)
theorem lc_11 {Θ : Th} {Γ : Gm} {b L : Nat} {xs : Nat → Int32} (hW : LwB Θ Γ b L xs) {i : Int} (hi : 0 ≤ i ∧ i + 6 ≤ L) {σ : Mem} (hJ : JJ σ) (kk : ∀ σ', JJ σ' → Run Θ Γ 1201 (LL Θ b i) [] σ') : Run Θ Γ 523 (LL Θ b i) [] σ := by
  have hB := hW.1
  refine R_aload_n hB (j := 1) dL_law_523 rfl rfl ?_
  refine R_cV1 hB (s_best hJ.1) mv_L_60 rfl rfl (by decide) dL_law_524 rfl rfl (Nat.le_of_ble_eq_true rfl) (fun z1 σ1 h1 => ?_)
  refine R_aload_n hB (j := 2) dL_law_527 rfl rfl ?_
  refine R_cV1 hB (s_mbest (hJ.sc h1.1).1 (hJ.sc h1.1).2.1) mv_L_64 rfl rfl (by decide) dL_law_528 rfl rfl (Nat.le_of_ble_eq_true rfl) (fun z2 σ2 h2 => ?_)
  have hq := st_best hJ h1 ⟨h2.1, h2.2.2⟩
  exact R_icmp_same hB 1201 hq.1 dL_law_531 (by decide) (kk σ2 hq.2)
theorem lc_12 {Θ : Th} {Γ : Gm} {b L : Nat} {xs : Nat → Int32} (hW : LwB Θ Γ b L xs) {i : Int} (hi : 0 ≤ i ∧ i + 6 ≤ L) {σ : Mem} (hJ : JJ σ) (kk : ∀ σ', JJ σ' → Run Θ Γ 1201 (LL Θ b i) [] σ') : Run Θ Γ 536 (LL Θ b i) [] σ := by
  have hB := hW.1
  refine R_aload_n hB (j := 1) dL_law_536 rfl rfl ?_
  refine R_cV1 hB (s_byAll hJ.1) mv_L_65 rfl rfl (by decide) dL_law_537 rfl rfl (Nat.le_of_ble_eq_true rfl) (fun z1 σ1 h1 => ?_)
  refine R_aload_n hB (j := 2) dL_law_540 rfl rfl ?_
  refine R_cV1 hB (s_mbyAll (hJ.sc h1.1).1 (hJ.sc h1.1).2.1) mv_L_68 rfl rfl (by decide) dL_law_541 rfl rfl (Nat.le_of_ble_eq_true rfl) (fun z2 σ2 h2 => ?_)
  have hq := st_byAll hJ h1 ⟨h2.1, h2.2.2⟩
  exact R_icmp_same hB 1201 hq.1 dL_law_544 (by decide) (kk σ2 hq.2)
theorem lc_13 {Θ : Th} {Γ : Gm} {b L : Nat} {xs : Nat → Int32} (hW : LwB Θ Γ b L xs) {i : Int} (hi : 0 ≤ i ∧ i + 6 ≤ L) {σ : Mem} (hJ : JJ σ) (kk : ∀ σ', JJ σ' → Run Θ Γ 1201 (LL Θ b i) [] σ') : Run Θ Γ 549 (LL Θ b i) [] σ := by
  have hB := hW.1
  refine R_aload_n hB (j := 1) dL_law_549 rfl rfl ?_
  refine R_arg hW hi (j := 1) (by decide) dL_law_550 dL_law_551 dL_law_552 dL_law_553 dL_law_554 ?_
  refine R_arg hW hi (j := 2) (by decide) dL_law_555 dL_law_556 dL_law_557 dL_law_558 dL_law_559 ?_
  refine R_arg hW hi (j := 3) (by decide) dL_law_560 dL_law_561 dL_law_562 dL_law_563 dL_law_564 ?_
  refine R_cV1 hB (s_quiet _ _ _ (xq_rng _ _) (xq_rng _ _) (xq_rng _ _) hJ.1) mv_L_69 rfl rfl (by decide) dL_law_565 rfl rfl (Nat.le_of_ble_eq_true rfl) (fun z1 σ1 h1 => ?_)
  refine R_aload_n hB (j := 2) dL_law_568 rfl rfl ?_
  refine R_arg hW hi (j := 1) (by decide) dL_law_569 dL_law_570 dL_law_571 dL_law_572 dL_law_573 ?_
  refine R_arg hW hi (j := 2) (by decide) dL_law_574 dL_law_575 dL_law_576 dL_law_577 dL_law_578 ?_
  refine R_arg hW hi (j := 3) (by decide) dL_law_579 dL_law_580 dL_law_581 dL_law_582 dL_law_583 ?_
  refine R_cV1 hB (s_mquiet _ _ _ (xq_rng _ _) (xq_rng _ _) (xq_rng _ _) (hJ.sc h1.1).1 (hJ.sc h1.1).2.1) mv_L_72 rfl rfl (by decide) dL_law_584 rfl rfl (Nat.le_of_ble_eq_true rfl) (fun z2 σ2 h2 => ?_)
  have hq := st_quiet hJ h1 h2
  exact R_icmp_same hB 1201 hq.1 dL_law_587 (by decide) (kk σ2 hq.2)
theorem lc_14 {Θ : Th} {Γ : Gm} {b L : Nat} {xs : Nat → Int32} (hW : LwB Θ Γ b L xs) {i : Int} (hi : 0 ≤ i ∧ i + 6 ≤ L) {σ : Mem} (hJ : JJ σ) (kk : ∀ σ', JJ σ' → Run Θ Γ 1201 (LL Θ b i) [] σ') : Run Θ Γ 592 (LL Θ b i) [] σ := by
  have hB := hW.1
  refine R_aload_n hB (j := 1) dL_law_592 rfl rfl ?_
  refine R_arg hW hi (j := 1) (by decide) dL_law_593 dL_law_594 dL_law_595 dL_law_596 dL_law_597 ?_
  refine R_arg hW hi (j := 2) (by decide) dL_law_598 dL_law_599 dL_law_600 dL_law_601 dL_law_602 ?_
  refine R_cV1 hB (s_move _ _ (xq_rng _ _) (xq_rng _ _) hJ.1) mv_L_73 rfl rfl (by decide) dL_law_603 rfl rfl (Nat.le_of_ble_eq_true rfl) (fun z1 σ1 h1 => ?_)
  refine R_aload_n hB (j := 2) dL_law_606 rfl rfl ?_
  refine R_arg hW hi (j := 1) (by decide) dL_law_607 dL_law_608 dL_law_609 dL_law_610 dL_law_611 ?_
  refine R_arg hW hi (j := 2) (by decide) dL_law_612 dL_law_613 dL_law_614 dL_law_615 dL_law_616 ?_
  refine R_cV1 hB (s_mmove _ _ (xq_rng _ _) (xq_rng _ _) (hJ.sc h1.1).1 (hJ.sc h1.1).2.1) mv_L_76 rfl rfl (by decide) dL_law_617 rfl rfl (Nat.le_of_ble_eq_true rfl) (fun z2 σ2 h2 => ?_)
  have hq := st_move hJ h1 h2
  exact R_icmp_same hB 1201 hq.1 dL_law_620 (by decide) (kk σ2 hq.2)
theorem lc_15 {Θ : Th} {Γ : Gm} {b L : Nat} {xs : Nat → Int32} (hW : LwB Θ Γ b L xs) {i : Int} (hi : 0 ≤ i ∧ i + 6 ≤ L) {σ : Mem} (hJ : JJ σ) (kk : ∀ σ', JJ σ' → Run Θ Γ 1201 (LL Θ b i) [] σ') : Run Θ Γ 625 (LL Θ b i) [] σ := by
  have hB := hW.1
  refine R_aload_n hB (j := 1) dL_law_625 rfl rfl ?_
  refine R_arg hW hi (j := 1) (by decide) dL_law_626 dL_law_627 dL_law_628 dL_law_629 dL_law_630 ?_
  refine R_arg hW hi (j := 2) (by decide) dL_law_631 dL_law_632 dL_law_633 dL_law_634 dL_law_635 ?_
  refine R_cV1 hB (s_need _ _ (xq_rng _ _) (xq_rng _ _) hJ.1) mv_L_77 rfl rfl (by decide) dL_law_636 rfl rfl (Nat.le_of_ble_eq_true rfl) (fun z1 σ1 h1 => ?_)
  refine R_aload_n hB (j := 2) dL_law_639 rfl rfl ?_
  refine R_arg hW hi (j := 1) (by decide) dL_law_640 dL_law_641 dL_law_642 dL_law_643 dL_law_644 ?_
  refine R_arg hW hi (j := 2) (by decide) dL_law_645 dL_law_646 dL_law_647 dL_law_648 dL_law_649 ?_
  refine R_cV1 hB (s_mneed _ _ (xq_rng _ _) (xq_rng _ _) (hJ.sc h1.1).1 (hJ.sc h1.1).2.1) mv_L_80 rfl rfl (by decide) dL_law_650 rfl rfl (Nat.le_of_ble_eq_true rfl) (fun z2 σ2 h2 => ?_)
  have hq := st_need hJ h1 h2
  exact R_icmp_same hB 1201 hq.1 dL_law_653 (by decide) (kk σ2 hq.2)
theorem lc_16 {Θ : Th} {Γ : Gm} {b L : Nat} {xs : Nat → Int32} (hW : LwB Θ Γ b L xs) {i : Int} (hi : 0 ≤ i ∧ i + 6 ≤ L) {σ : Mem} (hJ : JJ σ) (kk : ∀ σ', JJ σ' → Run Θ Γ 1201 (LL Θ b i) [] σ') : Run Θ Γ 658 (LL Θ b i) [] σ := by
  have hB := hW.1
  refine R_aload_n hB (j := 1) dL_law_658 rfl rfl ?_
  refine R_arg hW hi (j := 1) (by decide) dL_law_659 dL_law_660 dL_law_661 dL_law_662 dL_law_663 ?_
  refine R_arg hW hi (j := 2) (by decide) dL_law_664 dL_law_665 dL_law_666 dL_law_667 dL_law_668 ?_
  refine R_cV1 hB (s_feed _ _ (xq_rng _ _) (xq_rng _ _) hJ.1) mv_L_81 rfl rfl (by decide) dL_law_669 rfl rfl (Nat.le_of_ble_eq_true rfl) (fun z1 σ1 h1 => ?_)
  refine R_aload_n hB (j := 2) dL_law_672 rfl rfl ?_
  refine R_arg hW hi (j := 1) (by decide) dL_law_673 dL_law_674 dL_law_675 dL_law_676 dL_law_677 ?_
  refine R_arg hW hi (j := 2) (by decide) dL_law_678 dL_law_679 dL_law_680 dL_law_681 dL_law_682 ?_
  refine R_cV1 hB (s_mfeed _ _ (xq_rng _ _) (xq_rng _ _) (hJ.sc h1.1).1 (hJ.sc h1.1).2.1) mv_L_84 rfl rfl (by decide) dL_law_683 rfl rfl (Nat.le_of_ble_eq_true rfl) (fun z2 σ2 h2 => ?_)
  have hq := st_feed hJ h1 h2
  exact R_icmp_same hB 1201 hq.1 dL_law_686 (by decide) (kk σ2 hq.2)
theorem lc_17 {Θ : Th} {Γ : Gm} {b L : Nat} {xs : Nat → Int32} (hW : LwB Θ Γ b L xs) {i : Int} (hi : 0 ≤ i ∧ i + 6 ≤ L) {σ : Mem} (hJ : JJ σ) (kk : ∀ σ', JJ σ' → Run Θ Γ 1201 (LL Θ b i) [] σ') : Run Θ Γ 691 (LL Θ b i) [] σ := by
  have hB := hW.1
  refine R_aload_n hB (j := 1) dL_law_691 rfl rfl ?_
  refine R_arg hW hi (j := 1) (by decide) dL_law_692 dL_law_693 dL_law_694 dL_law_695 dL_law_696 ?_
  refine R_arg hW hi (j := 2) (by decide) dL_law_697 dL_law_698 dL_law_699 dL_law_700 dL_law_701 ?_
  refine R_arg hW hi (j := 3) (by decide) dL_law_702 dL_law_703 dL_law_704 dL_law_705 dL_law_706 ?_
  refine R_cV1 hB (s_told _ _ _ (xq_rng _ _) (xq_rng _ _) (xq_rng _ _) hJ.1) mv_L_85 rfl rfl (by decide) dL_law_707 rfl rfl (Nat.le_of_ble_eq_true rfl) (fun z1 σ1 h1 => ?_)
  refine R_aload_n hB (j := 2) dL_law_710 rfl rfl ?_
  refine R_arg hW hi (j := 1) (by decide) dL_law_711 dL_law_712 dL_law_713 dL_law_714 dL_law_715 ?_
  refine R_arg hW hi (j := 2) (by decide) dL_law_716 dL_law_717 dL_law_718 dL_law_719 dL_law_720 ?_
  refine R_arg hW hi (j := 3) (by decide) dL_law_721 dL_law_722 dL_law_723 dL_law_724 dL_law_725 ?_
  refine R_cV1 hB (s_mtold _ _ _ (xq_rng _ _) (xq_rng _ _) (xq_rng _ _) (st_told (σ2 := σ1) (z2 := 0) hJ h1).1) mv_L_88 rfl rfl (by decide) dL_law_726 rfl rfl (Nat.le_of_ble_eq_true rfl) (fun z2 σ2 h2 => ?_)
  have hq := (st_told hJ h1).2 h2
  exact R_icmp_same hB 1201 hq.1 dL_law_729 (by decide) (kk σ2 hq.2)
theorem lc_18 {Θ : Th} {Γ : Gm} {b L : Nat} {xs : Nat → Int32} (hW : LwB Θ Γ b L xs) {i : Int} (hi : 0 ≤ i ∧ i + 6 ≤ L) {σ : Mem} (hJ : JJ σ) (kk : ∀ σ', JJ σ' → Run Θ Γ 1201 (LL Θ b i) [] σ') : Run Θ Γ 734 (LL Θ b i) [] σ := by
  have hB := hW.1
  refine R_aload_n hB (j := 1) dL_law_734 rfl rfl ?_
  refine R_cV1 hB (s_forget hJ.1) mv_L_89 rfl rfl (by decide) dL_law_735 rfl rfl (Nat.le_of_ble_eq_true rfl) (fun z1 σ1 h1 => ?_)
  refine R_aload_n hB (j := 2) dL_law_738 rfl rfl ?_
  refine R_cV1 hB (s_mforget) mv_L_92 rfl rfl (by decide) dL_law_739 rfl rfl (Nat.le_of_ble_eq_true rfl) (fun z2 σ2 h2 => ?_)
  have hq := st_forget hJ h1 h2
  exact R_icmp_same hB 1201 hq.1 dL_law_742 (by decide) (kk σ2 hq.2)
theorem lc_19 {Θ : Th} {Γ : Gm} {b L : Nat} {xs : Nat → Int32} (hW : LwB Θ Γ b L xs) {i : Int} (hi : 0 ≤ i ∧ i + 6 ≤ L) {σ : Mem} (hJ : JJ σ) (kk : ∀ σ', JJ σ' → Run Θ Γ 1201 (LL Θ b i) [] σ') : Run Θ Γ 747 (LL Θ b i) [] σ := by
  have hB := hW.1
  refine R_aload_n hB (j := 1) dL_law_747 rfl rfl ?_
  refine R_arg hW hi (j := 1) (by decide) dL_law_748 dL_law_749 dL_law_750 dL_law_751 dL_law_752 ?_
  refine R_cV1 hB (s_read _ (xq_rng _ _) hJ.1) mv_L_93 rfl rfl (by decide) dL_law_753 rfl rfl (Nat.le_of_ble_eq_true rfl) (fun z1 σ1 h1 => ?_)
  refine R_aload_n hB (j := 2) dL_law_756 rfl rfl ?_
  refine R_arg hW hi (j := 1) (by decide) dL_law_757 dL_law_758 dL_law_759 dL_law_760 dL_law_761 ?_
  refine R_cV1 hB (s_mread _ (xq_rng _ _) (st_read (σ2 := σ1) (z2 := 0) hJ h1).1.1 (st_read (σ2 := σ1) (z2 := 0) hJ h1).1.2) mv_L_96 rfl rfl (by decide) dL_law_762 rfl rfl (Nat.le_of_ble_eq_true rfl) (fun z2 σ2 h2 => ?_)
  have hq := (st_read hJ h1).2 h2
  exact R_icmp_same hB 1201 hq.1 dL_law_765 (by decide) (kk σ2 hq.2)
theorem lc_20 {Θ : Th} {Γ : Gm} {b L : Nat} {xs : Nat → Int32} (hW : LwB Θ Γ b L xs) {i : Int} (hi : 0 ≤ i ∧ i + 6 ≤ L) {σ : Mem} (hJ : JJ σ) (kk : ∀ σ', JJ σ' → Run Θ Γ 1201 (LL Θ b i) [] σ') : Run Θ Γ 770 (LL Θ b i) [] σ := by
  have hB := hW.1
  refine R_aload_n hB (j := 1) dL_law_770 rfl rfl ?_
  refine R_cV1 hB (s_never hJ.1) mv_L_97 rfl rfl (by decide) dL_law_771 rfl rfl (Nat.le_of_ble_eq_true rfl) (fun z1 σ1 h1 => ?_)
  refine R_aload_n hB (j := 2) dL_law_774 rfl rfl ?_
  refine R_cV1 hB (s_mnever (hJ.sc h1.1).1 (hJ.sc h1.1).2.1 (hJ.sc h1.1).2.2.1) mv_L_100 rfl rfl (by decide) dL_law_775 rfl rfl (Nat.le_of_ble_eq_true rfl) (fun z2 σ2 h2 => ?_)
  have hq := st_never hJ h1 ⟨h2.1, h2.2.2⟩
  exact R_icmp_same hB 1201 hq.1 dL_law_778 (by decide) (kk σ2 hq.2)
theorem lc_21 {Θ : Th} {Γ : Gm} {b L : Nat} {xs : Nat → Int32} (hW : LwB Θ Γ b L xs) {i : Int} (hi : 0 ≤ i ∧ i + 6 ≤ L) {σ : Mem} (hJ : JJ σ) (kk : ∀ σ', JJ σ' → Run Θ Γ 1201 (LL Θ b i) [] σ') : Run Θ Γ 783 (LL Θ b i) [] σ := by
  have hB := hW.1
  refine R_aload_n hB (j := 1) dL_law_783 rfl rfl ?_
  refine R_arg hW hi (j := 1) (by decide) dL_law_784 dL_law_785 dL_law_786 dL_law_787 dL_law_788 ?_
  refine R_cV1 hB (s_place _ (xq_rng _ _) hJ.1) mv_L_101 rfl rfl (by decide) dL_law_789 rfl rfl (Nat.le_of_ble_eq_true rfl) (fun z1 σ1 h1 => ?_)
  refine R_aload_n hB (j := 2) dL_law_792 rfl rfl ?_
  refine R_arg hW hi (j := 1) (by decide) dL_law_793 dL_law_794 dL_law_795 dL_law_796 dL_law_797 ?_
  refine R_cV1 hB (s_mplace _ (xq_rng _ _) (hJ.sc h1.1).1 (hJ.sc h1.1).2.1 (hJ.sc h1.1).2.2.1) mv_L_104 rfl rfl (by decide) dL_law_798 rfl rfl (Nat.le_of_ble_eq_true rfl) (fun z2 σ2 h2 => ?_)
  have hq := st_place hJ h1 h2
  exact R_icmp_same hB 1201 hq.1 dL_law_801 (by decide) (kk σ2 hq.2)
theorem lc_22 {Θ : Th} {Γ : Gm} {b L : Nat} {xs : Nat → Int32} (hW : LwB Θ Γ b L xs) {i : Int} (hi : 0 ≤ i ∧ i + 6 ≤ L) {σ : Mem} (hJ : JJ σ) (kk : ∀ σ', JJ σ' → Run Θ Γ 1201 (LL Θ b i) [] σ') : Run Θ Γ 806 (LL Θ b i) [] σ := by
  have hB := hW.1
  refine R_aload_n hB (j := 1) dL_law_806 rfl rfl ?_
  refine R_cV1 hB (s_ask hJ.1) mv_L_105 rfl rfl (by decide) dL_law_807 rfl rfl (Nat.le_of_ble_eq_true rfl) (fun z1 σ1 h1 => ?_)
  refine R_aload_n hB (j := 2) dL_law_810 rfl rfl ?_
  refine R_cV1 hB (s_mask (hJ.sc h1.1).1 (hJ.sc h1.1).2.1 (hJ.sc h1.1).2.2.1) mv_L_108 rfl rfl (by decide) dL_law_811 rfl rfl (Nat.le_of_ble_eq_true rfl) (fun z2 σ2 h2 => ?_)
  have hq := st_ask hJ h1 ⟨h2.1, h2.2.2⟩
  exact R_icmp_same hB 1201 hq.1 dL_law_814 (by decide) (kk σ2 hq.2)
theorem lc_23 {Θ : Th} {Γ : Gm} {b L : Nat} {xs : Nat → Int32} (hW : LwB Θ Γ b L xs) {i : Int} (hi : 0 ≤ i ∧ i + 6 ≤ L) {σ : Mem} (hJ : JJ σ) (kk : ∀ σ', JJ σ' → Run Θ Γ 1201 (LL Θ b i) [] σ') : Run Θ Γ 819 (LL Θ b i) [] σ := by
  have hB := hW.1
  refine R_aload_n hB (j := 1) dL_law_819 rfl rfl ?_
  refine R_arg hW hi (j := 1) (by decide) dL_law_820 dL_law_821 dL_law_822 dL_law_823 dL_law_824 ?_
  refine R_arg hW hi (j := 2) (by decide) dL_law_825 dL_law_826 dL_law_827 dL_law_828 dL_law_829 ?_
  refine R_arg hW hi (j := 3) (by decide) dL_law_830 dL_law_831 dL_law_832 dL_law_833 dL_law_834 ?_
  refine R_cV2 hB (s_feign _ _ _ (xq_rng _ _) (xq_rng _ _) (xq_rng _ _) hJ.1) mv_L_109 rfl rfl (by decide) dL_law_835 rfl rfl (Nat.le_of_ble_eq_true rfl) (fun z1 σ1 h1 => ?_)
  refine R_aload_n hB (j := 2) dL_law_838 rfl rfl ?_
  refine R_arg hW hi (j := 1) (by decide) dL_law_839 dL_law_840 dL_law_841 dL_law_842 dL_law_843 ?_
  refine R_arg hW hi (j := 2) (by decide) dL_law_844 dL_law_845 dL_law_846 dL_law_847 dL_law_848 ?_
  refine R_arg hW hi (j := 3) (by decide) dL_law_849 dL_law_850 dL_law_851 dL_law_852 dL_law_853 ?_
  refine R_cV2 hB (s_mfeign _ _ _ (xq_rng _ _) (xq_rng _ _) (xq_rng _ _) (hJ.sc h1.1).1 (hJ.sc h1.1).2.1) mv_L_113 rfl rfl (by decide) dL_law_854 rfl rfl (Nat.le_of_ble_eq_true rfl) (fun z2 σ2 h2 => ?_)
  have hq := st_feign hJ h1 h2
  refine R_lcmp_same hB hq.1 dL_law_857 ?_
  exact R_if_eq hB 1201 (by decide) dL_law_858 (by decide) (fun _ => kk σ2 hq.2) (fun q => absurd rfl q)
theorem lc_24 {Θ : Th} {Γ : Gm} {b L : Nat} {xs : Nat → Int32} (hW : LwB Θ Γ b L xs) {i : Int} (hi : 0 ≤ i ∧ i + 6 ≤ L) {σ : Mem} (hJ : JJ σ) (kk : ∀ σ', JJ σ' → Run Θ Γ 1201 (LL Θ b i) [] σ') : Run Θ Γ 863 (LL Θ b i) [] σ := by
  have hB := hW.1
  refine R_aload_n hB (j := 1) dL_law_863 rfl rfl ?_
  refine R_arg hW hi (j := 1) (by decide) dL_law_864 dL_law_865 dL_law_866 dL_law_867 dL_law_868 ?_
  refine R_arg hW hi (j := 2) (by decide) dL_law_869 dL_law_870 dL_law_871 dL_law_872 dL_law_873 ?_
  refine R_arg hW hi (j := 3) (by decide) dL_law_874 dL_law_875 dL_law_876 dL_law_877 dL_law_878 ?_
  refine R_cV1 hB (s_court _ _ _ (xq_rng _ _) (xq_rng _ _) (xq_rng _ _) hJ.1) mv_L_114 rfl rfl (by decide) dL_law_879 rfl rfl (Nat.le_of_ble_eq_true rfl) (fun z1 σ1 h1 => ?_)
  refine R_aload_n hB (j := 2) dL_law_882 rfl rfl ?_
  refine R_arg hW hi (j := 1) (by decide) dL_law_883 dL_law_884 dL_law_885 dL_law_886 dL_law_887 ?_
  refine R_arg hW hi (j := 2) (by decide) dL_law_888 dL_law_889 dL_law_890 dL_law_891 dL_law_892 ?_
  refine R_arg hW hi (j := 3) (by decide) dL_law_893 dL_law_894 dL_law_895 dL_law_896 dL_law_897 ?_
  refine R_cV1 hB (s_mcourt _ _ _ (xq_rng _ _) (xq_rng _ _) (hJ.sc h1.1).1 (hJ.sc h1.1).2.1) mv_L_117 rfl rfl (by decide) dL_law_898 rfl rfl (Nat.le_of_ble_eq_true rfl) (fun z2 σ2 h2 => ?_)
  have hq := st_court hJ h1 h2
  exact R_icmp_same hB 1201 hq.1 dL_law_901 (by decide) (kk σ2 hq.2)
theorem lc_25 {Θ : Th} {Γ : Gm} {b L : Nat} {xs : Nat → Int32} (hW : LwB Θ Γ b L xs) {i : Int} (hi : 0 ≤ i ∧ i + 6 ≤ L) {σ : Mem} (hJ : JJ σ) (kk : ∀ σ', JJ σ' → Run Θ Γ 1201 (LL Θ b i) [] σ') : Run Θ Γ 906 (LL Θ b i) [] σ := by
  have hB := hW.1
  refine R_aload_n hB (j := 1) dL_law_906 rfl rfl ?_
  refine R_arg hW hi (j := 1) (by decide) dL_law_907 dL_law_908 dL_law_909 dL_law_910 dL_law_911 ?_
  refine R_arg hW hi (j := 2) (by decide) dL_law_912 dL_law_913 dL_law_914 dL_law_915 dL_law_916 ?_
  refine R_arg hW hi (j := 3) (by decide) dL_law_917 dL_law_918 dL_law_919 dL_law_920 dL_law_921 ?_
  refine R_cV1 hB (s_sheet _ _ _ (xq_rng _ _) (xq_rng _ _) (xq_rng _ _) hJ.1) mv_L_118 rfl rfl (by decide) dL_law_922 rfl rfl (Nat.le_of_ble_eq_true rfl) (fun z1 σ1 h1 => ?_)
  refine R_aload_n hB (j := 2) dL_law_925 rfl rfl ?_
  refine R_arg hW hi (j := 1) (by decide) dL_law_926 dL_law_927 dL_law_928 dL_law_929 dL_law_930 ?_
  refine R_arg hW hi (j := 2) (by decide) dL_law_931 dL_law_932 dL_law_933 dL_law_934 dL_law_935 ?_
  refine R_arg hW hi (j := 3) (by decide) dL_law_936 dL_law_937 dL_law_938 dL_law_939 dL_law_940 ?_
  refine R_cV1 hB (s_msheet _ _ _ (xq_rng _ _) (xq_rng _ _) (xq_rng _ _) ) mv_L_121 rfl rfl (by decide) dL_law_941 rfl rfl (Nat.le_of_ble_eq_true rfl) (fun z2 σ2 h2 => ?_)
  have hq := st_sheet hJ h1 h2
  exact R_icmp_same hB 1201 hq.1 dL_law_944 (by decide) (kk σ2 hq.2)
theorem lc_26 {Θ : Th} {Γ : Gm} {b L : Nat} {xs : Nat → Int32} (hW : LwB Θ Γ b L xs) {i : Int} (hi : 0 ≤ i ∧ i + 6 ≤ L) {σ : Mem} (hJ : JJ σ) (kk : ∀ σ', JJ σ' → Run Θ Γ 1201 (LL Θ b i) [] σ') : Run Θ Γ 949 (LL Θ b i) [] σ := by
  have hB := hW.1
  refine R_aload_n hB (j := 1) dL_law_949 rfl rfl ?_
  refine R_arg hW hi (j := 1) (by decide) dL_law_950 dL_law_951 dL_law_952 dL_law_953 dL_law_954 ?_
  refine R_cV1 hB (s_lose _ (xq_rng _ _) hJ.1) mv_L_122 rfl rfl (by decide) dL_law_955 rfl rfl (Nat.le_of_ble_eq_true rfl) (fun z1 σ1 h1 => ?_)
  refine R_aload_n hB (j := 2) dL_law_958 rfl rfl ?_
  refine R_arg hW hi (j := 1) (by decide) dL_law_959 dL_law_960 dL_law_961 dL_law_962 dL_law_963 ?_
  refine R_cV1 hB (s_mlose _ (xq_rng _ _) (st_lose (σ2 := σ1) (z2 := 0) hJ h1).1) mv_L_125 rfl rfl (by decide) dL_law_964 rfl rfl (Nat.le_of_ble_eq_true rfl) (fun z2 σ2 h2 => ?_)
  have hq := (st_lose hJ h1).2 h2
  exact R_icmp_same hB 1201 hq.1 dL_law_967 (by decide) (kk σ2 hq.2)
theorem lc_27 {Θ : Th} {Γ : Gm} {b L : Nat} {xs : Nat → Int32} (hW : LwB Θ Γ b L xs) {i : Int} (hi : 0 ≤ i ∧ i + 6 ≤ L) {σ : Mem} (hJ : JJ σ) (kk : ∀ σ', JJ σ' → Run Θ Γ 1201 (LL Θ b i) [] σ') : Run Θ Γ 972 (LL Θ b i) [] σ := by
  have hB := hW.1
  refine R_aload_n hB (j := 1) dL_law_972 rfl rfl ?_
  refine R_arg hW hi (j := 1) (by decide) dL_law_973 dL_law_974 dL_law_975 dL_law_976 dL_law_977 ?_
  refine R_arg hW hi (j := 2) (by decide) dL_law_978 dL_law_979 dL_law_980 dL_law_981 dL_law_982 ?_
  refine R_arg hW hi (j := 3) (by decide) dL_law_983 dL_law_984 dL_law_985 dL_law_986 dL_law_987 ?_
  refine R_arg hW hi (j := 4) (by decide) dL_law_988 dL_law_989 dL_law_990 dL_law_991 dL_law_992 ?_
  refine R_cV1 hB (s_put _ _ _ _ (xq_rng _ _) (xq_rng _ _) (xq_rng _ _) (xq_rng _ _) hJ.1) mv_L_126 rfl rfl (by decide) dL_law_993 rfl rfl (Nat.le_of_ble_eq_true rfl) (fun z1 σ1 h1 => ?_)
  refine R_aload_n hB (j := 2) dL_law_996 rfl rfl ?_
  refine R_arg hW hi (j := 1) (by decide) dL_law_997 dL_law_998 dL_law_999 dL_law_1000 dL_law_1001 ?_
  refine R_arg hW hi (j := 2) (by decide) dL_law_1002 dL_law_1003 dL_law_1004 dL_law_1005 dL_law_1006 ?_
  refine R_arg hW hi (j := 3) (by decide) dL_law_1007 dL_law_1008 dL_law_1009 dL_law_1010 dL_law_1011 ?_
  refine R_arg hW hi (j := 4) (by decide) dL_law_1012 dL_law_1013 dL_law_1014 dL_law_1015 dL_law_1016 ?_
  refine R_cV1 hB (s_mput _ _ _ _ (xq_rng _ _) (xq_rng _ _) (xq_rng _ _) (xq_rng _ _) (st_put (σ2 := σ1) (z2 := 0) hJ h1).1) mv_L_130 rfl rfl (by decide) dL_law_1017 rfl rfl (Nat.le_of_ble_eq_true rfl) (fun z2 σ2 h2 => ?_)
  have hq := (st_put hJ h1).2 h2
  exact R_icmp_same hB 1201 hq.1 dL_law_1020 (by decide) (kk σ2 hq.2)
theorem lc_28 {Θ : Th} {Γ : Gm} {b L : Nat} {xs : Nat → Int32} (hW : LwB Θ Γ b L xs) {i : Int} (hi : 0 ≤ i ∧ i + 6 ≤ L) {σ : Mem} (hJ : JJ σ) (kk : ∀ σ', JJ σ' → Run Θ Γ 1201 (LL Θ b i) [] σ') : Run Θ Γ 1025 (LL Θ b i) [] σ := by
  have hB := hW.1
  refine R_aload_n hB (j := 1) dL_law_1025 rfl rfl ?_
  refine R_arg hW hi (j := 1) (by decide) dL_law_1026 dL_law_1027 dL_law_1028 dL_law_1029 dL_law_1030 ?_
  refine R_arg hW hi (j := 2) (by decide) dL_law_1031 dL_law_1032 dL_law_1033 dL_law_1034 dL_law_1035 ?_
  refine R_arg hW hi (j := 3) (by decide) dL_law_1036 dL_law_1037 dL_law_1038 dL_law_1039 dL_law_1040 ?_
  refine R_cV1 hB (s_get _ _ _ (xq_rng _ _) (xq_rng _ _) (xq_rng _ _) hJ.1) mv_L_131 rfl rfl (by decide) dL_law_1041 rfl rfl (Nat.le_of_ble_eq_true rfl) (fun z1 σ1 h1 => ?_)
  refine R_aload_n hB (j := 2) dL_law_1044 rfl rfl ?_
  refine R_arg hW hi (j := 1) (by decide) dL_law_1045 dL_law_1046 dL_law_1047 dL_law_1048 dL_law_1049 ?_
  refine R_arg hW hi (j := 2) (by decide) dL_law_1050 dL_law_1051 dL_law_1052 dL_law_1053 dL_law_1054 ?_
  refine R_arg hW hi (j := 3) (by decide) dL_law_1055 dL_law_1056 dL_law_1057 dL_law_1058 dL_law_1059 ?_
  refine R_cV1 hB (s_mget _ _ _ (xq_rng _ _) (xq_rng _ _) (xq_rng _ _) (st_get (σ2 := σ1) (z2 := 0) hJ h1).1) mv_L_134 rfl rfl (by decide) dL_law_1060 rfl rfl (Nat.le_of_ble_eq_true rfl) (fun z2 σ2 h2 => ?_)
  have hq := (st_get hJ h1).2 h2
  exact R_icmp_same hB 1201 hq.1 dL_law_1063 (by decide) (kk σ2 hq.2)
theorem lc_29 {Θ : Th} {Γ : Gm} {b L : Nat} {xs : Nat → Int32} (hW : LwB Θ Γ b L xs) {i : Int} (hi : 0 ≤ i ∧ i + 6 ≤ L) {σ : Mem} (hJ : JJ σ) (kk : ∀ σ', JJ σ' → Run Θ Γ 1201 (LL Θ b i) [] σ') : Run Θ Γ 1068 (LL Θ b i) [] σ := by
  have hB := hW.1
  refine R_aload_n hB (j := 1) dL_law_1068 rfl rfl ?_
  refine R_arg hW hi (j := 1) (by decide) dL_law_1069 dL_law_1070 dL_law_1071 dL_law_1072 dL_law_1073 ?_
  refine R_arg hW hi (j := 2) (by decide) dL_law_1074 dL_law_1075 dL_law_1076 dL_law_1077 dL_law_1078 ?_
  refine R_arg hW hi (j := 3) (by decide) dL_law_1079 dL_law_1080 dL_law_1081 dL_law_1082 dL_law_1083 ?_
  refine R_arg hW hi (j := 4) (by decide) dL_law_1084 dL_law_1085 dL_law_1086 dL_law_1087 dL_law_1088 ?_
  refine R_arg hW hi (j := 5) (by decide) dL_law_1089 dL_law_1090 dL_law_1091 dL_law_1092 dL_law_1093 ?_
  refine R_cV1 hB (s_copy _ _ _ _ _ (xq_rng _ _) (xq_rng _ _) (xq_rng _ _) (xq_rng _ _) (xq_rng _ _) hJ.1) mv_L_135 rfl rfl (by decide) dL_law_1094 rfl rfl (Nat.le_of_ble_eq_true rfl) (fun z1 σ1 h1 => ?_)
  refine R_aload_n hB (j := 2) dL_law_1097 rfl rfl ?_
  refine R_arg hW hi (j := 1) (by decide) dL_law_1098 dL_law_1099 dL_law_1100 dL_law_1101 dL_law_1102 ?_
  refine R_arg hW hi (j := 2) (by decide) dL_law_1103 dL_law_1104 dL_law_1105 dL_law_1106 dL_law_1107 ?_
  refine R_arg hW hi (j := 3) (by decide) dL_law_1108 dL_law_1109 dL_law_1110 dL_law_1111 dL_law_1112 ?_
  refine R_arg hW hi (j := 4) (by decide) dL_law_1113 dL_law_1114 dL_law_1115 dL_law_1116 dL_law_1117 ?_
  refine R_arg hW hi (j := 5) (by decide) dL_law_1118 dL_law_1119 dL_law_1120 dL_law_1121 dL_law_1122 ?_
  refine R_cV1 hB (s_mcopy _ _ _ _ _ (xq_rng _ _) (xq_rng _ _) (xq_rng _ _) (xq_rng _ _) (xq_rng _ _) (st_copy (σ2 := σ1) (z2 := 0) hJ h1).1) mv_L_139 rfl rfl (by decide) dL_law_1123 rfl rfl (Nat.le_of_ble_eq_true rfl) (fun z2 σ2 h2 => ?_)
  have hq := (st_copy hJ h1).2 h2
  exact R_icmp_same hB 1201 hq.1 dL_law_1126 (by decide) (kk σ2 hq.2)
theorem lc_30 {Θ : Th} {Γ : Gm} {b L : Nat} {xs : Nat → Int32} (hW : LwB Θ Γ b L xs) {i : Int} (hi : 0 ≤ i ∧ i + 6 ≤ L) {σ : Mem} (hJ : JJ σ) (kk : ∀ σ', JJ σ' → Run Θ Γ 1201 (LL Θ b i) [] σ') : Run Θ Γ 1131 (LL Θ b i) [] σ := by
  have hB := hW.1
  refine R_aload_n hB (j := 1) dL_law_1131 rfl rfl ?_
  refine R_arg hW hi (j := 1) (by decide) dL_law_1132 dL_law_1133 dL_law_1134 dL_law_1135 dL_law_1136 ?_
  refine R_arg hW hi (j := 2) (by decide) dL_law_1137 dL_law_1138 dL_law_1139 dL_law_1140 dL_law_1141 ?_
  refine R_cV1 hB (s_write _ _ (xq_rng _ _) (xq_rng _ _) hJ.1) mv_L_140 rfl rfl (by decide) dL_law_1142 rfl rfl (Nat.le_of_ble_eq_true rfl) (fun z1 σ1 h1 => ?_)
  refine R_aload_n hB (j := 2) dL_law_1145 rfl rfl ?_
  refine R_arg hW hi (j := 1) (by decide) dL_law_1146 dL_law_1147 dL_law_1148 dL_law_1149 dL_law_1150 ?_
  refine R_arg hW hi (j := 2) (by decide) dL_law_1151 dL_law_1152 dL_law_1153 dL_law_1154 dL_law_1155 ?_
  refine R_cV1 hB (s_mwrite _ _ (xq_rng _ _) (xq_rng _ _) (st_write (σ2 := σ1) (z2 := 0) hJ h1).1.1 (st_write (σ2 := σ1) (z2 := 0) hJ h1).1.2.1 (st_write (σ2 := σ1) (z2 := 0) hJ h1).1.2.2) mv_L_143 rfl rfl (by decide) dL_law_1156 rfl rfl (Nat.le_of_ble_eq_true rfl) (fun z2 σ2 h2 => ?_)
  have hq := (st_write hJ h1).2 h2
  exact R_icmp_same hB 1201 hq.1 dL_law_1159 (by decide) (kk σ2 hq.2)
theorem lc_31 {Θ : Th} {Γ : Gm} {b L : Nat} {xs : Nat → Int32} (hW : LwB Θ Γ b L xs) {i : Int} (hi : 0 ≤ i ∧ i + 6 ≤ L) {σ : Mem} (hJ : JJ σ) (kk : ∀ σ', JJ σ' → Run Θ Γ 1201 (LL Θ b i) [] σ') : Run Θ Γ 1164 (LL Θ b i) [] σ := by
  have hB := hW.1
  refine R_aload_n hB (j := 1) dL_law_1164 rfl rfl ?_
  refine R_arg hW hi (j := 1) (by decide) dL_law_1165 dL_law_1166 dL_law_1167 dL_law_1168 dL_law_1169 ?_
  refine R_cV1 hB (s_count _ (xq_rng _ _) hJ.1) mv_L_144 rfl rfl (by decide) dL_law_1170 rfl rfl (Nat.le_of_ble_eq_true rfl) (fun z1 σ1 h1 => ?_)
  refine R_aload_n hB (j := 2) dL_law_1173 rfl rfl ?_
  refine R_arg hW hi (j := 1) (by decide) dL_law_1174 dL_law_1175 dL_law_1176 dL_law_1177 dL_law_1178 ?_
  refine R_cV1 hB (s_mcount _ (xq_rng _ _) (hJ.sc h1.1).1 (hJ.sc h1.1).2) mv_L_147 rfl rfl (by decide) dL_law_1179 rfl rfl (Nat.le_of_ble_eq_true rfl) (fun z2 σ2 h2 => ?_)
  have hq := st_count hJ h1 h2
  exact R_icmp_same hB 1201 hq.1 dL_law_1182 (by decide) (kk σ2 hq.2)
theorem lc_32 {Θ : Th} {Γ : Gm} {b L : Nat} {xs : Nat → Int32} (hW : LwB Θ Γ b L xs) {i : Int} (hi : 0 ≤ i ∧ i + 6 ≤ L) {σ : Mem} (hJ : JJ σ) (kk : ∀ σ', JJ σ' → Run Θ Γ 1201 (LL Θ b i) [] σ') : Run Θ Γ 1187 (LL Θ b i) [] σ := by
  have hB := hW.1
  refine R_aload_n hB (j := 1) dL_law_1187 rfl rfl ?_
  refine R_cV2 hB (s_digest hJ.1) mv_L_148 rfl rfl (by decide) dL_law_1188 rfl rfl (Nat.le_of_ble_eq_true rfl) (fun z1 σ1 h1 => ?_)
  refine R_aload_n hB (j := 2) dL_law_1191 rfl rfl ?_
  refine R_cV2 hB (s_mdigest (hJ.sc h1.1).1 (hJ.sc h1.1).2) mv_L_152 rfl rfl (by decide) dL_law_1192 rfl rfl (Nat.le_of_ble_eq_true rfl) (fun z2 σ2 h2 => ?_)
  have hq := st_digest hJ h1 h2
  refine R_lcmp_same hB hq.1 dL_law_1195 ?_
  exact R_if_eq hB 1201 (by decide) dL_law_1196 (by decide) (fun _ => kk σ2 hq.2) (fun q => absurd rfl q)
