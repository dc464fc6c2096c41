section LAWC
variable {p : Program} {l : Launch} {e : Env} {s : State} {m : MethodId} {below : List Frame} {meth : Method} {c : Code} {b L : Nat} {xs : Nat → Int32} {E : Env5} {nc ns : Nat}
theorem law_0 (C : LC p s m meth c b L xs E) {i : Nat} (hcs : nc ≤ 600000 ∧ ns ≤ 7302250) (hi : i + 6 ≤ L) {M : Mem} (hI : Inv M) (K : ∀ M, Inv M → ZL p l e s m below meth c b E nc ns 1183 (lv0 b E i) [] M) : ZL p l e s m below meth c b E nc ns 176 (lv0 b E i) [] M := by
  obtain ⟨v, M1, M2, h1, h2, hI⟩ := o_type hI (((xs (i + 1)).toInt64 <<< ((32 : Int32).toInt64 &&& 63)) ||| ((xs (i + 2)).toInt64 &&& 4294967295)) (xs (i + 3))
  refine ZL.al C (i := 1) dL_law_176 1 rfl ?_
  refine ZL.arg C dL_law_177 dL_law_178 (dL_law_179) dL_law_180 dL_law_181 hi (k := 1) (by decide) ?_
  refine ZL.i2l C dL_law_182 ?_
  refine ZL.bip C (v := 32) dL_law_183 (by decide) ?_
  refine ZL.lshl C dL_law_185 ?_
  refine ZL.arg C dL_law_186 dL_law_187 (dL_law_188) dL_law_189 dL_law_190 hi (k := 2) (by decide) ?_
  refine ZL.i2l C dL_law_191 ?_
  refine ZL.ldc2 C dL_law_192 kw1076 ?_
  refine ZL.land C dL_law_195 ?_
  refine ZL.lor C dL_law_196 ?_
  refine ZL.arg C dL_law_197 dL_law_198 (dL_law_199) dL_law_200 dL_law_201 hi (k := 3) (by decide) ?_
  refine ZL.call C (bb := 0) (ci := 4) (n := 2) (As := [.long (((xs (i + 1)).toInt64 <<< ((32 : Int32).toInt64 &&& 63)) ||| ((xs (i + 2)).toInt64 &&& 4294967295)), .int (xs (i + 3))]) dL_law_202 (kX4_type _ _ _ h1) kw192 kw193 kw194 kw1 kw195 ⟨by decide, by decide, by decide +kernel⟩ (by decide) rfl rfl (by decide) (by decide) rfl rfl (Nat.le_of_ble_eq_true rfl) rfl ?_ hcs
  refine ZL.al C (i := 2) dL_law_205 2 rfl ?_
  refine ZL.arg C dL_law_206 dL_law_207 (dL_law_208) dL_law_209 dL_law_210 hi (k := 1) (by decide) ?_
  refine ZL.i2l C dL_law_211 ?_
  refine ZL.bip C (v := 32) dL_law_212 (by decide) ?_
  refine ZL.lshl C dL_law_214 ?_
  refine ZL.arg C dL_law_215 dL_law_216 (dL_law_217) dL_law_218 dL_law_219 hi (k := 2) (by decide) ?_
  refine ZL.i2l C dL_law_220 ?_
  refine ZL.ldc2 C dL_law_221 kw1076 ?_
  refine ZL.land C dL_law_224 ?_
  refine ZL.lor C dL_law_225 ?_
  refine ZL.arg C dL_law_226 dL_law_227 (dL_law_228) dL_law_229 dL_law_230 hi (k := 3) (by decide) ?_
  refine ZL.call C (bb := 42) (ci := 5) (n := 2) (As := [.long (((xs (i + 1)).toInt64 <<< ((32 : Int32).toInt64 &&& 63)) ||| ((xs (i + 2)).toInt64 &&& 4294967295)), .int (xs (i + 3))]) dL_law_231 (kX5_type _ _ _ h2) kw794 kw795 kw796 kw7 kw797 ⟨by decide, by decide, by decide +kernel⟩ (by decide) rfl rfl (by decide) (by decide) rfl rfl (Nat.le_of_ble_eq_true rfl) rfl ?_ hcs
  exact ZL.ieq C dL_law_234 (K _ hI)
theorem law_1 (C : LC p s m meth c b L xs E) {i : Nat} (hcs : nc ≤ 600000 ∧ ns ≤ 7302250) (hi : i + 6 ≤ L) {M : Mem} (hI : Inv M) (K : ∀ M, Inv M → ZL p l e s m below meth c b E nc ns 1183 (lv0 b E i) [] M) : ZL p l e s m below meth c b E nc ns 239 (lv0 b E i) [] M := by
  obtain ⟨v, M1, M2, h1, h2, hI⟩ := o_clear hI 
  refine ZL.al C (i := 1) dL_law_239 1 rfl ?_
  refine ZL.call C (bb := 0) (ci := 4) (n := 0) (As := []) dL_law_240 (kX4_clear  _ h1) kw203 kw204 kw205 kw1 kw206 ⟨by decide, by decide, by decide +kernel⟩ (by decide) rfl rfl (by decide) (by decide) rfl rfl (Nat.le_of_ble_eq_true rfl) rfl ?_ hcs
  refine ZL.al C (i := 2) dL_law_243 2 rfl ?_
  refine ZL.call C (bb := 42) (ci := 5) (n := 0) (As := []) dL_law_244 (kX5_clear  _ h2) kw802 kw803 kw804 kw7 kw805 ⟨by decide, by decide, by decide +kernel⟩ (by decide) rfl rfl (by decide) (by decide) rfl rfl (Nat.le_of_ble_eq_true rfl) rfl ?_ hcs
  exact ZL.ieq C dL_law_247 (K _ hI)
theorem law_2 (C : LC p s m meth c b L xs E) {i : Nat} (hcs : nc ≤ 600000 ∧ ns ≤ 7302250) (hi : i + 6 ≤ L) {M : Mem} (hI : Inv M) (K : ∀ M, Inv M → ZL p l e s m below meth c b E nc ns 1183 (lv0 b E i) [] M) : ZL p l e s m below meth c b E nc ns 252 (lv0 b E i) [] M := by
  obtain ⟨v, M1, M2, h1, h2, hI⟩ := o_square hI 
  refine ZL.al C (i := 1) dL_law_252 1 rfl ?_
  refine ZL.call C (bb := 0) (ci := 4) (n := 0) (As := []) dL_law_253 (kX4_square  _ h1) kw207 kw208 kw209 kw1 kw210 ⟨by decide, by decide, by decide +kernel⟩ (by decide) rfl rfl (by decide) (by decide) rfl rfl (Nat.le_of_ble_eq_true rfl) rfl ?_ hcs
  refine ZL.al C (i := 2) dL_law_256 2 rfl ?_
  refine ZL.call C (bb := 42) (ci := 5) (n := 0) (As := []) dL_law_257 (kX5_square  _ h2) kw806 kw807 kw808 kw7 kw809 ⟨by decide, by decide, by decide +kernel⟩ (by decide) rfl rfl (by decide) (by decide) rfl rfl (Nat.le_of_ble_eq_true rfl) rfl ?_ hcs
  exact ZL.ieq C dL_law_260 (K _ hI)
theorem law_3 (C : LC p s m meth c b L xs E) {i : Nat} (hcs : nc ≤ 600000 ∧ ns ≤ 7302250) (hi : i + 6 ≤ L) {M : Mem} (hI : Inv M) (K : ∀ M, Inv M → ZL p l e s m below meth c b E nc ns 1183 (lv0 b E i) [] M) : ZL p l e s m below meth c b E nc ns 265 (lv0 b E i) [] M := by
  obtain ⟨v, h1, h2⟩ := o_wall hI (xs (i + 1)) (xs (i + 2))
  refine ZL.al C (i := 1) dL_law_265 1 rfl ?_
  refine ZL.arg C dL_law_266 dL_law_267 (dL_law_268) dL_law_269 dL_law_270 hi (k := 1) (by decide) ?_
  refine ZL.arg C dL_law_271 dL_law_272 (dL_law_273) dL_law_274 dL_law_275 hi (k := 2) (by decide) ?_
  refine ZL.call C (bb := 0) (ci := 4) (n := 2) (As := [.int (xs (i + 1)), .int (xs (i + 2))]) dL_law_276 (kX4_wall _ _ _ h1) kw325 kw326 kw327 kw1 kw328 ⟨by decide, by decide, by decide +kernel⟩ (by decide) rfl rfl (by decide) (by decide) rfl rfl (Nat.le_of_ble_eq_true rfl) rfl ?_ hcs
  refine ZL.al C (i := 2) dL_law_279 2 rfl ?_
  refine ZL.arg C dL_law_280 dL_law_281 (dL_law_282) dL_law_283 dL_law_284 hi (k := 1) (by decide) ?_
  refine ZL.arg C dL_law_285 dL_law_286 (dL_law_287) dL_law_288 dL_law_289 hi (k := 2) (by decide) ?_
  refine ZL.call C (bb := 42) (ci := 5) (n := 2) (As := [.int (xs (i + 1)), .int (xs (i + 2))]) dL_law_290 (kX5_wall _ _ _ h2) kw834 kw835 kw836 kw7 kw837 ⟨by decide, by decide, by decide +kernel⟩ (by decide) rfl rfl (by decide) (by decide) rfl rfl (Nat.le_of_ble_eq_true rfl) rfl ?_ hcs
  exact ZL.ieq C dL_law_293 (K _ hI)
theorem law_4 (C : LC p s m meth c b L xs E) {i : Nat} (hcs : nc ≤ 600000 ∧ ns ≤ 7302250) (hi : i + 6 ≤ L) {M : Mem} (hI : Inv M) (K : ∀ M, Inv M → ZL p l e s m below meth c b E nc ns 1183 (lv0 b E i) [] M) : ZL p l e s m below meth c b E nc ns 298 (lv0 b E i) [] M := by
  obtain ⟨v, h1, h2⟩ := o_person hI (xs (i + 1)) (xs (i + 2))
  refine ZL.al C (i := 1) dL_law_298 1 rfl ?_
  refine ZL.arg C dL_law_299 dL_law_300 (dL_law_301) dL_law_302 dL_law_303 hi (k := 1) (by decide) ?_
  refine ZL.arg C dL_law_304 dL_law_305 (dL_law_306) dL_law_307 dL_law_308 hi (k := 2) (by decide) ?_
  refine ZL.call C (bb := 0) (ci := 4) (n := 2) (As := [.int (xs (i + 1)), .int (xs (i + 2))]) dL_law_309 (kX4_person _ _ _ h1) kw334 kw335 kw336 kw1 kw337 ⟨by decide, by decide, by decide +kernel⟩ (by decide) rfl rfl (by decide) (by decide) rfl rfl (Nat.le_of_ble_eq_true rfl) rfl ?_ hcs
  refine ZL.al C (i := 2) dL_law_312 2 rfl ?_
  refine ZL.arg C dL_law_313 dL_law_314 (dL_law_315) dL_law_316 dL_law_317 hi (k := 1) (by decide) ?_
  refine ZL.arg C dL_law_318 dL_law_319 (dL_law_320) dL_law_321 dL_law_322 hi (k := 2) (by decide) ?_
  refine ZL.call C (bb := 42) (ci := 5) (n := 2) (As := [.int (xs (i + 1)), .int (xs (i + 2))]) dL_law_323 (kX5_person _ _ _ h2) kw846 kw847 kw848 kw7 kw849 ⟨by decide, by decide, by decide +kernel⟩ (by decide) rfl rfl (by decide) (by decide) rfl rfl (Nat.le_of_ble_eq_true rfl) rfl ?_ hcs
  exact ZL.ieq C dL_law_326 (K _ hI)
theorem law_5 (C : LC p s m meth c b L xs E) {i : Nat} (hcs : nc ≤ 600000 ∧ ns ≤ 7302250) (hi : i + 6 ≤ L) {M : Mem} (hI : Inv M) (K : ∀ M, Inv M → ZL p l e s m below meth c b E nc ns 1183 (lv0 b E i) [] M) : ZL p l e s m below meth c b E nc ns 331 (lv0 b E i) [] M := by
  obtain ⟨v, h1, h2⟩ := o_picture hI (xs (i + 1)) (xs (i + 2))
  refine ZL.al C (i := 1) dL_law_331 1 rfl ?_
  refine ZL.arg C dL_law_332 dL_law_333 (dL_law_334) dL_law_335 dL_law_336 hi (k := 1) (by decide) ?_
  refine ZL.arg C dL_law_337 dL_law_338 (dL_law_339) dL_law_340 dL_law_341 hi (k := 2) (by decide) ?_
  refine ZL.call C (bb := 0) (ci := 4) (n := 2) (As := [.int (xs (i + 1)), .int (xs (i + 2))]) dL_law_342 (kX4_picture _ _ _ h1) kw343 kw344 kw345 kw1 kw346 ⟨by decide, by decide, by decide +kernel⟩ (by decide) rfl rfl (by decide) (by decide) rfl rfl (Nat.le_of_ble_eq_true rfl) rfl ?_ hcs
  refine ZL.al C (i := 2) dL_law_345 2 rfl ?_
  refine ZL.arg C dL_law_346 dL_law_347 (dL_law_348) dL_law_349 dL_law_350 hi (k := 1) (by decide) ?_
  refine ZL.arg C dL_law_351 dL_law_352 (dL_law_353) dL_law_354 dL_law_355 hi (k := 2) (by decide) ?_
  refine ZL.call C (bb := 42) (ci := 5) (n := 2) (As := [.int (xs (i + 1)), .int (xs (i + 2))]) dL_law_356 (kX5_picture _ _ _ h2) kw854 kw855 kw856 kw7 kw857 ⟨by decide, by decide, by decide +kernel⟩ (by decide) rfl rfl (by decide) (by decide) rfl rfl (Nat.le_of_ble_eq_true rfl) rfl ?_ hcs
  exact ZL.ieq C dL_law_359 (K _ hI)
theorem law_6 (C : LC p s m meth c b L xs E) {i : Nat} (hcs : nc ≤ 600000 ∧ ns ≤ 7302250) (hi : i + 6 ≤ L) {M : Mem} (hI : Inv M) (K : ∀ M, Inv M → ZL p l e s m below meth c b E nc ns 1183 (lv0 b E i) [] M) : ZL p l e s m below meth c b E nc ns 364 (lv0 b E i) [] M := by
  obtain ⟨v, h1, h2⟩ := o_where hI (xs (i + 1)) (xs (i + 2))
  refine ZL.al C (i := 1) dL_law_364 1 rfl ?_
  refine ZL.arg C dL_law_365 dL_law_366 (dL_law_367) dL_law_368 dL_law_369 hi (k := 1) (by decide) ?_
  refine ZL.arg C dL_law_370 dL_law_371 (dL_law_372) dL_law_373 dL_law_374 hi (k := 2) (by decide) ?_
  refine ZL.call C (bb := 0) (ci := 4) (n := 2) (As := [.int (xs (i + 1)), .int (xs (i + 2))]) dL_law_375 (kX4_where _ _ _ h1) kw352 kw353 kw354 kw1 kw355 ⟨by decide, by decide, by decide +kernel⟩ (by decide) rfl rfl (by decide) (by decide) rfl rfl (Nat.le_of_ble_eq_true rfl) rfl ?_ hcs
  refine ZL.al C (i := 2) dL_law_378 2 rfl ?_
  refine ZL.arg C dL_law_379 dL_law_380 (dL_law_381) dL_law_382 dL_law_383 hi (k := 1) (by decide) ?_
  refine ZL.arg C dL_law_384 dL_law_385 (dL_law_386) dL_law_387 dL_law_388 hi (k := 2) (by decide) ?_
  refine ZL.call C (bb := 42) (ci := 5) (n := 2) (As := [.int (xs (i + 1)), .int (xs (i + 2))]) dL_law_389 (kX5_where _ _ _ h2) kw862 kw863 kw864 kw7 kw865 ⟨by decide, by decide, by decide +kernel⟩ (by decide) rfl rfl (by decide) (by decide) rfl rfl (Nat.le_of_ble_eq_true rfl) rfl ?_ hcs
  exact ZL.ieq C dL_law_392 (K _ hI)
theorem law_7 (C : LC p s m meth c b L xs E) {i : Nat} (hcs : nc ≤ 600000 ∧ ns ≤ 7302250) (hi : i + 6 ≤ L) {M : Mem} (hI : Inv M) (K : ∀ M, Inv M → ZL p l e s m below meth c b E nc ns 1183 (lv0 b E i) [] M) : ZL p l e s m below meth c b E nc ns 397 (lv0 b E i) [] M := by
  obtain ⟨v, M1, h1, h2, hI⟩ := o_on hI (xs (i + 1)) (xs (i + 2)) (xs (i + 3))
  refine ZL.al C (i := 1) dL_law_397 1 rfl ?_
  refine ZL.arg C dL_law_398 dL_law_399 (dL_law_400) dL_law_401 dL_law_402 hi (k := 1) (by decide) ?_
  refine ZL.arg C dL_law_403 dL_law_404 (dL_law_405) dL_law_406 dL_law_407 hi (k := 2) (by decide) ?_
  refine ZL.arg C dL_law_408 dL_law_409 (dL_law_410) dL_law_411 dL_law_412 hi (k := 3) (by decide) ?_
  refine ZL.call C (bb := 0) (ci := 4) (n := 3) (As := [.int (xs (i + 1)), .int (xs (i + 2)), .int (xs (i + 3))]) dL_law_413 (kX4_on _ _ _ _ h1) kw357 kw358 kw359 kw1 kw360 ⟨by decide, by decide, by decide +kernel⟩ (by decide) rfl rfl (by decide) (by decide) rfl rfl (Nat.le_of_ble_eq_true rfl) rfl ?_ hcs
  refine ZL.al C (i := 2) dL_law_416 2 rfl ?_
  refine ZL.arg C dL_law_417 dL_law_418 (dL_law_419) dL_law_420 dL_law_421 hi (k := 1) (by decide) ?_
  refine ZL.arg C dL_law_422 dL_law_423 (dL_law_424) dL_law_425 dL_law_426 hi (k := 2) (by decide) ?_
  refine ZL.arg C dL_law_427 dL_law_428 (dL_law_429) dL_law_430 dL_law_431 hi (k := 3) (by decide) ?_
  refine ZL.call C (bb := 42) (ci := 5) (n := 3) (As := [.int (xs (i + 1)), .int (xs (i + 2)), .int (xs (i + 3))]) dL_law_432 (kX5_on _ _ _ _ h2) kw876 kw877 kw878 kw7 kw879 ⟨by decide, by decide, by decide +kernel⟩ (by decide) rfl rfl (by decide) (by decide) rfl rfl (Nat.le_of_ble_eq_true rfl) rfl ?_ hcs
  exact ZL.ieq C dL_law_435 (K _ hI)
theorem law_8 (C : LC p s m meth c b L xs E) {i : Nat} (hcs : nc ≤ 600000 ∧ ns ≤ 7302250) (hi : i + 6 ≤ L) {M : Mem} (hI : Inv M) (K : ∀ M, Inv M → ZL p l e s m below meth c b E nc ns 1183 (lv0 b E i) [] M) : ZL p l e s m below meth c b E nc ns 440 (lv0 b E i) [] M := by
  obtain ⟨v, M2, h1, h2, hI⟩ := o_shows hI (xs (i + 1))
  refine ZL.al C (i := 1) dL_law_440 1 rfl ?_
  refine ZL.arg C dL_law_441 dL_law_442 (dL_law_443) dL_law_444 dL_law_445 hi (k := 1) (by decide) ?_
  refine ZL.call C (bb := 0) (ci := 4) (n := 1) (As := [.int (xs (i + 1))]) dL_law_446 (kX4_shows _ _ h1) kw365 kw366 kw367 kw1 kw368 ⟨by decide, by decide, by decide +kernel⟩ (by decide) rfl rfl (by decide) (by decide) rfl rfl (Nat.le_of_ble_eq_true rfl) rfl ?_ hcs
  refine ZL.al C (i := 2) dL_law_449 2 rfl ?_
  refine ZL.arg C dL_law_450 dL_law_451 (dL_law_452) dL_law_453 dL_law_454 hi (k := 1) (by decide) ?_
  refine ZL.call C (bb := 42) (ci := 5) (n := 1) (As := [.int (xs (i + 1))]) dL_law_455 (kX5_shows _ _ h2) kw884 kw885 kw886 kw7 kw887 ⟨by decide, by decide, by decide +kernel⟩ (by decide) rfl rfl (by decide) (by decide) rfl rfl (Nat.le_of_ble_eq_true rfl) rfl ?_ hcs
  exact ZL.ieq C dL_law_458 (K _ hI)
theorem law_9 (C : LC p s m meth c b L xs E) {i : Nat} (hcs : nc ≤ 600000 ∧ ns ≤ 7302250) (hi : i + 6 ≤ L) {M : Mem} (hI : Inv M) (K : ∀ M, Inv M → ZL p l e s m below meth c b E nc ns 1183 (lv0 b E i) [] M) : ZL p l e s m below meth c b E nc ns 463 (lv0 b E i) [] M := by
  obtain ⟨v, M1, M2, h1, h2, hI⟩ := o_view hI (xs (i + 1)) (xs (i + 2)) (xs (i + 3)) (xs (i + 4)) (xs (i + 5))
  refine ZL.al C (i := 1) dL_law_463 1 rfl ?_
  refine ZL.arg C dL_law_464 dL_law_465 (dL_law_466) dL_law_467 dL_law_468 hi (k := 1) (by decide) ?_
  refine ZL.arg C dL_law_469 dL_law_470 (dL_law_471) dL_law_472 dL_law_473 hi (k := 2) (by decide) ?_
  refine ZL.arg C dL_law_474 dL_law_475 (dL_law_476) dL_law_477 dL_law_478 hi (k := 3) (by decide) ?_
  refine ZL.arg C dL_law_479 dL_law_480 (dL_law_481) dL_law_482 dL_law_483 hi (k := 4) (by decide) ?_
  refine ZL.arg C dL_law_484 dL_law_485 (dL_law_486) dL_law_487 dL_law_488 hi (k := 5) (by decide) ?_
  refine ZL.call C (bb := 0) (ci := 4) (n := 5) (As := [.int (xs (i + 1)), .int (xs (i + 2)), .int (xs (i + 3)), .int (xs (i + 4)), .int (xs (i + 5))]) dL_law_489 (kX4_view _ _ _ _ _ _ h1) kw369 kw370 kw371 kw1 kw372 ⟨by decide, by decide, by decide +kernel⟩ (by decide) rfl rfl (by decide) (by decide) rfl rfl (Nat.le_of_ble_eq_true rfl) rfl ?_ hcs
  refine ZL.al C (i := 2) dL_law_492 2 rfl ?_
  refine ZL.arg C dL_law_493 dL_law_494 (dL_law_495) dL_law_496 dL_law_497 hi (k := 1) (by decide) ?_
  refine ZL.arg C dL_law_498 dL_law_499 (dL_law_500) dL_law_501 dL_law_502 hi (k := 2) (by decide) ?_
  refine ZL.arg C dL_law_503 dL_law_504 (dL_law_505) dL_law_506 dL_law_507 hi (k := 3) (by decide) ?_
  refine ZL.arg C dL_law_508 dL_law_509 (dL_law_510) dL_law_511 dL_law_512 hi (k := 4) (by decide) ?_
  refine ZL.arg C dL_law_513 dL_law_514 (dL_law_515) dL_law_516 dL_law_517 hi (k := 5) (by decide) ?_
  refine ZL.call C (bb := 42) (ci := 5) (n := 5) (As := [.int (xs (i + 1)), .int (xs (i + 2)), .int (xs (i + 3)), .int (xs (i + 4)), .int (xs (i + 5))]) dL_law_518 (kX5_view _ _ _ _ _ _ h2) kw916 kw917 kw918 kw7 kw919 ⟨by decide, by decide, by decide +kernel⟩ (by decide) rfl rfl (by decide) (by decide) rfl rfl (Nat.le_of_ble_eq_true rfl) rfl ?_ hcs
  exact ZL.ieq C dL_law_521 (K _ hI)
theorem law_10 (C : LC p s m meth c b L xs E) {i : Nat} (hcs : nc ≤ 600000 ∧ ns ≤ 7302250) (hi : i + 6 ≤ L) {M : Mem} (hI : Inv M) (K : ∀ M, Inv M → ZL p l e s m below meth c b E nc ns 1183 (lv0 b E i) [] M) : ZL p l e s m below meth c b E nc ns 526 (lv0 b E i) [] M := by
  obtain ⟨v, M1, M2, h1, h2, hI⟩ := o_hidden hI (xs (i + 1)) (xs (i + 2))
  refine ZL.al C (i := 1) dL_law_526 1 rfl ?_
  refine ZL.arg C dL_law_527 dL_law_528 (dL_law_529) dL_law_530 dL_law_531 hi (k := 1) (by decide) ?_
  refine ZL.arg C dL_law_532 dL_law_533 (dL_law_534) dL_law_535 dL_law_536 hi (k := 2) (by decide) ?_
  refine ZL.call C (bb := 0) (ci := 4) (n := 2) (As := [.int (xs (i + 1)), .int (xs (i + 2))]) dL_law_537 (kX4_hidden _ _ _ h1) kw374 kw375 kw376 kw1 kw377 ⟨by decide, by decide, by decide +kernel⟩ (by decide) rfl rfl (by decide) (by decide) rfl rfl (Nat.le_of_ble_eq_true rfl) rfl ?_ hcs
  refine ZL.al C (i := 2) dL_law_540 2 rfl ?_
  refine ZL.arg C dL_law_541 dL_law_542 (dL_law_543) dL_law_544 dL_law_545 hi (k := 1) (by decide) ?_
  refine ZL.arg C dL_law_546 dL_law_547 (dL_law_548) dL_law_549 dL_law_550 hi (k := 2) (by decide) ?_
  refine ZL.call C (bb := 42) (ci := 5) (n := 2) (As := [.int (xs (i + 1)), .int (xs (i + 2))]) dL_law_551 (kX5_hidden _ _ _ h2) kw920 kw921 kw922 kw7 kw923 ⟨by decide, by decide, by decide +kernel⟩ (by decide) rfl rfl (by decide) (by decide) rfl rfl (Nat.le_of_ble_eq_true rfl) rfl ?_ hcs
  exact ZL.ieq C dL_law_554 (K _ hI)
theorem law_11 (C : LC p s m meth c b L xs E) {i : Nat} (hcs : nc ≤ 600000 ∧ ns ≤ 7302250) (hi : i + 6 ≤ L) {M : Mem} (hI : Inv M) (K : ∀ M, Inv M → ZL p l e s m below meth c b E nc ns 1183 (lv0 b E i) [] M) : ZL p l e s m below meth c b E nc ns 559 (lv0 b E i) [] M := by
  obtain ⟨v, M1, M2, h1, h2, hI⟩ := o_from hI (xs (i + 1)) (xs (i + 2)) (xs (i + 3)) (xs (i + 4))
  refine ZL.al C (i := 1) dL_law_559 1 rfl ?_
  refine ZL.arg C dL_law_560 dL_law_561 (dL_law_562) dL_law_563 dL_law_564 hi (k := 1) (by decide) ?_
  refine ZL.arg C dL_law_565 dL_law_566 (dL_law_567) dL_law_568 dL_law_569 hi (k := 2) (by decide) ?_
  refine ZL.arg C dL_law_570 dL_law_571 (dL_law_572) dL_law_573 dL_law_574 hi (k := 3) (by decide) ?_
  refine ZL.arg C dL_law_575 dL_law_576 (dL_law_577) dL_law_578 dL_law_579 hi (k := 4) (by decide) ?_
  refine ZL.call C (bb := 0) (ci := 4) (n := 4) (As := [.int (xs (i + 1)), .int (xs (i + 2)), .int (xs (i + 3)), .int (xs (i + 4))]) dL_law_580 (kX4_from _ _ _ _ _ h1) kw382 kw383 kw384 kw1 kw385 ⟨by decide, by decide, by decide +kernel⟩ (by decide) rfl rfl (by decide) (by decide) rfl rfl (Nat.le_of_ble_eq_true rfl) rfl ?_ hcs
  refine ZL.al C (i := 2) dL_law_583 2 rfl ?_
  refine ZL.arg C dL_law_584 dL_law_585 (dL_law_586) dL_law_587 dL_law_588 hi (k := 1) (by decide) ?_
  refine ZL.arg C dL_law_589 dL_law_590 (dL_law_591) dL_law_592 dL_law_593 hi (k := 2) (by decide) ?_
  refine ZL.arg C dL_law_594 dL_law_595 (dL_law_596) dL_law_597 dL_law_598 hi (k := 3) (by decide) ?_
  refine ZL.arg C dL_law_599 dL_law_600 (dL_law_601) dL_law_602 dL_law_603 hi (k := 4) (by decide) ?_
  refine ZL.call C (bb := 42) (ci := 5) (n := 4) (As := [.int (xs (i + 1)), .int (xs (i + 2)), .int (xs (i + 3)), .int (xs (i + 4))]) dL_law_604 (kX5_from _ _ _ _ _ h2) kw928 kw929 kw930 kw7 kw931 ⟨by decide, by decide, by decide +kernel⟩ (by decide) rfl rfl (by decide) (by decide) rfl rfl (Nat.le_of_ble_eq_true rfl) rfl ?_ hcs
  exact ZL.ieq C dL_law_607 (K _ hI)
theorem law_12 (C : LC p s m meth c b L xs E) {i : Nat} (hcs : nc ≤ 600000 ∧ ns ≤ 7302250) (hi : i + 6 ≤ L) {M : Mem} (hI : Inv M) (K : ∀ M, Inv M → ZL p l e s m below meth c b E nc ns 1183 (lv0 b E i) [] M) : ZL p l e s m below meth c b E nc ns 612 (lv0 b E i) [] M := by
  obtain ⟨v, M1, M2, h1, h2, hI⟩ := o_fact hI (xs (i + 1)) (xs (i + 2)) (xs (i + 3)) (xs (i + 4))
  refine ZL.al C (i := 1) dL_law_612 1 rfl ?_
  refine ZL.arg C dL_law_613 dL_law_614 (dL_law_615) dL_law_616 dL_law_617 hi (k := 1) (by decide) ?_
  refine ZL.arg C dL_law_618 dL_law_619 (dL_law_620) dL_law_621 dL_law_622 hi (k := 2) (by decide) ?_
  refine ZL.arg C dL_law_623 dL_law_624 (dL_law_625) dL_law_626 dL_law_627 hi (k := 3) (by decide) ?_
  refine ZL.arg C dL_law_628 dL_law_629 (dL_law_630) dL_law_631 dL_law_632 hi (k := 4) (by decide) ?_
  refine ZL.call C (bb := 0) (ci := 4) (n := 4) (As := [.int (xs (i + 1)), .int (xs (i + 2)), .int (xs (i + 3)), .int (xs (i + 4))]) dL_law_633 (kX4_fact _ _ _ _ _ h1) kw402 kw403 kw404 kw1 kw405 ⟨by decide, by decide, by decide +kernel⟩ (by decide) rfl rfl (by decide) (by decide) rfl rfl (Nat.le_of_ble_eq_true rfl) rfl ?_ hcs
  refine ZL.al C (i := 2) dL_law_636 2 rfl ?_
  refine ZL.arg C dL_law_637 dL_law_638 (dL_law_639) dL_law_640 dL_law_641 hi (k := 1) (by decide) ?_
  refine ZL.arg C dL_law_642 dL_law_643 (dL_law_644) dL_law_645 dL_law_646 hi (k := 2) (by decide) ?_
  refine ZL.arg C dL_law_647 dL_law_648 (dL_law_649) dL_law_650 dL_law_651 hi (k := 3) (by decide) ?_
  refine ZL.arg C dL_law_652 dL_law_653 (dL_law_654) dL_law_655 dL_law_656 hi (k := 4) (by decide) ?_
  refine ZL.call C (bb := 42) (ci := 5) (n := 4) (As := [.int (xs (i + 1)), .int (xs (i + 2)), .int (xs (i + 3)), .int (xs (i + 4))]) dL_law_657 (kX5_fact _ _ _ _ _ h2) kw936 kw937 kw938 kw7 kw939 ⟨by decide, by decide, by decide +kernel⟩ (by decide) rfl rfl (by decide) (by decide) rfl rfl (Nat.le_of_ble_eq_true rfl) rfl ?_ hcs
  exact ZL.ieq C dL_law_660 (K _ hI)
theorem law_13 (C : LC p s m meth c b L xs E) {i : Nat} (hcs : nc ≤ 600000 ∧ ns ≤ 7302250) (hi : i + 6 ≤ L) {M : Mem} (hI : Inv M) (K : ∀ M, Inv M → ZL p l e s m below meth c b E nc ns 1183 (lv0 b E i) [] M) : ZL p l e s m below meth c b E nc ns 665 (lv0 b E i) [] M := by
  obtain ⟨v, M1, M2, h1, h2, hI⟩ := o_right hI (xs (i + 1))
  refine ZL.al C (i := 1) dL_law_665 1 rfl ?_
  refine ZL.arg C dL_law_666 dL_law_667 (dL_law_668) dL_law_669 dL_law_670 hi (k := 1) (by decide) ?_
  refine ZL.call C (bb := 0) (ci := 4) (n := 1) (As := [.int (xs (i + 1))]) dL_law_671 (kX4_right _ _ h1) kw413 kw414 kw415 kw1 kw416 ⟨by decide, by decide, by decide +kernel⟩ (by decide) rfl rfl (by decide) (by decide) rfl rfl (Nat.le_of_ble_eq_true rfl) rfl ?_ hcs
  refine ZL.al C (i := 2) dL_law_674 2 rfl ?_
  refine ZL.arg C dL_law_675 dL_law_676 (dL_law_677) dL_law_678 dL_law_679 hi (k := 1) (by decide) ?_
  refine ZL.call C (bb := 42) (ci := 5) (n := 1) (As := [.int (xs (i + 1))]) dL_law_680 (kX5_right _ _ h2) kw940 kw941 kw942 kw7 kw943 ⟨by decide, by decide, by decide +kernel⟩ (by decide) rfl rfl (by decide) (by decide) rfl rfl (Nat.le_of_ble_eq_true rfl) rfl ?_ hcs
  exact ZL.ieq C dL_law_683 (K _ hI)
theorem law_14 (C : LC p s m meth c b L xs E) {i : Nat} (hcs : nc ≤ 600000 ∧ ns ≤ 7302250) (hi : i + 6 ≤ L) {M : Mem} (hI : Inv M) (K : ∀ M, Inv M → ZL p l e s m below meth c b E nc ns 1183 (lv0 b E i) [] M) : ZL p l e s m below meth c b E nc ns 688 (lv0 b E i) [] M := by
  obtain ⟨v, M1, M2, h1, h2, hI⟩ := o_seen hI (xs (i + 1)) (xs (i + 2)) (xs (i + 3)) (xs (i + 4))
  refine ZL.al C (i := 1) dL_law_688 1 rfl ?_
  refine ZL.arg C dL_law_689 dL_law_690 (dL_law_691) dL_law_692 dL_law_693 hi (k := 1) (by decide) ?_
  refine ZL.arg C dL_law_694 dL_law_695 (dL_law_696) dL_law_697 dL_law_698 hi (k := 2) (by decide) ?_
  refine ZL.arg C dL_law_699 dL_law_700 (dL_law_701) dL_law_702 dL_law_703 hi (k := 3) (by decide) ?_
  refine ZL.arg C dL_law_704 dL_law_705 (dL_law_706) dL_law_707 dL_law_708 hi (k := 4) (by decide) ?_
  refine ZL.call C (bb := 0) (ci := 4) (n := 4) (As := [.int (xs (i + 1)), .int (xs (i + 2)), .int (xs (i + 3)), .int (xs (i + 4))]) dL_law_709 (kX4_seen _ _ _ _ _ h1) kw451 kw452 kw453 kw1 kw454 ⟨by decide, by decide, by decide +kernel⟩ (by decide) rfl rfl (by decide) (by decide) rfl rfl (Nat.le_of_ble_eq_true rfl) rfl ?_ hcs
  refine ZL.al C (i := 2) dL_law_712 2 rfl ?_
  refine ZL.arg C dL_law_713 dL_law_714 (dL_law_715) dL_law_716 dL_law_717 hi (k := 1) (by decide) ?_
  refine ZL.arg C dL_law_718 dL_law_719 (dL_law_720) dL_law_721 dL_law_722 hi (k := 2) (by decide) ?_
  refine ZL.arg C dL_law_723 dL_law_724 (dL_law_725) dL_law_726 dL_law_727 hi (k := 3) (by decide) ?_
  refine ZL.arg C dL_law_728 dL_law_729 (dL_law_730) dL_law_731 dL_law_732 hi (k := 4) (by decide) ?_
  refine ZL.call C (bb := 42) (ci := 5) (n := 4) (As := [.int (xs (i + 1)), .int (xs (i + 2)), .int (xs (i + 3)), .int (xs (i + 4))]) dL_law_733 (kX5_seen _ _ _ _ _ h2) kw950 kw951 kw952 kw7 kw953 ⟨by decide, by decide, by decide +kernel⟩ (by decide) rfl rfl (by decide) (by decide) rfl rfl (Nat.le_of_ble_eq_true rfl) rfl ?_ hcs
  exact ZL.ieq C dL_law_736 (K _ hI)
theorem law_15 (C : LC p s m meth c b L xs E) {i : Nat} (hcs : nc ≤ 600000 ∧ ns ≤ 7302250) (hi : i + 6 ≤ L) {M : Mem} (hI : Inv M) (K : ∀ M, Inv M → ZL p l e s m below meth c b E nc ns 1183 (lv0 b E i) [] M) : ZL p l e s m below meth c b E nc ns 741 (lv0 b E i) [] M := by
  obtain ⟨v, M1, M2, h1, h2, hI⟩ := o_joined hI 
  refine ZL.al C (i := 1) dL_law_741 1 rfl ?_
  refine ZL.call C (bb := 0) (ci := 4) (n := 0) (As := []) dL_law_742 (kX4_joined  _ h1) kw459 kw460 kw461 kw1 kw462 ⟨by decide, by decide, by decide +kernel⟩ (by decide) rfl rfl (by decide) (by decide) rfl rfl (Nat.le_of_ble_eq_true rfl) rfl ?_ hcs
  refine ZL.al C (i := 2) dL_law_745 2 rfl ?_
  refine ZL.call C (bb := 42) (ci := 5) (n := 0) (As := []) dL_law_746 (kX5_joined  _ h2) kw954 kw955 kw956 kw7 kw957 ⟨by decide, by decide, by decide +kernel⟩ (by decide) rfl rfl (by decide) (by decide) rfl rfl (Nat.le_of_ble_eq_true rfl) rfl ?_ hcs
  exact ZL.ieq C dL_law_749 (K _ hI)
theorem law_16 (C : LC p s m meth c b L xs E) {i : Nat} (hcs : nc ≤ 600000 ∧ ns ≤ 7302250) (hi : i + 6 ≤ L) {M : Mem} (hI : Inv M) (K : ∀ M, Inv M → ZL p l e s m below meth c b E nc ns 1183 (lv0 b E i) [] M) : ZL p l e s m below meth c b E nc ns 754 (lv0 b E i) [] M := by
  obtain ⟨v, M1, M2, h1, h2, hI⟩ := o_forget hI 
  refine ZL.al C (i := 1) dL_law_754 1 rfl ?_
  refine ZL.call C (bb := 0) (ci := 4) (n := 0) (As := []) dL_law_755 (kX4_forget  _ h1) kw490 kw491 kw492 kw1 kw493 ⟨by decide, by decide, by decide +kernel⟩ (by decide) rfl rfl (by decide) (by decide) rfl rfl (Nat.le_of_ble_eq_true rfl) rfl ?_ hcs
  refine ZL.al C (i := 2) dL_law_758 2 rfl ?_
  refine ZL.call C (bb := 42) (ci := 5) (n := 0) (As := []) dL_law_759 (kX5_forget  _ h2) kw969 kw970 kw971 kw7 kw972 ⟨by decide, by decide, by decide +kernel⟩ (by decide) rfl rfl (by decide) (by decide) rfl rfl (Nat.le_of_ble_eq_true rfl) rfl ?_ hcs
  exact ZL.ieq C dL_law_762 (K _ hI)
theorem law_17 (C : LC p s m meth c b L xs E) {i : Nat} (hcs : nc ≤ 600000 ∧ ns ≤ 7302250) (hi : i + 6 ≤ L) {M : Mem} (hI : Inv M) (K : ∀ M, Inv M → ZL p l e s m below meth c b E nc ns 1183 (lv0 b E i) [] M) : ZL p l e s m below meth c b E nc ns 767 (lv0 b E i) [] M := by
  obtain ⟨v, M2, h1, h2, hI⟩ := o_all hI (xs (i + 1)) (xs (i + 2)) (xs (i + 3))
  refine ZL.al C (i := 1) dL_law_767 1 rfl ?_
  refine ZL.arg C dL_law_768 dL_law_769 (dL_law_770) dL_law_771 dL_law_772 hi (k := 1) (by decide) ?_
  refine ZL.arg C dL_law_773 dL_law_774 (dL_law_775) dL_law_776 dL_law_777 hi (k := 2) (by decide) ?_
  refine ZL.arg C dL_law_778 dL_law_779 (dL_law_780) dL_law_781 dL_law_782 hi (k := 3) (by decide) ?_
  refine ZL.call C (bb := 0) (ci := 4) (n := 3) (As := [.int (xs (i + 1)), .int (xs (i + 2)), .int (xs (i + 3))]) dL_law_783 (kX4_all _ _ _ _ h1) kw494 kw495 kw496 kw1 kw497 ⟨by decide, by decide, by decide +kernel⟩ (by decide) rfl rfl (by decide) (by decide) rfl rfl (Nat.le_of_ble_eq_true rfl) rfl ?_ hcs
  refine ZL.al C (i := 2) dL_law_786 2 rfl ?_
  refine ZL.arg C dL_law_787 dL_law_788 (dL_law_789) dL_law_790 dL_law_791 hi (k := 1) (by decide) ?_
  refine ZL.arg C dL_law_792 dL_law_793 (dL_law_794) dL_law_795 dL_law_796 hi (k := 2) (by decide) ?_
  refine ZL.arg C dL_law_797 dL_law_798 (dL_law_799) dL_law_800 dL_law_801 hi (k := 3) (by decide) ?_
  refine ZL.call C (bb := 42) (ci := 5) (n := 3) (As := [.int (xs (i + 1)), .int (xs (i + 2)), .int (xs (i + 3))]) dL_law_802 (kX5_all _ _ _ _ h2) kw973 kw974 kw975 kw7 kw976 ⟨by decide, by decide, by decide +kernel⟩ (by decide) rfl rfl (by decide) (by decide) rfl rfl (Nat.le_of_ble_eq_true rfl) rfl ?_ hcs
  exact ZL.ieq C dL_law_805 (K _ hI)
theorem law_18 (C : LC p s m meth c b L xs E) {i : Nat} (hcs : nc ≤ 600000 ∧ ns ≤ 7302250) (hi : i + 6 ≤ L) {M : Mem} (hI : Inv M) (K : ∀ M, Inv M → ZL p l e s m below meth c b E nc ns 1183 (lv0 b E i) [] M) : ZL p l e s m below meth c b E nc ns 810 (lv0 b E i) [] M := by
  obtain ⟨v, M1, M2, h1, h2, hI⟩ := o_has hI (xs (i + 1)) (xs (i + 2))
  refine ZL.al C (i := 1) dL_law_810 1 rfl ?_
  refine ZL.arg C dL_law_811 dL_law_812 (dL_law_813) dL_law_814 dL_law_815 hi (k := 1) (by decide) ?_
  refine ZL.arg C dL_law_816 dL_law_817 (dL_law_818) dL_law_819 dL_law_820 hi (k := 2) (by decide) ?_
  refine ZL.call C (bb := 0) (ci := 4) (n := 2) (As := [.int (xs (i + 1)), .int (xs (i + 2))]) dL_law_821 (kX4_has _ _ _ h1) kw504 kw505 kw506 kw1 kw507 ⟨by decide, by decide, by decide +kernel⟩ (by decide) rfl rfl (by decide) (by decide) rfl rfl (Nat.le_of_ble_eq_true rfl) rfl ?_ hcs
  refine ZL.al C (i := 2) dL_law_824 2 rfl ?_
  refine ZL.arg C dL_law_825 dL_law_826 (dL_law_827) dL_law_828 dL_law_829 hi (k := 1) (by decide) ?_
  refine ZL.arg C dL_law_830 dL_law_831 (dL_law_832) dL_law_833 dL_law_834 hi (k := 2) (by decide) ?_
  refine ZL.call C (bb := 42) (ci := 5) (n := 2) (As := [.int (xs (i + 1)), .int (xs (i + 2))]) dL_law_835 (kX5_has _ _ _ h2) kw983 kw984 kw985 kw7 kw986 ⟨by decide, by decide, by decide +kernel⟩ (by decide) rfl rfl (by decide) (by decide) rfl rfl (Nat.le_of_ble_eq_true rfl) rfl ?_ hcs
  exact ZL.ieq C dL_law_838 (K _ hI)
theorem law_19 (C : LC p s m meth c b L xs E) {i : Nat} (hcs : nc ≤ 600000 ∧ ns ≤ 7302250) (hi : i + 6 ≤ L) {M : Mem} (hI : Inv M) (K : ∀ M, Inv M → ZL p l e s m below meth c b E nc ns 1183 (lv0 b E i) [] M) : ZL p l e s m below meth c b E nc ns 843 (lv0 b E i) [] M := by
  obtain ⟨v, h1, h2⟩ := o_hat hI (xs (i + 1))
  refine ZL.al C (i := 1) dL_law_843 1 rfl ?_
  refine ZL.arg C dL_law_844 dL_law_845 (dL_law_846) dL_law_847 dL_law_848 hi (k := 1) (by decide) ?_
  refine ZL.call C (bb := 0) (ci := 4) (n := 1) (As := [.int (xs (i + 1))]) dL_law_849 (kX4_hat _ _ h1) kw508 kw509 kw510 kw1 kw511 ⟨by decide, by decide, by decide +kernel⟩ (by decide) rfl rfl (by decide) (by decide) rfl rfl (Nat.le_of_ble_eq_true rfl) rfl ?_ hcs
  refine ZL.al C (i := 2) dL_law_852 2 rfl ?_
  refine ZL.arg C dL_law_853 dL_law_854 (dL_law_855) dL_law_856 dL_law_857 hi (k := 1) (by decide) ?_
  refine ZL.call C (bb := 42) (ci := 5) (n := 1) (As := [.int (xs (i + 1))]) dL_law_858 (kX5_hat _ _ h2) kw987 kw988 kw989 kw7 kw990 ⟨by decide, by decide, by decide +kernel⟩ (by decide) rfl rfl (by decide) (by decide) rfl rfl (Nat.le_of_ble_eq_true rfl) rfl ?_ hcs
  exact ZL.ieq C dL_law_861 (K _ hI)
theorem law_20 (C : LC p s m meth c b L xs E) {i : Nat} (hcs : nc ≤ 600000 ∧ ns ≤ 7302250) (hi : i + 6 ≤ L) {M : Mem} (hI : Inv M) (K : ∀ M, Inv M → ZL p l e s m below meth c b E nc ns 1183 (lv0 b E i) [] M) : ZL p l e s m below meth c b E nc ns 866 (lv0 b E i) [] M := by
  obtain ⟨v, M1, h1, h2, hI⟩ := o_near hI (xs (i + 1)) (xs (i + 2)) (xs (i + 3))
  refine ZL.al C (i := 1) dL_law_866 1 rfl ?_
  refine ZL.arg C dL_law_867 dL_law_868 (dL_law_869) dL_law_870 dL_law_871 hi (k := 1) (by decide) ?_
  refine ZL.arg C dL_law_872 dL_law_873 (dL_law_874) dL_law_875 dL_law_876 hi (k := 2) (by decide) ?_
  refine ZL.arg C dL_law_877 dL_law_878 (dL_law_879) dL_law_880 dL_law_881 hi (k := 3) (by decide) ?_
  refine ZL.call C (bb := 0) (ci := 4) (n := 3) (As := [.int (xs (i + 1)), .int (xs (i + 2)), .int (xs (i + 3))]) dL_law_882 (kX4_near _ _ _ _ h1) kw520 kw521 kw522 kw1 kw523 ⟨by decide, by decide, by decide +kernel⟩ (by decide) rfl rfl (by decide) (by decide) rfl rfl (Nat.le_of_ble_eq_true rfl) rfl ?_ hcs
  refine ZL.al C (i := 2) dL_law_885 2 rfl ?_
  refine ZL.arg C dL_law_886 dL_law_887 (dL_law_888) dL_law_889 dL_law_890 hi (k := 1) (by decide) ?_
  refine ZL.arg C dL_law_891 dL_law_892 (dL_law_893) dL_law_894 dL_law_895 hi (k := 2) (by decide) ?_
  refine ZL.arg C dL_law_896 dL_law_897 (dL_law_898) dL_law_899 dL_law_900 hi (k := 3) (by decide) ?_
  refine ZL.call C (bb := 42) (ci := 5) (n := 3) (As := [.int (xs (i + 1)), .int (xs (i + 2)), .int (xs (i + 3))]) dL_law_901 (kX5_near _ _ _ _ h2) kw999 kw1000 kw1001 kw7 kw1002 ⟨by decide, by decide, by decide +kernel⟩ (by decide) rfl rfl (by decide) (by decide) rfl rfl (Nat.le_of_ble_eq_true rfl) rfl ?_ hcs
  exact ZL.ieq C dL_law_904 (K _ hI)
theorem law_21 (C : LC p s m meth c b L xs E) {i : Nat} (hcs : nc ≤ 600000 ∧ ns ≤ 7302250) (hi : i + 6 ≤ L) {M : Mem} (hI : Inv M) (K : ∀ M, Inv M → ZL p l e s m below meth c b E nc ns 1183 (lv0 b E i) [] M) : ZL p l e s m below meth c b E nc ns 909 (lv0 b E i) [] M := by
  obtain ⟨v, M1, M2, h1, h2, hI⟩ := o_empty hI (xs (i + 1)) (xs (i + 2))
  refine ZL.al C (i := 1) dL_law_909 1 rfl ?_
  refine ZL.arg C dL_law_910 dL_law_911 (dL_law_912) dL_law_913 dL_law_914 hi (k := 1) (by decide) ?_
  refine ZL.arg C dL_law_915 dL_law_916 (dL_law_917) dL_law_918 dL_law_919 hi (k := 2) (by decide) ?_
  refine ZL.call C (bb := 0) (ci := 4) (n := 2) (As := [.int (xs (i + 1)), .int (xs (i + 2))]) dL_law_920 (kX4_empty _ _ _ h1) kw530 kw531 kw532 kw1 kw533 ⟨by decide, by decide, by decide +kernel⟩ (by decide) rfl rfl (by decide) (by decide) rfl rfl (Nat.le_of_ble_eq_true rfl) rfl ?_ hcs
  refine ZL.al C (i := 2) dL_law_923 2 rfl ?_
  refine ZL.arg C dL_law_924 dL_law_925 (dL_law_926) dL_law_927 dL_law_928 hi (k := 1) (by decide) ?_
  refine ZL.arg C dL_law_929 dL_law_930 (dL_law_931) dL_law_932 dL_law_933 hi (k := 2) (by decide) ?_
  refine ZL.call C (bb := 42) (ci := 5) (n := 2) (As := [.int (xs (i + 1)), .int (xs (i + 2))]) dL_law_934 (kX5_empty _ _ _ h2) kw1003 kw1004 kw1005 kw7 kw1006 ⟨by decide, by decide, by decide +kernel⟩ (by decide) rfl rfl (by decide) (by decide) rfl rfl (Nat.le_of_ble_eq_true rfl) rfl ?_ hcs
  exact ZL.ieq C dL_law_937 (K _ hI)
theorem law_22 (C : LC p s m meth c b L xs E) {i : Nat} (hcs : nc ≤ 600000 ∧ ns ≤ 7302250) (hi : i + 6 ≤ L) {M : Mem} (hI : Inv M) (K : ∀ M, Inv M → ZL p l e s m below meth c b E nc ns 1183 (lv0 b E i) [] M) : ZL p l e s m below meth c b E nc ns 942 (lv0 b E i) [] M := by
  obtain ⟨v, M1, M2, h1, h2, hI⟩ := o_waits hI (xs (i + 1))
  refine ZL.al C (i := 1) dL_law_942 1 rfl ?_
  refine ZL.arg C dL_law_943 dL_law_944 (dL_law_945) dL_law_946 dL_law_947 hi (k := 1) (by decide) ?_
  refine ZL.call C (bb := 0) (ci := 4) (n := 1) (As := [.int (xs (i + 1))]) dL_law_948 (kX4_waits _ _ h1) kw574 kw575 kw576 kw1 kw577 ⟨by decide, by decide, by decide +kernel⟩ (by decide) rfl rfl (by decide) (by decide) rfl rfl (Nat.le_of_ble_eq_true rfl) rfl ?_ hcs
  refine ZL.al C (i := 2) dL_law_951 2 rfl ?_
  refine ZL.arg C dL_law_952 dL_law_953 (dL_law_954) dL_law_955 dL_law_956 hi (k := 1) (by decide) ?_
  refine ZL.call C (bb := 42) (ci := 5) (n := 1) (As := [.int (xs (i + 1))]) dL_law_957 (kX5_waits _ _ h2) kw1019 kw1020 kw1021 kw7 kw1022 ⟨by decide, by decide, by decide +kernel⟩ (by decide) rfl rfl (by decide) (by decide) rfl rfl (Nat.le_of_ble_eq_true rfl) rfl ?_ hcs
  exact ZL.ieq C dL_law_960 (K _ hI)
theorem law_23 (C : LC p s m meth c b L xs E) {i : Nat} (hcs : nc ≤ 600000 ∧ ns ≤ 7302250) (hi : i + 6 ≤ L) {M : Mem} (hI : Inv M) (K : ∀ M, Inv M → ZL p l e s m below meth c b E nc ns 1183 (lv0 b E i) [] M) : ZL p l e s m below meth c b E nc ns 965 (lv0 b E i) [] M := by
  obtain ⟨v, M1, M2, h1, h2, hI⟩ := o_lost hI 
  refine ZL.al C (i := 1) dL_law_965 1 rfl ?_
  refine ZL.call C (bb := 0) (ci := 4) (n := 0) (As := []) dL_law_966 (kX4_lost  _ h1) kw582 kw583 kw584 kw1 kw585 ⟨by decide, by decide, by decide +kernel⟩ (by decide) rfl rfl (by decide) (by decide) rfl rfl (Nat.le_of_ble_eq_true rfl) rfl ?_ hcs
  refine ZL.al C (i := 2) dL_law_969 2 rfl ?_
  refine ZL.call C (bb := 42) (ci := 5) (n := 0) (As := []) dL_law_970 (kX5_lost  _ h2) kw1027 kw1028 kw1029 kw7 kw1030 ⟨by decide, by decide, by decide +kernel⟩ (by decide) rfl rfl (by decide) (by decide) rfl rfl (Nat.le_of_ble_eq_true rfl) rfl ?_ hcs
  exact ZL.ieq C dL_law_973 (K _ hI)
theorem law_24 (C : LC p s m meth c b L xs E) {i : Nat} (hcs : nc ≤ 600000 ∧ ns ≤ 7302250) (hi : i + 6 ≤ L) {M : Mem} (hI : Inv M) (K : ∀ M, Inv M → ZL p l e s m below meth c b E nc ns 1183 (lv0 b E i) [] M) : ZL p l e s m below meth c b E nc ns 978 (lv0 b E i) [] M := by
  obtain ⟨v, M2, h1, h2, hI⟩ := o_told hI (xs (i + 1)) (xs (i + 2))
  refine ZL.al C (i := 1) dL_law_978 1 rfl ?_
  refine ZL.arg C dL_law_979 dL_law_980 (dL_law_981) dL_law_982 dL_law_983 hi (k := 1) (by decide) ?_
  refine ZL.arg C dL_law_984 dL_law_985 (dL_law_986) dL_law_987 dL_law_988 hi (k := 2) (by decide) ?_
  refine ZL.call C (bb := 0) (ci := 4) (n := 2) (As := [.int (xs (i + 1)), .int (xs (i + 2))]) dL_law_989 (kX4_told _ _ _ h1) kw586 kw587 kw588 kw1 kw589 ⟨by decide, by decide, by decide +kernel⟩ (by decide) rfl rfl (by decide) (by decide) rfl rfl (Nat.le_of_ble_eq_true rfl) rfl ?_ hcs
  refine ZL.al C (i := 2) dL_law_992 2 rfl ?_
  refine ZL.arg C dL_law_993 dL_law_994 (dL_law_995) dL_law_996 dL_law_997 hi (k := 1) (by decide) ?_
  refine ZL.arg C dL_law_998 dL_law_999 (dL_law_1000) dL_law_1001 dL_law_1002 hi (k := 2) (by decide) ?_
  refine ZL.call C (bb := 42) (ci := 5) (n := 2) (As := [.int (xs (i + 1)), .int (xs (i + 2))]) dL_law_1003 (kX5_told _ _ _ h2) kw1031 kw1032 kw1033 kw7 kw1034 ⟨by decide, by decide, by decide +kernel⟩ (by decide) rfl rfl (by decide) (by decide) rfl rfl (Nat.le_of_ble_eq_true rfl) rfl ?_ hcs
  exact ZL.ieq C dL_law_1006 (K _ hI)
theorem law_25 (C : LC p s m meth c b L xs E) {i : Nat} (hcs : nc ≤ 600000 ∧ ns ≤ 7302250) (hi : i + 6 ≤ L) {M : Mem} (hI : Inv M) (K : ∀ M, Inv M → ZL p l e s m below meth c b E nc ns 1183 (lv0 b E i) [] M) : ZL p l e s m below meth c b E nc ns 1011 (lv0 b E i) [] M := by
  obtain ⟨v, M1, M2, h1, h2, hI⟩ := o_rule hI (xs (i + 1))
  refine ZL.al C (i := 1) dL_law_1011 1 rfl ?_
  refine ZL.arg C dL_law_1012 dL_law_1013 (dL_law_1014) dL_law_1015 dL_law_1016 hi (k := 1) (by decide) ?_
  refine ZL.call C (bb := 0) (ci := 4) (n := 1) (As := [.int (xs (i + 1))]) dL_law_1017 (kX4_rule _ _ h1) kw606 kw607 kw608 kw1 kw609 ⟨by decide, by decide, by decide +kernel⟩ (by decide) rfl rfl (by decide) (by decide) rfl rfl (Nat.le_of_ble_eq_true rfl) rfl ?_ hcs
  refine ZL.al C (i := 2) dL_law_1020 2 rfl ?_
  refine ZL.arg C dL_law_1021 dL_law_1022 (dL_law_1023) dL_law_1024 dL_law_1025 hi (k := 1) (by decide) ?_
  refine ZL.call C (bb := 42) (ci := 5) (n := 1) (As := [.int (xs (i + 1))]) dL_law_1026 (kX5_rule _ _ h2) kw1035 kw1036 kw1037 kw7 kw1038 ⟨by decide, by decide, by decide +kernel⟩ (by decide) rfl rfl (by decide) (by decide) rfl rfl (Nat.le_of_ble_eq_true rfl) rfl ?_ hcs
  exact ZL.ieq C dL_law_1029 (K _ hI)
theorem law_26 (C : LC p s m meth c b L xs E) {i : Nat} (hcs : nc ≤ 600000 ∧ ns ≤ 7302250) (hi : i + 6 ≤ L) {M : Mem} (hI : Inv M) (K : ∀ M, Inv M → ZL p l e s m below meth c b E nc ns 1183 (lv0 b E i) [] M) : ZL p l e s m below meth c b E nc ns 1034 (lv0 b E i) [] M := by
  obtain ⟨v, M2, h1, h2, hI⟩ := o_untrue hI (xs (i + 1)) (xs (i + 2))
  refine ZL.al C (i := 1) dL_law_1034 1 rfl ?_
  refine ZL.arg C dL_law_1035 dL_law_1036 (dL_law_1037) dL_law_1038 dL_law_1039 hi (k := 1) (by decide) ?_
  refine ZL.arg C dL_law_1040 dL_law_1041 (dL_law_1042) dL_law_1043 dL_law_1044 hi (k := 2) (by decide) ?_
  refine ZL.call C (bb := 0) (ci := 4) (n := 2) (As := [.int (xs (i + 1)), .int (xs (i + 2))]) dL_law_1045 (kX4_untrue _ _ _ h1) kw615 kw616 kw617 kw1 kw618 ⟨by decide, by decide, by decide +kernel⟩ (by decide) rfl rfl (by decide) (by decide) rfl rfl (Nat.le_of_ble_eq_true rfl) rfl ?_ hcs
  refine ZL.al C (i := 2) dL_law_1048 2 rfl ?_
  refine ZL.arg C dL_law_1049 dL_law_1050 (dL_law_1051) dL_law_1052 dL_law_1053 hi (k := 1) (by decide) ?_
  refine ZL.arg C dL_law_1054 dL_law_1055 (dL_law_1056) dL_law_1057 dL_law_1058 hi (k := 2) (by decide) ?_
  refine ZL.call C (bb := 42) (ci := 5) (n := 2) (As := [.int (xs (i + 1)), .int (xs (i + 2))]) dL_law_1059 (kX5_untrue _ _ _ h2) kw1043 kw1044 kw1045 kw7 kw1046 ⟨by decide, by decide, by decide +kernel⟩ (by decide) rfl rfl (by decide) (by decide) rfl rfl (Nat.le_of_ble_eq_true rfl) rfl ?_ hcs
  exact ZL.ieq C dL_law_1062 (K _ hI)
theorem law_27 (C : LC p s m meth c b L xs E) {i : Nat} (hcs : nc ≤ 600000 ∧ ns ≤ 7302250) (hi : i + 6 ≤ L) {M : Mem} (hI : Inv M) (K : ∀ M, Inv M → ZL p l e s m below meth c b E nc ns 1183 (lv0 b E i) [] M) : ZL p l e s m below meth c b E nc ns 1067 (lv0 b E i) [] M := by
  obtain ⟨v, M1, M2, h1, h2, hI⟩ := o_rate hI (xs (i + 1)) (xs (i + 2))
  refine ZL.al C (i := 1) dL_law_1067 1 rfl ?_
  refine ZL.arg C dL_law_1068 dL_law_1069 (dL_law_1070) dL_law_1071 dL_law_1072 hi (k := 1) (by decide) ?_
  refine ZL.arg C dL_law_1073 dL_law_1074 (dL_law_1075) dL_law_1076 dL_law_1077 hi (k := 2) (by decide) ?_
  refine ZL.call C (bb := 0) (ci := 4) (n := 2) (As := [.int (xs (i + 1)), .int (xs (i + 2))]) dL_law_1078 (kX4_rate _ _ _ h1) kw619 kw620 kw621 kw1 kw622 ⟨by decide, by decide, by decide +kernel⟩ (by decide) rfl rfl (by decide) (by decide) rfl rfl (Nat.le_of_ble_eq_true rfl) rfl ?_ hcs
  refine ZL.al C (i := 2) dL_law_1081 2 rfl ?_
  refine ZL.arg C dL_law_1082 dL_law_1083 (dL_law_1084) dL_law_1085 dL_law_1086 hi (k := 1) (by decide) ?_
  refine ZL.arg C dL_law_1087 dL_law_1088 (dL_law_1089) dL_law_1090 dL_law_1091 hi (k := 2) (by decide) ?_
  refine ZL.call C (bb := 42) (ci := 5) (n := 2) (As := [.int (xs (i + 1)), .int (xs (i + 2))]) dL_law_1092 (kX5_rate _ _ _ h2) kw1047 kw1048 kw1049 kw7 kw1050 ⟨by decide, by decide, by decide +kernel⟩ (by decide) rfl rfl (by decide) (by decide) rfl rfl (Nat.le_of_ble_eq_true rfl) rfl ?_ hcs
  exact ZL.ieq C dL_law_1095 (K _ hI)
theorem law_28 (C : LC p s m meth c b L xs E) {i : Nat} (hcs : nc ≤ 600000 ∧ ns ≤ 7302250) (hi : i + 6 ≤ L) {M : Mem} (hI : Inv M) (K : ∀ M, Inv M → ZL p l e s m below meth c b E nc ns 1183 (lv0 b E i) [] M) : ZL p l e s m below meth c b E nc ns 1100 (lv0 b E i) [] M := by
  obtain ⟨v, M1, M2, h1, h2, hI⟩ := o_keep hI (xs (i + 1))
  refine ZL.al C (i := 1) dL_law_1100 1 rfl ?_
  refine ZL.arg C dL_law_1101 dL_law_1102 (dL_law_1103) dL_law_1104 dL_law_1105 hi (k := 1) (by decide) ?_
  refine ZL.call C (bb := 0) (ci := 4) (n := 1) (As := [.int (xs (i + 1))]) dL_law_1106 (kX4_keep _ _ h1) kw652 kw653 kw654 kw1 kw655 ⟨by decide, by decide, by decide +kernel⟩ (by decide) rfl rfl (by decide) (by decide) rfl rfl (Nat.le_of_ble_eq_true rfl) rfl ?_ hcs
  refine ZL.al C (i := 2) dL_law_1109 2 rfl ?_
  refine ZL.arg C dL_law_1110 dL_law_1111 (dL_law_1112) dL_law_1113 dL_law_1114 hi (k := 1) (by decide) ?_
  refine ZL.call C (bb := 42) (ci := 5) (n := 1) (As := [.int (xs (i + 1))]) dL_law_1115 (kX5_keep _ _ h2) kw1056 kw1057 kw1058 kw7 kw1059 ⟨by decide, by decide, by decide +kernel⟩ (by decide) rfl rfl (by decide) (by decide) rfl rfl (Nat.le_of_ble_eq_true rfl) rfl ?_ hcs
  exact ZL.ieq C dL_law_1118 (K _ hI)
theorem law_29 (C : LC p s m meth c b L xs E) {i : Nat} (hcs : nc ≤ 600000 ∧ ns ≤ 7302250) (hi : i + 6 ≤ L) {M : Mem} (hI : Inv M) (K : ∀ M, Inv M → ZL p l e s m below meth c b E nc ns 1183 (lv0 b E i) [] M) : ZL p l e s m below meth c b E nc ns 1123 (lv0 b E i) [] M := by
  obtain ⟨v, M1, M2, h1, h2, hI⟩ := o_back hI (xs (i + 1))
  refine ZL.al C (i := 1) dL_law_1123 1 rfl ?_
  refine ZL.arg C dL_law_1124 dL_law_1125 (dL_law_1126) dL_law_1127 dL_law_1128 hi (k := 1) (by decide) ?_
  refine ZL.call C (bb := 0) (ci := 4) (n := 1) (As := [.int (xs (i + 1))]) dL_law_1129 (kX4_back _ _ h1) kw661 kw662 kw663 kw1 kw664 ⟨by decide, by decide, by decide +kernel⟩ (by decide) rfl rfl (by decide) (by decide) rfl rfl (Nat.le_of_ble_eq_true rfl) rfl ?_ hcs
  refine ZL.al C (i := 2) dL_law_1132 2 rfl ?_
  refine ZL.arg C dL_law_1133 dL_law_1134 (dL_law_1135) dL_law_1136 dL_law_1137 hi (k := 1) (by decide) ?_
  refine ZL.call C (bb := 42) (ci := 5) (n := 1) (As := [.int (xs (i + 1))]) dL_law_1138 (kX5_back _ _ h2) kw1064 kw1065 kw1066 kw7 kw1067 ⟨by decide, by decide, by decide +kernel⟩ (by decide) rfl rfl (by decide) (by decide) rfl rfl (Nat.le_of_ble_eq_true rfl) rfl ?_ hcs
  exact ZL.ieq C dL_law_1141 (K _ hI)
theorem law_30 (C : LC p s m meth c b L xs E) {i : Nat} (hcs : nc ≤ 600000 ∧ ns ≤ 7302250) (hi : i + 6 ≤ L) {M : Mem} (hI : Inv M) (K : ∀ M, Inv M → ZL p l e s m below meth c b E nc ns 1183 (lv0 b E i) [] M) : ZL p l e s m below meth c b E nc ns 1146 (lv0 b E i) [] M := by
  obtain ⟨v, h1, h2⟩ := o_count hI (xs (i + 1))
  refine ZL.al C (i := 1) dL_law_1146 1 rfl ?_
  refine ZL.arg C dL_law_1147 dL_law_1148 (dL_law_1149) dL_law_1150 dL_law_1151 hi (k := 1) (by decide) ?_
  refine ZL.call C (bb := 0) (ci := 4) (n := 1) (As := [.int (xs (i + 1))]) dL_law_1152 (kX4_count _ _ h1) kw665 kw666 kw667 kw1 kw668 ⟨by decide, by decide, by decide +kernel⟩ (by decide) rfl rfl (by decide) (by decide) rfl rfl (Nat.le_of_ble_eq_true rfl) rfl ?_ hcs
  refine ZL.al C (i := 2) dL_law_1155 2 rfl ?_
  refine ZL.arg C dL_law_1156 dL_law_1157 (dL_law_1158) dL_law_1159 dL_law_1160 hi (k := 1) (by decide) ?_
  refine ZL.call C (bb := 42) (ci := 5) (n := 1) (As := [.int (xs (i + 1))]) dL_law_1161 (kX5_count _ _ h2) kw1068 kw1069 kw1070 kw7 kw1071 ⟨by decide, by decide, by decide +kernel⟩ (by decide) rfl rfl (by decide) (by decide) rfl rfl (Nat.le_of_ble_eq_true rfl) rfl ?_ hcs
  exact ZL.ieq C dL_law_1164 (K _ hI)
theorem law_31 (C : LC p s m meth c b L xs E) {i : Nat} (hcs : nc ≤ 600000 ∧ ns ≤ 7302250) (hi : i + 6 ≤ L) {M : Mem} (hI : Inv M) (K : ∀ M, Inv M → ZL p l e s m below meth c b E nc ns 1183 (lv0 b E i) [] M) : ZL p l e s m below meth c b E nc ns 1169 (lv0 b E i) [] M := by
  obtain ⟨v, h1, h2⟩ := o_trace hI 
  refine ZL.al C (i := 1) dL_law_1169 1 rfl ?_
  refine ZL.call C (bb := 0) (ci := 4) (n := 0) (As := []) dL_law_1170 (kX4_trace  _ h1) kw669 kw670 kw671 kw1 kw672 ⟨by decide, by decide, by decide +kernel⟩ (by decide) rfl rfl (by decide) (by decide) rfl rfl (Nat.le_of_ble_eq_true rfl) rfl ?_ hcs
  refine ZL.al C (i := 2) dL_law_1173 2 rfl ?_
  refine ZL.call C (bb := 42) (ci := 5) (n := 0) (As := []) dL_law_1174 (kX5_trace  _ h2) kw1072 kw1073 kw1074 kw7 kw1075 ⟨by decide, by decide, by decide +kernel⟩ (by decide) rfl rfl (by decide) (by decide) rfl rfl (Nat.le_of_ble_eq_true rfl) rfl ?_ hcs
  refine ZL.lcmp C dL_law_1177 ?_
  exact ZL.zeq C dL_law_1178 (K _ hI)
end LAWC
