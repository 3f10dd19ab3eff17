section LC
variable {G : qG} {b : Nat} {σ : (Nat → Nat) × (Nat → Nat)} {sb L : Nat} {xs : Nat → Int32} {cn sn i : Nat}
theorem la_0 (hi : i + 6 ≤ L) (hL : L ≤ 3072) {x y : qS} (h : Rel x y) (k : ∀ x2 y2, Rel x2 y2 → LAW G b σ sb L xs cn sn 1218 (LV b sb i) [] x2 y2) : LAW G b σ sb L xs cn sn 184 (LV b sb i) [] x y := by
  obtain ⟨r, x2, y2, e1, e2, h2⟩ := sim_state (xs (i + 1)) x y h
  refine lw_ob1 dL_law_184 ?_
  refine lw_arg 1 hi hL (by decide) dL_law_185 dL_law_186 dL_law_187 (by decide +kernel) dL_law_188 dL_law_189 ?_
  refine lw_callX10 (As := [.int (xs (i + 1))]) (Mc := m_X10_state (xs (i + 1)) x) rfl dL_law_190 t_445 mf_X10_state (by decide) (Nat.le_of_ble_eq_true rfl) (fun l => c_X10_state l (xs (i + 1)) x lx_X10) e1 ?_
  refine lw_ob2 dL_law_193 ?_
  refine lw_arg 1 hi hL (by decide) dL_law_194 dL_law_195 dL_law_196 (by decide +kernel) dL_law_197 dL_law_198 ?_
  refine lw_callX11 (As := [.int (xs (i + 1))]) (Mc := m_X11_state (xs (i + 1)) y) rfl dL_law_199 t_1218 mf_X11_state (by decide) (Nat.le_of_ble_eq_true rfl) (fun l => c_X11_state l (xs (i + 1)) y lx_X11) e2 ?_
  exact lw_eq 1218 dL_law_202 (by decide) (k x2 y2 h2)
theorem la_1 (hi : i + 6 ≤ L) (hL : L ≤ 3072) {x y : qS} (h : Rel x y) (k : ∀ x2 y2, Rel x2 y2 → LAW G b σ sb L xs cn sn 1218 (LV b sb i) [] x2 y2) : LAW G b σ sb L xs cn sn 207 (LV b sb i) [] x y := by
  obtain ⟨r, x2, y2, e1, e2, h2⟩ := sim_party (xs (i + 1)) x y h
  refine lw_ob1 dL_law_207 ?_
  refine lw_arg 1 hi hL (by decide) dL_law_208 dL_law_209 dL_law_210 (by decide +kernel) dL_law_211 dL_law_212 ?_
  refine lw_callX10 (As := [.int (xs (i + 1))]) (Mc := m_X10_party (xs (i + 1)) x) rfl dL_law_213 t_453 mf_X10_party (by decide) (Nat.le_of_ble_eq_true rfl) (fun l => c_X10_party l (xs (i + 1)) x lx_X10) e1 ?_
  refine lw_ob2 dL_law_216 ?_
  refine lw_arg 1 hi hL (by decide) dL_law_217 dL_law_218 dL_law_219 (by decide +kernel) dL_law_220 dL_law_221 ?_
  refine lw_callX11 (As := [.int (xs (i + 1))]) (Mc := m_X11_party (xs (i + 1)) y) rfl dL_law_222 t_1222 mf_X11_party (by decide) (Nat.le_of_ble_eq_true rfl) (fun l => c_X11_party l (xs (i + 1)) y lx_X11) e2 ?_
  exact lw_eq 1218 dL_law_225 (by decide) (k x2 y2 h2)
theorem la_2 (hi : i + 6 ≤ L) (hL : L ≤ 3072) {x y : qS} (h : Rel x y) (k : ∀ x2 y2, Rel x2 y2 → LAW G b σ sb L xs cn sn 1218 (LV b sb i) [] x2 y2) : LAW G b σ sb L xs cn sn 230 (LV b sb i) [] x y := by
  obtain ⟨r, x2, y2, e1, e2, h2⟩ := sim_eater (xs (i + 1)) x y h
  refine lw_ob1 dL_law_230 ?_
  refine lw_arg 1 hi hL (by decide) dL_law_231 dL_law_232 dL_law_233 (by decide +kernel) dL_law_234 dL_law_235 ?_
  refine lw_callX10 (As := [.int (xs (i + 1))]) (Mc := m_X10_eater (xs (i + 1)) x) rfl dL_law_236 t_464 mf_X10_eater (by decide) (Nat.le_of_ble_eq_true rfl) (fun l => c_X10_eater l (xs (i + 1)) x lx_X10) e1 ?_
  refine lw_ob2 dL_law_239 ?_
  refine lw_arg 1 hi hL (by decide) dL_law_240 dL_law_241 dL_law_242 (by decide +kernel) dL_law_243 dL_law_244 ?_
  refine lw_callX11 (As := [.int (xs (i + 1))]) (Mc := m_X11_eater (xs (i + 1)) y) rfl dL_law_245 t_1230 mf_X11_eater (by decide) (Nat.le_of_ble_eq_true rfl) (fun l => c_X11_eater l (xs (i + 1)) y lx_X11) e2 ?_
  exact lw_eq 1218 dL_law_248 (by decide) (k x2 y2 h2)
theorem la_3 (hi : i + 6 ≤ L) (hL : L ≤ 3072) {x y : qS} (h : Rel x y) (k : ∀ x2 y2, Rel x2 y2 → LAW G b σ sb L xs cn sn 1218 (LV b sb i) [] x2 y2) : LAW G b σ sb L xs cn sn 253 (LV b sb i) [] x y := by
  obtain ⟨r, x2, y2, e1, e2, h2⟩ := sim_taste (xs (i + 1)) (xs (i + 2)) (xs (i + 3)) x y h
  refine lw_ob1 dL_law_253 ?_
  refine lw_arg 1 hi hL (by decide) dL_law_254 dL_law_255 dL_law_256 (by decide +kernel) dL_law_257 dL_law_258 ?_
  refine lw_arg 2 hi hL (by decide) dL_law_259 dL_law_260 dL_law_261 (by decide +kernel) dL_law_262 dL_law_263 ?_
  refine lw_arg 3 hi hL (by decide) dL_law_264 dL_law_265 dL_law_266 (by decide +kernel) dL_law_267 dL_law_268 ?_
  refine lw_callX10 (As := [.int (xs (i + 1)), .int (xs (i + 2)), .int (xs (i + 3))]) (Mc := m_X10_taste (xs (i + 1)) (xs (i + 2)) (xs (i + 3)) x) rfl dL_law_269 t_472 mf_X10_taste (by decide) (Nat.le_of_ble_eq_true rfl) (fun l => c_X10_taste l (xs (i + 1)) (xs (i + 2)) (xs (i + 3)) x lx_X10) e1 ?_
  refine lw_ob2 dL_law_272 ?_
  refine lw_arg 1 hi hL (by decide) dL_law_273 dL_law_274 dL_law_275 (by decide +kernel) dL_law_276 dL_law_277 ?_
  refine lw_arg 2 hi hL (by decide) dL_law_278 dL_law_279 dL_law_280 (by decide +kernel) dL_law_281 dL_law_282 ?_
  refine lw_arg 3 hi hL (by decide) dL_law_283 dL_law_284 dL_law_285 (by decide +kernel) dL_law_286 dL_law_287 ?_
  refine lw_callX11 (As := [.int (xs (i + 1)), .int (xs (i + 2)), .int (xs (i + 3))]) (Mc := m_X11_taste (xs (i + 1)) (xs (i + 2)) (xs (i + 3)) y) rfl dL_law_288 t_1234 mf_X11_taste (by decide) (Nat.le_of_ble_eq_true rfl) (fun l => c_X11_taste l (xs (i + 1)) (xs (i + 2)) (xs (i + 3)) y lx_X11) e2 ?_
  exact lw_eq 1218 dL_law_291 (by decide) (k x2 y2 h2)
theorem la_4 (hi : i + 6 ≤ L) (hL : L ≤ 3072) {x y : qS} (h : Rel x y) (k : ∀ x2 y2, Rel x2 y2 → LAW G b σ sb L xs cn sn 1218 (LV b sb i) [] x2 y2) : LAW G b σ sb L xs cn sn 296 (LV b sb i) [] x y := by
  obtain ⟨r, x2, y2, e1, e2, h2⟩ := sim_set (xs (i + 1)) (xs (i + 2)) (xs (i + 3)) x y h
  refine lw_ob1 dL_law_296 ?_
  refine lw_arg 1 hi hL (by decide) dL_law_297 dL_law_298 dL_law_299 (by decide +kernel) dL_law_300 dL_law_301 ?_
  refine lw_arg 2 hi hL (by decide) dL_law_302 dL_law_303 dL_law_304 (by decide +kernel) dL_law_305 dL_law_306 ?_
  refine lw_arg 3 hi hL (by decide) dL_law_307 dL_law_308 dL_law_309 (by decide +kernel) dL_law_310 dL_law_311 ?_
  refine lw_callX10 (As := [.int (xs (i + 1)), .int (xs (i + 2)), .int (xs (i + 3))]) (Mc := m_X10_set (xs (i + 1)) (xs (i + 2)) (xs (i + 3)) x) rfl dL_law_312 t_484 mf_X10_set (by decide) (Nat.le_of_ble_eq_true rfl) (fun l => c_X10_set l (xs (i + 1)) (xs (i + 2)) (xs (i + 3)) x lx_X10) e1 ?_
  refine lw_ob2 dL_law_315 ?_
  refine lw_arg 1 hi hL (by decide) dL_law_316 dL_law_317 dL_law_318 (by decide +kernel) dL_law_319 dL_law_320 ?_
  refine lw_arg 2 hi hL (by decide) dL_law_321 dL_law_322 dL_law_323 (by decide +kernel) dL_law_324 dL_law_325 ?_
  refine lw_arg 3 hi hL (by decide) dL_law_326 dL_law_327 dL_law_328 (by decide +kernel) dL_law_329 dL_law_330 ?_
  refine lw_callX11 (As := [.int (xs (i + 1)), .int (xs (i + 2)), .int (xs (i + 3))]) (Mc := m_X11_set (xs (i + 1)) (xs (i + 2)) (xs (i + 3)) y) rfl dL_law_331 t_1254 mf_X11_set (by decide) (Nat.le_of_ble_eq_true rfl) (fun l => c_X11_set l (xs (i + 1)) (xs (i + 2)) (xs (i + 3)) y lx_X11) e2 ?_
  exact lw_eq 1218 dL_law_334 (by decide) (k x2 y2 h2)
theorem la_5 (hi : i + 6 ≤ L) (hL : L ≤ 3072) {x y : qS} (h : Rel x y) (k : ∀ x2 y2, Rel x2 y2 → LAW G b σ sb L xs cn sn 1218 (LV b sb i) [] x2 y2) : LAW G b σ sb L xs cn sn 339 (LV b sb i) [] x y := by
  obtain ⟨r, x2, y2, e1, e2, h2⟩ := sim_plant (xs (i + 1)) (xs (i + 2)) (xs (i + 3)) x y h
  refine lw_ob1 dL_law_339 ?_
  refine lw_arg 1 hi hL (by decide) dL_law_340 dL_law_341 dL_law_342 (by decide +kernel) dL_law_343 dL_law_344 ?_
  refine lw_arg 2 hi hL (by decide) dL_law_345 dL_law_346 dL_law_347 (by decide +kernel) dL_law_348 dL_law_349 ?_
  refine lw_arg 3 hi hL (by decide) dL_law_350 dL_law_351 dL_law_352 (by decide +kernel) dL_law_353 dL_law_354 ?_
  refine lw_callX10 (As := [.int (xs (i + 1)), .int (xs (i + 2)), .int (xs (i + 3))]) (Mc := m_X10_plant (xs (i + 1)) (xs (i + 2)) (xs (i + 3)) x) rfl dL_law_355 t_503 mf_X10_plant (by decide) (Nat.le_of_ble_eq_true rfl) (fun l => c_X10_plant l (xs (i + 1)) (xs (i + 2)) (xs (i + 3)) x lx_X10) e1 ?_
  refine lw_ob2 dL_law_358 ?_
  refine lw_arg 1 hi hL (by decide) dL_law_359 dL_law_360 dL_law_361 (by decide +kernel) dL_law_362 dL_law_363 ?_
  refine lw_arg 2 hi hL (by decide) dL_law_364 dL_law_365 dL_law_366 (by decide +kernel) dL_law_367 dL_law_368 ?_
  refine lw_arg 3 hi hL (by decide) dL_law_369 dL_law_370 dL_law_371 (by decide +kernel) dL_law_372 dL_law_373 ?_
  refine lw_callX11 (As := [.int (xs (i + 1)), .int (xs (i + 2)), .int (xs (i + 3))]) (Mc := m_X11_plant (xs (i + 1)) (xs (i + 2)) (xs (i + 3)) y) rfl dL_law_374 t_1410 mf_X11_plant (by decide) (Nat.le_of_ble_eq_true rfl) (fun l => c_X11_plant l (xs (i + 1)) (xs (i + 2)) (xs (i + 3)) y lx_X11) e2 ?_
  exact lw_eq 1218 dL_law_377 (by decide) (k x2 y2 h2)
theorem la_6 (hi : i + 6 ≤ L) (hL : L ≤ 3072) {x y : qS} (h : Rel x y) (k : ∀ x2 y2, Rel x2 y2 → LAW G b σ sb L xs cn sn 1218 (LV b sb i) [] x2 y2) : LAW G b σ sb L xs cn sn 382 (LV b sb i) [] x y := by
  obtain ⟨r, x2, y2, e1, e2, h2⟩ := zb_fence (xs (i + 1)) (xs (i + 2)) x y h
  refine lw_ob1 dL_law_382 ?_
  refine lw_arg 1 hi hL (by decide) dL_law_383 dL_law_384 dL_law_385 (by decide +kernel) dL_law_386 dL_law_387 ?_
  refine lw_arg 2 hi hL (by decide) dL_law_388 dL_law_389 dL_law_390 (by decide +kernel) dL_law_391 dL_law_392 ?_
  refine lw_zb 400 401 dL_law_393 (by decide) dL_law_396 dL_law_397 (by decide) rfl dL_law_400 ?_
  refine lw_callX10 (As := [.int (xs (i + 1)), .int (zb (xs (i + 2)))]) (Mc := m_X10_fence (xs (i + 1)) (zb (xs (i + 2))) x) rfl dL_law_401 t_532 mf_X10_fence (by decide) (Nat.le_of_ble_eq_true rfl) (fun l => c_X10_fence l (xs (i + 1)) (zb (xs (i + 2))) x lx_X10) e1 ?_
  refine lw_ob2 dL_law_404 ?_
  refine lw_arg 1 hi hL (by decide) dL_law_405 dL_law_406 dL_law_407 (by decide +kernel) dL_law_408 dL_law_409 ?_
  refine lw_arg 2 hi hL (by decide) dL_law_410 dL_law_411 dL_law_412 (by decide +kernel) dL_law_413 dL_law_414 ?_
  refine lw_zb 422 423 dL_law_415 (by decide) dL_law_418 dL_law_419 (by decide) rfl dL_law_422 ?_
  refine lw_callX11 (As := [.int (xs (i + 1)), .int (zb (xs (i + 2)))]) (Mc := m_X11_fence (xs (i + 1)) (zb (xs (i + 2))) y) rfl dL_law_423 t_1430 mf_X11_fence (by decide) (Nat.le_of_ble_eq_true rfl) (fun l => c_X11_fence l (xs (i + 1)) (zb (xs (i + 2))) y lx_X11) e2 ?_
  exact lw_eq 1218 dL_law_426 (by decide) (k x2 y2 h2)
theorem la_7 (hi : i + 6 ≤ L) (hL : L ≤ 3072) {x y : qS} (h : Rel x y) (k : ∀ x2 y2, Rel x2 y2 → LAW G b σ sb L xs cn sn 1218 (LV b sb i) [] x2 y2) : LAW G b σ sb L xs cn sn 431 (LV b sb i) [] x y := by
  obtain ⟨r, x2, y2, e1, e2, h2⟩ := sim_boil (xs (i + 1)) (xs (i + 2)) x y h
  refine lw_ob1 dL_law_431 ?_
  refine lw_arg 1 hi hL (by decide) dL_law_432 dL_law_433 dL_law_434 (by decide +kernel) dL_law_435 dL_law_436 ?_
  refine lw_arg 2 hi hL (by decide) dL_law_437 dL_law_438 dL_law_439 (by decide +kernel) dL_law_440 dL_law_441 ?_
  refine lw_callX10 (As := [.int (xs (i + 1)), .int (xs (i + 2))]) (Mc := m_X10_boil (xs (i + 1)) (xs (i + 2)) x) rfl dL_law_442 t_544 mf_X10_boil (by decide) (Nat.le_of_ble_eq_true rfl) (fun l => c_X10_boil l (xs (i + 1)) (xs (i + 2)) x lx_X10) e1 ?_
  refine lw_ob2 dL_law_445 ?_
  refine lw_arg 1 hi hL (by decide) dL_law_446 dL_law_447 dL_law_448 (by decide +kernel) dL_law_449 dL_law_450 ?_
  refine lw_arg 2 hi hL (by decide) dL_law_451 dL_law_452 dL_law_453 (by decide +kernel) dL_law_454 dL_law_455 ?_
  refine lw_callX11 (As := [.int (xs (i + 1)), .int (xs (i + 2))]) (Mc := m_X11_boil (xs (i + 1)) (xs (i + 2)) y) rfl dL_law_456 t_1446 mf_X11_boil (by decide) (Nat.le_of_ble_eq_true rfl) (fun l => c_X11_boil l (xs (i + 1)) (xs (i + 2)) y lx_X11) e2 ?_
  exact lw_eq 1218 dL_law_459 (by decide) (k x2 y2 h2)
theorem la_8 (hi : i + 6 ≤ L) (hL : L ≤ 3072) {x y : qS} (h : Rel x y) (k : ∀ x2 y2, Rel x2 y2 → LAW G b σ sb L xs cn sn 1218 (LV b sb i) [] x2 y2) : LAW G b σ sb L xs cn sn 464 (LV b sb i) [] x y := by
  obtain ⟨r, x2, y2, e1, e2, h2⟩ := sim_weeks (xs (i + 1)) x y h
  refine lw_ob1 dL_law_464 ?_
  refine lw_arg 1 hi hL (by decide) dL_law_465 dL_law_466 dL_law_467 (by decide +kernel) dL_law_468 dL_law_469 ?_
  refine lw_callX10 (As := [.int (xs (i + 1))]) (Mc := m_X10_weeks (xs (i + 1)) x) rfl dL_law_470 t_553 mf_X10_weeks (by decide) (Nat.le_of_ble_eq_true rfl) (fun l => c_X10_weeks l (xs (i + 1)) x lx_X10) e1 ?_
  refine lw_ob2 dL_law_473 ?_
  refine lw_arg 1 hi hL (by decide) dL_law_474 dL_law_475 dL_law_476 (by decide +kernel) dL_law_477 dL_law_478 ?_
  refine lw_callX11 (As := [.int (xs (i + 1))]) (Mc := m_X11_weeks (xs (i + 1)) y) rfl dL_law_479 t_1458 mf_X11_weeks (by decide) (Nat.le_of_ble_eq_true rfl) (fun l => c_X11_weeks l (xs (i + 1)) y lx_X11) e2 ?_
  exact lw_eq 1218 dL_law_482 (by decide) (k x2 y2 h2)
theorem la_9 (hi : i + 6 ≤ L) (hL : L ≤ 3072) {x y : qS} (h : Rel x y) (k : ∀ x2 y2, Rel x2 y2 → LAW G b σ sb L xs cn sn 1218 (LV b sb i) [] x2 y2) : LAW G b σ sb L xs cn sn 487 (LV b sb i) [] x y := by
  obtain ⟨r, x2, y2, e1, e2, h2⟩ := sim_feed (xs (i + 1)) (xs (i + 2)) (xs (i + 3)) (xs (i + 4)) (xs (i + 5)) x y h
  refine lw_ob1 dL_law_487 ?_
  refine lw_arg 1 hi hL (by decide) dL_law_488 dL_law_489 dL_law_490 (by decide +kernel) dL_law_491 dL_law_492 ?_
  refine lw_arg 2 hi hL (by decide) dL_law_493 dL_law_494 dL_law_495 (by decide +kernel) dL_law_496 dL_law_497 ?_
  refine lw_arg 3 hi hL (by decide) dL_law_498 dL_law_499 dL_law_500 (by decide +kernel) dL_law_501 dL_law_502 ?_
  refine lw_arg 4 hi hL (by decide) dL_law_503 dL_law_504 dL_law_505 (by decide +kernel) dL_law_506 dL_law_507 ?_
  refine lw_arg 5 hi hL (by decide) dL_law_508 dL_law_509 dL_law_510 (by decide +kernel) dL_law_511 dL_law_512 ?_
  refine lw_callX10 (As := [.int (xs (i + 1)), .int (xs (i + 2)), .int (xs (i + 3)), .int (xs (i + 4)), .int (xs (i + 5))]) (Mc := m_X10_feed (xs (i + 1)) (xs (i + 2)) (xs (i + 3)) (xs (i + 4)) (xs (i + 5)) x) rfl dL_law_513 t_684 mf_X10_feed (by decide) (Nat.le_of_ble_eq_true rfl) (fun l => c_X10_feed l (xs (i + 1)) (xs (i + 2)) (xs (i + 3)) (xs (i + 4)) (xs (i + 5)) x lx_X10) e1 ?_
  refine lw_ob2 dL_law_516 ?_
  refine lw_arg 1 hi hL (by decide) dL_law_517 dL_law_518 dL_law_519 (by decide +kernel) dL_law_520 dL_law_521 ?_
  refine lw_arg 2 hi hL (by decide) dL_law_522 dL_law_523 dL_law_524 (by decide +kernel) dL_law_525 dL_law_526 ?_
  refine lw_arg 3 hi hL (by decide) dL_law_527 dL_law_528 dL_law_529 (by decide +kernel) dL_law_530 dL_law_531 ?_
  refine lw_arg 4 hi hL (by decide) dL_law_532 dL_law_533 dL_law_534 (by decide +kernel) dL_law_535 dL_law_536 ?_
  refine lw_arg 5 hi hL (by decide) dL_law_537 dL_law_538 dL_law_539 (by decide +kernel) dL_law_540 dL_law_541 ?_
  refine lw_callX11 (As := [.int (xs (i + 1)), .int (xs (i + 2)), .int (xs (i + 3)), .int (xs (i + 4)), .int (xs (i + 5))]) (Mc := m_X11_feed (xs (i + 1)) (xs (i + 2)) (xs (i + 3)) (xs (i + 4)) (xs (i + 5)) y) rfl dL_law_542 t_1266 mf_X11_feed (by decide) (Nat.le_of_ble_eq_true rfl) (fun l => c_X11_feed l (xs (i + 1)) (xs (i + 2)) (xs (i + 3)) (xs (i + 4)) (xs (i + 5)) y lx_X11) e2 ?_
  exact lw_eq 1218 dL_law_545 (by decide) (k x2 y2 h2)
theorem la_10 (hi : i + 6 ≤ L) (hL : L ≤ 3072) {x y : qS} (h : Rel x y) (k : ∀ x2 y2, Rel x2 y2 → LAW G b σ sb L xs cn sn 1218 (LV b sb i) [] x2 y2) : LAW G b σ sb L xs cn sn 550 (LV b sb i) [] x y := by
  obtain ⟨r, x2, y2, e1, e2, h2⟩ := sim_end (xs (i + 1)) x y h
  refine lw_ob1 dL_law_550 ?_
  refine lw_arg 1 hi hL (by decide) dL_law_551 dL_law_552 dL_law_553 (by decide +kernel) dL_law_554 dL_law_555 ?_
  refine lw_callX10 (As := [.int (xs (i + 1))]) (Mc := m_X10_end (xs (i + 1)) x) rfl dL_law_556 t_692 mf_X10_end (by decide) (Nat.le_of_ble_eq_true rfl) (fun l => c_X10_end l (xs (i + 1)) x lx_X10) e1 ?_
  refine lw_ob2 dL_law_559 ?_
  refine lw_arg 1 hi hL (by decide) dL_law_560 dL_law_561 dL_law_562 (by decide +kernel) dL_law_563 dL_law_564 ?_
  refine lw_callX11 (As := [.int (xs (i + 1))]) (Mc := m_X11_end (xs (i + 1)) y) rfl dL_law_565 t_1274 mf_X11_end (by decide) (Nat.le_of_ble_eq_true rfl) (fun l => c_X11_end l (xs (i + 1)) y lx_X11) e2 ?_
  exact lw_eq 1218 dL_law_568 (by decide) (k x2 y2 h2)
theorem la_11 (hi : i + 6 ≤ L) (hL : L ≤ 3072) {x y : qS} (h : Rel x y) (k : ∀ x2 y2, Rel x2 y2 → LAW G b σ sb L xs cn sn 1218 (LV b sb i) [] x2 y2) : LAW G b σ sb L xs cn sn 573 (LV b sb i) [] x y := by
  obtain ⟨r, x2, y2, e1, e2, h2⟩ := sim_text (xs (i + 1)) x y h
  refine lw_ob1 dL_law_573 ?_
  refine lw_arg 1 hi hL (by decide) dL_law_574 dL_law_575 dL_law_576 (by decide +kernel) dL_law_577 dL_law_578 ?_
  refine lw_callX10 (As := [.int (xs (i + 1))]) (Mc := m_X10_text (xs (i + 1)) x) rfl dL_law_579 t_696 mf_X10_text (by decide) (Nat.le_of_ble_eq_true rfl) (fun l => c_X10_text l (xs (i + 1)) x lx_X10) e1 ?_
  refine lw_ob2 dL_law_582 ?_
  refine lw_arg 1 hi hL (by decide) dL_law_583 dL_law_584 dL_law_585 (by decide +kernel) dL_law_586 dL_law_587 ?_
  refine lw_callX11 (As := [.int (xs (i + 1))]) (Mc := m_X11_text (xs (i + 1)) y) rfl dL_law_588 t_1278 mf_X11_text (by decide) (Nat.le_of_ble_eq_true rfl) (fun l => c_X11_text l (xs (i + 1)) y lx_X11) e2 ?_
  exact lw_eq 1218 dL_law_591 (by decide) (k x2 y2 h2)
theorem la_12 (hi : i + 6 ≤ L) (hL : L ≤ 3072) {x y : qS} (h : Rel x y) (k : ∀ x2 y2, Rel x2 y2 → LAW G b σ sb L xs cn sn 1218 (LV b sb i) [] x2 y2) : LAW G b σ sb L xs cn sn 596 (LV b sb i) [] x y := by
  obtain ⟨r, x2, y2, e1, e2, h2⟩ := sim_fault (xs (i + 1)) x y h
  refine lw_ob1 dL_law_596 ?_
  refine lw_arg 1 hi hL (by decide) dL_law_597 dL_law_598 dL_law_599 (by decide +kernel) dL_law_600 dL_law_601 ?_
  refine lw_callX10 (As := [.int (xs (i + 1))]) (Mc := m_X10_fault (xs (i + 1)) x) rfl dL_law_602 t_878 mf_X10_fault (by decide) (Nat.le_of_ble_eq_true rfl) (fun l => c_X10_fault l (xs (i + 1)) x lx_X10) e1 ?_
  refine lw_ob2 dL_law_605 ?_
  refine lw_arg 1 hi hL (by decide) dL_law_606 dL_law_607 dL_law_608 (by decide +kernel) dL_law_609 dL_law_610 ?_
  refine lw_callX11 (As := [.int (xs (i + 1))]) (Mc := m_X11_fault (xs (i + 1)) y) rfl dL_law_611 t_1406 mf_X11_fault (by decide) (Nat.le_of_ble_eq_true rfl) (fun l => c_X11_fault l (xs (i + 1)) y lx_X11) e2 ?_
  exact lw_eq 1218 dL_law_614 (by decide) (k x2 y2 h2)
theorem la_13 (hi : i + 6 ≤ L) (hL : L ≤ 3072) {x y : qS} (h : Rel x y) (k : ∀ x2 y2, Rel x2 y2 → LAW G b σ sb L xs cn sn 1218 (LV b sb i) [] x2 y2) : LAW G b σ sb L xs cn sn 619 (LV b sb i) [] x y := by
  obtain ⟨r, x2, y2, e1, e2, h2⟩ := sim_of (xs (i + 1)) (xs (i + 2)) x y h
  refine lw_ob1 dL_law_619 ?_
  refine lw_arg 1 hi hL (by decide) dL_law_620 dL_law_621 dL_law_622 (by decide +kernel) dL_law_623 dL_law_624 ?_
  refine lw_arg 2 hi hL (by decide) dL_law_625 dL_law_626 dL_law_627 (by decide +kernel) dL_law_628 dL_law_629 ?_
  refine lw_callX10 (As := [.int (xs (i + 1)), .int (xs (i + 2))]) (Mc := m_X10_of (xs (i + 1)) (xs (i + 2)) x) rfl dL_law_630 t_882 mf_X10_of (by decide) (Nat.le_of_ble_eq_true rfl) (fun l => c_X10_of l (xs (i + 1)) (xs (i + 2)) x lx_X10) e1 ?_
  refine lw_ob2 dL_law_633 ?_
  refine lw_arg 1 hi hL (by decide) dL_law_634 dL_law_635 dL_law_636 (by decide +kernel) dL_law_637 dL_law_638 ?_
  refine lw_arg 2 hi hL (by decide) dL_law_639 dL_law_640 dL_law_641 (by decide +kernel) dL_law_642 dL_law_643 ?_
  refine lw_callX11 (As := [.int (xs (i + 1)), .int (xs (i + 2))]) (Mc := m_X11_of (xs (i + 1)) (xs (i + 2)) y) rfl dL_law_644 t_1572 mf_X11_of (by decide) (Nat.le_of_ble_eq_true rfl) (fun l => c_X11_of l (xs (i + 1)) (xs (i + 2)) y lx_X11) e2 ?_
  exact lw_eq 1218 dL_law_647 (by decide) (k x2 y2 h2)
theorem la_14 (hi : i + 6 ≤ L) (hL : L ≤ 3072) {x y : qS} (h : Rel x y) (k : ∀ x2 y2, Rel x2 y2 → LAW G b σ sb L xs cn sn 1218 (LV b sb i) [] x2 y2) : LAW G b σ sb L xs cn sn 652 (LV b sb i) [] x y := by
  obtain ⟨r, x2, y2, e1, e2, h2⟩ := sim_tree (xs (i + 1)) (xs (i + 2)) x y h
  refine lw_ob1 dL_law_652 ?_
  refine lw_arg 1 hi hL (by decide) dL_law_653 dL_law_654 dL_law_655 (by decide +kernel) dL_law_656 dL_law_657 ?_
  refine lw_arg 2 hi hL (by decide) dL_law_658 dL_law_659 dL_law_660 (by decide +kernel) dL_law_661 dL_law_662 ?_
  refine lw_callX10 (As := [.int (xs (i + 1)), .int (xs (i + 2))]) (Mc := m_X10_tree (xs (i + 1)) (xs (i + 2)) x) rfl dL_law_663 t_890 mf_X10_tree (by decide) (Nat.le_of_ble_eq_true rfl) (fun l => c_X10_tree l (xs (i + 1)) (xs (i + 2)) x lx_X10) e1 ?_
  refine lw_ob2 dL_law_666 ?_
  refine lw_arg 1 hi hL (by decide) dL_law_667 dL_law_668 dL_law_669 (by decide +kernel) dL_law_670 dL_law_671 ?_
  refine lw_arg 2 hi hL (by decide) dL_law_672 dL_law_673 dL_law_674 (by decide +kernel) dL_law_675 dL_law_676 ?_
  refine lw_callX11 (As := [.int (xs (i + 1)), .int (xs (i + 2))]) (Mc := m_X11_tree (xs (i + 1)) (xs (i + 2)) y) rfl dL_law_677 t_1576 mf_X11_tree (by decide) (Nat.le_of_ble_eq_true rfl) (fun l => c_X11_tree l (xs (i + 1)) (xs (i + 2)) y lx_X11) e2 ?_
  exact lw_eq 1218 dL_law_680 (by decide) (k x2 y2 h2)
theorem la_15 (hi : i + 6 ≤ L) (hL : L ≤ 3072) {x y : qS} (h : Rel x y) (k : ∀ x2 y2, Rel x2 y2 → LAW G b σ sb L xs cn sn 1218 (LV b sb i) [] x2 y2) : LAW G b σ sb L xs cn sn 685 (LV b sb i) [] x y := by
  obtain ⟨r, x2, y2, e1, e2, h2⟩ := sim_who (xs (i + 1)) (xs (i + 2)) x y h
  refine lw_ob1 dL_law_685 ?_
  refine lw_arg 1 hi hL (by decide) dL_law_686 dL_law_687 dL_law_688 (by decide +kernel) dL_law_689 dL_law_690 ?_
  refine lw_arg 2 hi hL (by decide) dL_law_691 dL_law_692 dL_law_693 (by decide +kernel) dL_law_694 dL_law_695 ?_
  refine lw_callX10 (As := [.int (xs (i + 1)), .int (xs (i + 2))]) (Mc := m_X10_who (xs (i + 1)) (xs (i + 2)) x) rfl dL_law_696 t_896 mf_X10_who (by decide) (Nat.le_of_ble_eq_true rfl) (fun l => c_X10_who l (xs (i + 1)) (xs (i + 2)) x lx_X10) e1 ?_
  refine lw_ob2 dL_law_699 ?_
  refine lw_arg 1 hi hL (by decide) dL_law_700 dL_law_701 dL_law_702 (by decide +kernel) dL_law_703 dL_law_704 ?_
  refine lw_arg 2 hi hL (by decide) dL_law_705 dL_law_706 dL_law_707 (by decide +kernel) dL_law_708 dL_law_709 ?_
  refine lw_callX11 (As := [.int (xs (i + 1)), .int (xs (i + 2))]) (Mc := m_X11_who (xs (i + 1)) (xs (i + 2)) y) rfl dL_law_710 t_1580 mf_X11_who (by decide) (Nat.le_of_ble_eq_true rfl) (fun l => c_X11_who l (xs (i + 1)) (xs (i + 2)) y lx_X11) e2 ?_
  exact lw_eq 1218 dL_law_713 (by decide) (k x2 y2 h2)
theorem la_16 (hi : i + 6 ≤ L) (hL : L ≤ 3072) {x y : qS} (h : Rel x y) (k : ∀ x2 y2, Rel x2 y2 → LAW G b σ sb L xs cn sn 1218 (LV b sb i) [] x2 y2) : LAW G b σ sb L xs cn sn 718 (LV b sb i) [] x y := by
  obtain ⟨r, x2, y2, e1, e2, h2⟩ := sim_at (xs (i + 1)) x y h
  refine lw_ob1 dL_law_718 ?_
  refine lw_arg 1 hi hL (by decide) dL_law_719 dL_law_720 dL_law_721 (by decide +kernel) dL_law_722 dL_law_723 ?_
  refine lw_callX10 (As := [.int (xs (i + 1))]) (Mc := m_X10_at (xs (i + 1)) x) rfl dL_law_724 t_903 mf_X10_at (by decide) (Nat.le_of_ble_eq_true rfl) (fun l => c_X10_at l (xs (i + 1)) x lx_X10) e1 ?_
  refine lw_ob2 dL_law_727 ?_
  refine lw_arg 1 hi hL (by decide) dL_law_728 dL_law_729 dL_law_730 (by decide +kernel) dL_law_731 dL_law_732 ?_
  refine lw_callX11 (As := [.int (xs (i + 1))]) (Mc := m_X11_at (xs (i + 1)) y) rfl dL_law_733 t_1584 mf_X11_at (by decide) (Nat.le_of_ble_eq_true rfl) (fun l => c_X11_at l (xs (i + 1)) y lx_X11) e2 ?_
  exact lw_eq 1218 dL_law_736 (by decide) (k x2 y2 h2)
theorem la_17 (hi : i + 6 ≤ L) (hL : L ≤ 3072) {x y : qS} (h : Rel x y) (k : ∀ x2 y2, Rel x2 y2 → LAW G b σ sb L xs cn sn 1218 (LV b sb i) [] x2 y2) : LAW G b σ sb L xs cn sn 741 (LV b sb i) [] x y := by
  obtain ⟨r, x2, y2, e1, e2, h2⟩ := sim_book (xs (i + 1)) (xs (i + 2)) x y h
  refine lw_ob1 dL_law_741 ?_
  refine lw_arg 1 hi hL (by decide) dL_law_742 dL_law_743 dL_law_744 (by decide +kernel) dL_law_745 dL_law_746 ?_
  refine lw_arg 2 hi hL (by decide) dL_law_747 dL_law_748 dL_law_749 (by decide +kernel) dL_law_750 dL_law_751 ?_
  refine lw_callX10 (As := [.int (xs (i + 1)), .int (xs (i + 2))]) (Mc := m_X10_book (xs (i + 1)) (xs (i + 2)) x) rfl dL_law_752 t_907 mf_X10_book (by decide) (Nat.le_of_ble_eq_true rfl) (fun l => c_X10_book l (xs (i + 1)) (xs (i + 2)) x lx_X10) e1 ?_
  refine lw_ob2 dL_law_755 ?_
  refine lw_arg 1 hi hL (by decide) dL_law_756 dL_law_757 dL_law_758 (by decide +kernel) dL_law_759 dL_law_760 ?_
  refine lw_arg 2 hi hL (by decide) dL_law_761 dL_law_762 dL_law_763 (by decide +kernel) dL_law_764 dL_law_765 ?_
  refine lw_callX11 (As := [.int (xs (i + 1)), .int (xs (i + 2))]) (Mc := m_X11_book (xs (i + 1)) (xs (i + 2)) y) rfl dL_law_766 t_1588 mf_X11_book (by decide) (Nat.le_of_ble_eq_true rfl) (fun l => c_X11_book l (xs (i + 1)) (xs (i + 2)) y lx_X11) e2 ?_
  exact lw_eq 1218 dL_law_769 (by decide) (k x2 y2 h2)
theorem la_18 (hi : i + 6 ≤ L) (hL : L ≤ 3072) {x y : qS} (h : Rel x y) (k : ∀ x2 y2, Rel x2 y2 → LAW G b σ sb L xs cn sn 1218 (LV b sb i) [] x2 y2) : LAW G b σ sb L xs cn sn 774 (LV b sb i) [] x y := by
  obtain ⟨r, x2, y2, e1, e2, h2⟩ := sim_goes (xs (i + 1)) (xs (i + 2)) (xs (i + 3)) x y h
  refine lw_ob1 dL_law_774 ?_
  refine lw_arg 1 hi hL (by decide) dL_law_775 dL_law_776 dL_law_777 (by decide +kernel) dL_law_778 dL_law_779 ?_
  refine lw_arg 2 hi hL (by decide) dL_law_780 dL_law_781 dL_law_782 (by decide +kernel) dL_law_783 dL_law_784 ?_
  refine lw_arg 3 hi hL (by decide) dL_law_785 dL_law_786 dL_law_787 (by decide +kernel) dL_law_788 dL_law_789 ?_
  refine lw_callX10 (As := [.int (xs (i + 1)), .int (xs (i + 2)), .int (xs (i + 3))]) (Mc := m_X10_goes (xs (i + 1)) (xs (i + 2)) (xs (i + 3)) x) rfl dL_law_790 t_911 mf_X10_goes (by decide) (Nat.le_of_ble_eq_true rfl) (fun l => c_X10_goes l (xs (i + 1)) (xs (i + 2)) (xs (i + 3)) x lx_X10) e1 ?_
  refine lw_ob2 dL_law_793 ?_
  refine lw_arg 1 hi hL (by decide) dL_law_794 dL_law_795 dL_law_796 (by decide +kernel) dL_law_797 dL_law_798 ?_
  refine lw_arg 2 hi hL (by decide) dL_law_799 dL_law_800 dL_law_801 (by decide +kernel) dL_law_802 dL_law_803 ?_
  refine lw_arg 3 hi hL (by decide) dL_law_804 dL_law_805 dL_law_806 (by decide +kernel) dL_law_807 dL_law_808 ?_
  refine lw_callX11 (As := [.int (xs (i + 1)), .int (xs (i + 2)), .int (xs (i + 3))]) (Mc := m_X11_goes (xs (i + 1)) (xs (i + 2)) (xs (i + 3)) y) rfl dL_law_809 t_1592 mf_X11_goes (by decide) (Nat.le_of_ble_eq_true rfl) (fun l => c_X11_goes l (xs (i + 1)) (xs (i + 2)) (xs (i + 3)) y lx_X11) e2 ?_
  exact lw_eq 1218 dL_law_812 (by decide) (k x2 y2 h2)
theorem la_19 (hi : i + 6 ≤ L) (hL : L ≤ 3072) {x y : qS} (h : Rel x y) (k : ∀ x2 y2, Rel x2 y2 → LAW G b σ sb L xs cn sn 1218 (LV b sb i) [] x2 y2) : LAW G b σ sb L xs cn sn 817 (LV b sb i) [] x y := by
  obtain ⟨r, x2, y2, e1, e2, h2⟩ := sim_falls (xs (i + 1)) x y h
  refine lw_ob1 dL_law_817 ?_
  refine lw_arg 1 hi hL (by decide) dL_law_818 dL_law_819 dL_law_820 (by decide +kernel) dL_law_821 dL_law_822 ?_
  refine lw_callX10 (As := [.int (xs (i + 1))]) (Mc := m_X10_falls (xs (i + 1)) x) rfl dL_law_823 t_915 mf_X10_falls (by decide) (Nat.le_of_ble_eq_true rfl) (fun l => c_X10_falls l (xs (i + 1)) x lx_X10) e1 ?_
  refine lw_ob2 dL_law_826 ?_
  refine lw_arg 1 hi hL (by decide) dL_law_827 dL_law_828 dL_law_829 (by decide +kernel) dL_law_830 dL_law_831 ?_
  refine lw_callX11 (As := [.int (xs (i + 1))]) (Mc := m_X11_falls (xs (i + 1)) y) rfl dL_law_832 t_1612 mf_X11_falls (by decide) (Nat.le_of_ble_eq_true rfl) (fun l => c_X11_falls l (xs (i + 1)) y lx_X11) e2 ?_
  exact lw_eq 1218 dL_law_835 (by decide) (k x2 y2 h2)
theorem la_20 (hi : i + 6 ≤ L) (hL : L ≤ 3072) {x y : qS} (h : Rel x y) (k : ∀ x2 y2, Rel x2 y2 → LAW G b σ sb L xs cn sn 1218 (LV b sb i) [] x2 y2) : LAW G b σ sb L xs cn sn 840 (LV b sb i) [] x y := by
  obtain ⟨r, x2, y2, e1, e2, h2⟩ := sim_brings (xs (i + 1)) (xs (i + 2)) (xs (i + 3)) x y h
  refine lw_ob1 dL_law_840 ?_
  refine lw_arg 1 hi hL (by decide) dL_law_841 dL_law_842 dL_law_843 (by decide +kernel) dL_law_844 dL_law_845 ?_
  refine lw_arg 2 hi hL (by decide) dL_law_846 dL_law_847 dL_law_848 (by decide +kernel) dL_law_849 dL_law_850 ?_
  refine lw_arg 3 hi hL (by decide) dL_law_851 dL_law_852 dL_law_853 (by decide +kernel) dL_law_854 dL_law_855 ?_
  refine lw_callX10 (As := [.int (xs (i + 1)), .int (xs (i + 2)), .int (xs (i + 3))]) (Mc := m_X10_brings (xs (i + 1)) (xs (i + 2)) (xs (i + 3)) x) rfl dL_law_856 t_920 mf_X10_brings (by decide) (Nat.le_of_ble_eq_true rfl) (fun l => c_X10_brings l (xs (i + 1)) (xs (i + 2)) (xs (i + 3)) x lx_X10) e1 ?_
  refine lw_ob2 dL_law_859 ?_
  refine lw_arg 1 hi hL (by decide) dL_law_860 dL_law_861 dL_law_862 (by decide +kernel) dL_law_863 dL_law_864 ?_
  refine lw_arg 2 hi hL (by decide) dL_law_865 dL_law_866 dL_law_867 (by decide +kernel) dL_law_868 dL_law_869 ?_
  refine lw_arg 3 hi hL (by decide) dL_law_870 dL_law_871 dL_law_872 (by decide +kernel) dL_law_873 dL_law_874 ?_
  refine lw_callX11 (As := [.int (xs (i + 1)), .int (xs (i + 2)), .int (xs (i + 3))]) (Mc := m_X11_brings (xs (i + 1)) (xs (i + 2)) (xs (i + 3)) y) rfl dL_law_875 t_1616 mf_X11_brings (by decide) (Nat.le_of_ble_eq_true rfl) (fun l => c_X11_brings l (xs (i + 1)) (xs (i + 2)) (xs (i + 3)) y lx_X11) e2 ?_
  exact lw_eq 1218 dL_law_878 (by decide) (k x2 y2 h2)
theorem la_21 (hi : i + 6 ≤ L) (hL : L ≤ 3072) {x y : qS} (h : Rel x y) (k : ∀ x2 y2, Rel x2 y2 → LAW G b σ sb L xs cn sn 1218 (LV b sb i) [] x2 y2) : LAW G b σ sb L xs cn sn 883 (LV b sb i) [] x y := by
  obtain ⟨r, x2, y2, e1, e2, h2⟩ := sim_swings (xs (i + 1)) (xs (i + 2)) x y h
  refine lw_ob1 dL_law_883 ?_
  refine lw_arg 1 hi hL (by decide) dL_law_884 dL_law_885 dL_law_886 (by decide +kernel) dL_law_887 dL_law_888 ?_
  refine lw_arg 2 hi hL (by decide) dL_law_889 dL_law_890 dL_law_891 (by decide +kernel) dL_law_892 dL_law_893 ?_
  refine lw_callX10 (As := [.int (xs (i + 1)), .int (xs (i + 2))]) (Mc := m_X10_swings (xs (i + 1)) (xs (i + 2)) x) rfl dL_law_894 t_924 mf_X10_swings (by decide) (Nat.le_of_ble_eq_true rfl) (fun l => c_X10_swings l (xs (i + 1)) (xs (i + 2)) x lx_X10) e1 ?_
  refine lw_ob2 dL_law_897 ?_
  refine lw_arg 1 hi hL (by decide) dL_law_898 dL_law_899 dL_law_900 (by decide +kernel) dL_law_901 dL_law_902 ?_
  refine lw_arg 2 hi hL (by decide) dL_law_903 dL_law_904 dL_law_905 (by decide +kernel) dL_law_906 dL_law_907 ?_
  refine lw_callX11 (As := [.int (xs (i + 1)), .int (xs (i + 2))]) (Mc := m_X11_swings (xs (i + 1)) (xs (i + 2)) y) rfl dL_law_908 t_1624 mf_X11_swings (by decide) (Nat.le_of_ble_eq_true rfl) (fun l => c_X11_swings l (xs (i + 1)) (xs (i + 2)) y lx_X11) e2 ?_
  exact lw_eq 1218 dL_law_911 (by decide) (k x2 y2 h2)
theorem la_22 (hi : i + 6 ≤ L) (hL : L ≤ 3072) {x y : qS} (h : Rel x y) (k : ∀ x2 y2, Rel x2 y2 → LAW G b σ sb L xs cn sn 1218 (LV b sb i) [] x2 y2) : LAW G b σ sb L xs cn sn 916 (LV b sb i) [] x y := by
  obtain ⟨r, x2, y2, e1, e2, h2⟩ := sim_feeds (xs (i + 1)) x y h
  refine lw_ob1 dL_law_916 ?_
  refine lw_arg 1 hi hL (by decide) dL_law_917 dL_law_918 dL_law_919 (by decide +kernel) dL_law_920 dL_law_921 ?_
  refine lw_callX10 (As := [.int (xs (i + 1))]) (Mc := m_X10_feeds (xs (i + 1)) x) rfl dL_law_922 t_937 mf_X10_feeds (by decide) (Nat.le_of_ble_eq_true rfl) (fun l => c_X10_feeds l (xs (i + 1)) x lx_X10) e1 ?_
  refine lw_ob2 dL_law_925 ?_
  refine lw_arg 1 hi hL (by decide) dL_law_926 dL_law_927 dL_law_928 (by decide +kernel) dL_law_929 dL_law_930 ?_
  refine lw_callX11 (As := [.int (xs (i + 1))]) (Mc := m_X11_feeds (xs (i + 1)) y) rfl dL_law_931 t_1632 mf_X11_feeds (by decide) (Nat.le_of_ble_eq_true rfl) (fun l => c_X11_feeds l (xs (i + 1)) y lx_X11) e2 ?_
  exact lw_eq 1218 dL_law_934 (by decide) (k x2 y2 h2)
theorem la_23 (hi : i + 6 ≤ L) (hL : L ≤ 3072) {x y : qS} (h : Rel x y) (k : ∀ x2 y2, Rel x2 y2 → LAW G b σ sb L xs cn sn 1218 (LV b sb i) [] x2 y2) : LAW G b σ sb L xs cn sn 939 (LV b sb i) [] x y := by
  obtain ⟨r, x2, y2, e1, e2, h2⟩ := sim_core (xs (i + 1)) (xs (i + 2)) x y h
  refine lw_ob1 dL_law_939 ?_
  refine lw_arg 1 hi hL (by decide) dL_law_940 dL_law_941 dL_law_942 (by decide +kernel) dL_law_943 dL_law_944 ?_
  refine lw_arg 2 hi hL (by decide) dL_law_945 dL_law_946 dL_law_947 (by decide +kernel) dL_law_948 dL_law_949 ?_
  refine lw_callX10 (As := [.int (xs (i + 1)), .int (xs (i + 2))]) (Mc := m_X10_core (xs (i + 1)) (xs (i + 2)) x) rfl dL_law_950 t_951 mf_X10_core (by decide) (Nat.le_of_ble_eq_true rfl) (fun l => c_X10_core l (xs (i + 1)) (xs (i + 2)) x lx_X10) e1 ?_
  refine lw_ob2 dL_law_953 ?_
  refine lw_arg 1 hi hL (by decide) dL_law_954 dL_law_955 dL_law_956 (by decide +kernel) dL_law_957 dL_law_958 ?_
  refine lw_arg 2 hi hL (by decide) dL_law_959 dL_law_960 dL_law_961 (by decide +kernel) dL_law_962 dL_law_963 ?_
  refine lw_callX11 (As := [.int (xs (i + 1)), .int (xs (i + 2))]) (Mc := m_X11_core (xs (i + 1)) (xs (i + 2)) y) rfl dL_law_964 t_1648 mf_X11_core (by decide) (Nat.le_of_ble_eq_true rfl) (fun l => c_X11_core l (xs (i + 1)) (xs (i + 2)) y lx_X11) e2 ?_
  exact lw_eq 1218 dL_law_967 (by decide) (k x2 y2 h2)
theorem la_24 (hi : i + 6 ≤ L) (hL : L ≤ 3072) {x y : qS} (h : Rel x y) (k : ∀ x2 y2, Rel x2 y2 → LAW G b σ sb L xs cn sn 1218 (LV b sb i) [] x2 y2) : LAW G b σ sb L xs cn sn 972 (LV b sb i) [] x y := by
  obtain ⟨r, x2, y2, e1, e2, h2⟩ := sim_whose (xs (i + 1)) x y h
  refine lw_ob1 dL_law_972 ?_
  refine lw_arg 1 hi hL (by decide) dL_law_973 dL_law_974 dL_law_975 (by decide +kernel) dL_law_976 dL_law_977 ?_
  refine lw_callX10 (As := [.int (xs (i + 1))]) (Mc := m_X10_whose (xs (i + 1)) x) rfl dL_law_978 t_959 mf_X10_whose (by decide) (Nat.le_of_ble_eq_true rfl) (fun l => c_X10_whose l (xs (i + 1)) x lx_X10) e1 ?_
  refine lw_ob2 dL_law_981 ?_
  refine lw_arg 1 hi hL (by decide) dL_law_982 dL_law_983 dL_law_984 (by decide +kernel) dL_law_985 dL_law_986 ?_
  refine lw_callX11 (As := [.int (xs (i + 1))]) (Mc := m_X11_whose (xs (i + 1)) y) rfl dL_law_987 t_1652 mf_X11_whose (by decide) (Nat.le_of_ble_eq_true rfl) (fun l => c_X11_whose l (xs (i + 1)) y lx_X11) e2 ?_
  exact lw_eq 1218 dL_law_990 (by decide) (k x2 y2 h2)
theorem la_25 (hi : i + 6 ≤ L) (hL : L ≤ 3072) {x y : qS} (h : Rel x y) (k : ∀ x2 y2, Rel x2 y2 → LAW G b σ sb L xs cn sn 1218 (LV b sb i) [] x2 y2) : LAW G b σ sb L xs cn sn 995 (LV b sb i) [] x y := by
  obtain ⟨r, x2, y2, e1, e2, h2⟩ := sim_left (xs (i + 1)) x y h
  refine lw_ob1 dL_law_995 ?_
  refine lw_arg 1 hi hL (by decide) dL_law_996 dL_law_997 dL_law_998 (by decide +kernel) dL_law_999 dL_law_1000 ?_
  refine lw_callX10 (As := [.int (xs (i + 1))]) (Mc := m_X10_left (xs (i + 1)) x) rfl dL_law_1001 t_973 mf_X10_left (by decide) (Nat.le_of_ble_eq_true rfl) (fun l => c_X10_left l (xs (i + 1)) x lx_X10) e1 ?_
  refine lw_ob2 dL_law_1004 ?_
  refine lw_arg 1 hi hL (by decide) dL_law_1005 dL_law_1006 dL_law_1007 (by decide +kernel) dL_law_1008 dL_law_1009 ?_
  refine lw_callX11 (As := [.int (xs (i + 1))]) (Mc := m_X11_left (xs (i + 1)) y) rfl dL_law_1010 t_1665 mf_X11_left (by decide) (Nat.le_of_ble_eq_true rfl) (fun l => c_X11_left l (xs (i + 1)) y lx_X11) e2 ?_
  exact lw_eq 1218 dL_law_1013 (by decide) (k x2 y2 h2)
theorem la_26 (hi : i + 6 ≤ L) (hL : L ≤ 3072) {x y : qS} (h : Rel x y) (k : ∀ x2 y2, Rel x2 y2 → LAW G b σ sb L xs cn sn 1218 (LV b sb i) [] x2 y2) : LAW G b σ sb L xs cn sn 1018 (LV b sb i) [] x y := by
  obtain ⟨r, x2, y2, e1, e2, h2⟩ := sim_rules (xs (i + 1)) x y h
  refine lw_ob1 dL_law_1018 ?_
  refine lw_arg 1 hi hL (by decide) dL_law_1019 dL_law_1020 dL_law_1021 (by decide +kernel) dL_law_1022 dL_law_1023 ?_
  refine lw_callX10 (As := [.int (xs (i + 1))]) (Mc := m_X10_rules (xs (i + 1)) x) rfl dL_law_1024 t_982 mf_X10_rules (by decide) (Nat.le_of_ble_eq_true rfl) (fun l => c_X10_rules l (xs (i + 1)) x lx_X10) e1 ?_
  refine lw_ob2 dL_law_1027 ?_
  refine lw_arg 1 hi hL (by decide) dL_law_1028 dL_law_1029 dL_law_1030 (by decide +kernel) dL_law_1031 dL_law_1032 ?_
  refine lw_callX11 (As := [.int (xs (i + 1))]) (Mc := m_X11_rules (xs (i + 1)) y) rfl dL_law_1033 t_1670 mf_X11_rules (by decide) (Nat.le_of_ble_eq_true rfl) (fun l => c_X11_rules l (xs (i + 1)) y lx_X11) e2 ?_
  exact lw_eq 1218 dL_law_1036 (by decide) (k x2 y2 h2)
theorem la_27 (hi : i + 6 ≤ L) (hL : L ≤ 3072) {x y : qS} (h : Rel x y) (k : ∀ x2 y2, Rel x2 y2 → LAW G b σ sb L xs cn sn 1218 (LV b sb i) [] x2 y2) : LAW G b σ sb L xs cn sn 1041 (LV b sb i) [] x y := by
  obtain ⟨r, x2, y2, e1, e2, h2⟩ := sim_weighs (xs (i + 1)) x y h
  refine lw_ob1 dL_law_1041 ?_
  refine lw_arg 1 hi hL (by decide) dL_law_1042 dL_law_1043 dL_law_1044 (by decide +kernel) dL_law_1045 dL_law_1046 ?_
  refine lw_callX10 (As := [.int (xs (i + 1))]) (Mc := m_X10_weighs (xs (i + 1)) x) rfl dL_law_1047 t_990 mf_X10_weighs (by decide) (Nat.le_of_ble_eq_true rfl) (fun l => c_X10_weighs l (xs (i + 1)) x lx_X10) e1 ?_
  refine lw_ob2 dL_law_1050 ?_
  refine lw_arg 1 hi hL (by decide) dL_law_1051 dL_law_1052 dL_law_1053 (by decide +kernel) dL_law_1054 dL_law_1055 ?_
  refine lw_callX11 (As := [.int (xs (i + 1))]) (Mc := m_X11_weighs (xs (i + 1)) y) rfl dL_law_1056 t_1682 mf_X11_weighs (by decide) (Nat.le_of_ble_eq_true rfl) (fun l => c_X11_weighs l (xs (i + 1)) y lx_X11) e2 ?_
  exact lw_eq 1218 dL_law_1059 (by decide) (k x2 y2 h2)
theorem la_28 (hi : i + 6 ≤ L) (hL : L ≤ 3072) {x y : qS} (h : Rel x y) (k : ∀ x2 y2, Rel x2 y2 → LAW G b σ sb L xs cn sn 1218 (LV b sb i) [] x2 y2) : LAW G b σ sb L xs cn sn 1064 (LV b sb i) [] x y := by
  obtain ⟨r, x2, y2, e1, e2, h2⟩ := sim_lasts (xs (i + 1)) x y h
  refine lw_ob1 dL_law_1064 ?_
  refine lw_arg 1 hi hL (by decide) dL_law_1065 dL_law_1066 dL_law_1067 (by decide +kernel) dL_law_1068 dL_law_1069 ?_
  refine lw_callX10 (As := [.int (xs (i + 1))]) (Mc := m_X10_lasts (xs (i + 1)) x) rfl dL_law_1070 t_994 mf_X10_lasts (by decide) (Nat.le_of_ble_eq_true rfl) (fun l => c_X10_lasts l (xs (i + 1)) x lx_X10) e1 ?_
  refine lw_ob2 dL_law_1073 ?_
  refine lw_arg 1 hi hL (by decide) dL_law_1074 dL_law_1075 dL_law_1076 (by decide +kernel) dL_law_1077 dL_law_1078 ?_
  refine lw_callX11 (As := [.int (xs (i + 1))]) (Mc := m_X11_lasts (xs (i + 1)) y) rfl dL_law_1079 t_1686 mf_X11_lasts (by decide) (Nat.le_of_ble_eq_true rfl) (fun l => c_X11_lasts l (xs (i + 1)) y lx_X11) e2 ?_
  exact lw_eq 1218 dL_law_1082 (by decide) (k x2 y2 h2)
theorem la_29 (hi : i + 6 ≤ L) (hL : L ≤ 3072) {x y : qS} (h : Rel x y) (k : ∀ x2 y2, Rel x2 y2 → LAW G b σ sb L xs cn sn 1218 (LV b sb i) [] x2 y2) : LAW G b σ sb L xs cn sn 1087 (LV b sb i) [] x y := by
  obtain ⟨r, x2, y2, e1, e2, h2⟩ := sim_meets (xs (i + 1)) (xs (i + 2)) x y h
  refine lw_ob1 dL_law_1087 ?_
  refine lw_arg 1 hi hL (by decide) dL_law_1088 dL_law_1089 dL_law_1090 (by decide +kernel) dL_law_1091 dL_law_1092 ?_
  refine lw_arg 2 hi hL (by decide) dL_law_1093 dL_law_1094 dL_law_1095 (by decide +kernel) dL_law_1096 dL_law_1097 ?_
  refine lw_callX10 (As := [.int (xs (i + 1)), .int (xs (i + 2))]) (Mc := m_X10_meets (xs (i + 1)) (xs (i + 2)) x) rfl dL_law_1098 t_998 mf_X10_meets (by decide) (Nat.le_of_ble_eq_true rfl) (fun l => c_X10_meets l (xs (i + 1)) (xs (i + 2)) x lx_X10) e1 ?_
  refine lw_ob2 dL_law_1101 ?_
  refine lw_arg 1 hi hL (by decide) dL_law_1102 dL_law_1103 dL_law_1104 (by decide +kernel) dL_law_1105 dL_law_1106 ?_
  refine lw_arg 2 hi hL (by decide) dL_law_1107 dL_law_1108 dL_law_1109 (by decide +kernel) dL_law_1110 dL_law_1111 ?_
  refine lw_callX11 (As := [.int (xs (i + 1)), .int (xs (i + 2))]) (Mc := m_X11_meets (xs (i + 1)) (xs (i + 2)) y) rfl dL_law_1112 t_1690 mf_X11_meets (by decide) (Nat.le_of_ble_eq_true rfl) (fun l => c_X11_meets l (xs (i + 1)) (xs (i + 2)) y lx_X11) e2 ?_
  exact lw_eq 1218 dL_law_1115 (by decide) (k x2 y2 h2)
theorem la_30 (hi : i + 6 ≤ L) (hL : L ≤ 3072) {x y : qS} (h : Rel x y) (k : ∀ x2 y2, Rel x2 y2 → LAW G b σ sb L xs cn sn 1218 (LV b sb i) [] x2 y2) : LAW G b σ sb L xs cn sn 1120 (LV b sb i) [] x y := by
  obtain ⟨r, x2, y2, e1, e2, h2⟩ := sim_game (xs (i + 1)) x y h
  refine lw_ob1 dL_law_1120 ?_
  refine lw_arg 1 hi hL (by decide) dL_law_1121 dL_law_1122 dL_law_1123 (by decide +kernel) dL_law_1124 dL_law_1125 ?_
  refine lw_callX10 (As := [.int (xs (i + 1))]) (Mc := m_X10_game (xs (i + 1)) x) rfl dL_law_1126 t_1002 mf_X10_game (by decide) (Nat.le_of_ble_eq_true rfl) (fun l => c_X10_game l (xs (i + 1)) x lx_X10) e1 ?_
  refine lw_ob2 dL_law_1129 ?_
  refine lw_arg 1 hi hL (by decide) dL_law_1130 dL_law_1131 dL_law_1132 (by decide +kernel) dL_law_1133 dL_law_1134 ?_
  refine lw_callX11 (As := [.int (xs (i + 1))]) (Mc := m_X11_game (xs (i + 1)) y) rfl dL_law_1135 t_1694 mf_X11_game (by decide) (Nat.le_of_ble_eq_true rfl) (fun l => c_X11_game l (xs (i + 1)) y lx_X11) e2 ?_
  exact lw_eq 1218 dL_law_1138 (by decide) (k x2 y2 h2)
theorem la_31 (hi : i + 6 ≤ L) (hL : L ≤ 3072) {x y : qS} (h : Rel x y) (k : ∀ x2 y2, Rel x2 y2 → LAW G b σ sb L xs cn sn 1218 (LV b sb i) [] x2 y2) : LAW G b σ sb L xs cn sn 1143 (LV b sb i) [] x y := by
  obtain ⟨r, x2, y2, e1, e2, h2⟩ := sim_undo  x y h
  refine lw_ob1 dL_law_1143 ?_
  refine lw_callX10 (As := []) (Mc := m_X10_undo  x) rfl dL_law_1144 t_1009 mf_X10_undo (by decide) (Nat.le_of_ble_eq_true rfl) (fun l => c_X10_undo l  x lx_X10) e1 ?_
  refine lw_ob2 dL_law_1147 ?_
  refine lw_callX11 (As := []) (Mc := m_X11_undo  y) rfl dL_law_1148 t_1214 mf_X11_undo (by decide) (Nat.le_of_ble_eq_true rfl) (fun l => c_X11_undo l  y lx_X11) e2 ?_
  exact lw_eq 1218 dL_law_1151 (by decide) (k x2 y2 h2)
theorem la_32 (hi : i + 6 ≤ L) (hL : L ≤ 3072) {x y : qS} (h : Rel x y) (k : ∀ x2 y2, Rel x2 y2 → LAW G b σ sb L xs cn sn 1218 (LV b sb i) [] x2 y2) : LAW G b σ sb L xs cn sn 1156 (LV b sb i) [] x y := by
  obtain ⟨r, x2, y2, e1, e2, h2⟩ := zb_image (xs (i + 1)) x y h
  refine lw_ob1 dL_law_1156 ?_
  refine lw_arg 1 hi hL (by decide) dL_law_1157 dL_law_1158 dL_law_1159 (by decide +kernel) dL_law_1160 dL_law_1161 ?_
  refine lw_zb 1169 1170 dL_law_1162 (by decide) dL_law_1165 dL_law_1166 (by decide) rfl dL_law_1169 ?_
  refine lw_callX10 (As := [.int (zb (xs (i + 1)))]) (Mc := m_X10_image (zb (xs (i + 1))) x) rfl dL_law_1170 t_1013 mf_X10_image (by decide) (Nat.le_of_ble_eq_true rfl) (fun l => c_X10_image l (zb (xs (i + 1))) x lx_X10) e1 ?_
  refine lw_ob2 dL_law_1173 ?_
  refine lw_arg 1 hi hL (by decide) dL_law_1174 dL_law_1175 dL_law_1176 (by decide +kernel) dL_law_1177 dL_law_1178 ?_
  refine lw_zb 1186 1187 dL_law_1179 (by decide) dL_law_1182 dL_law_1183 (by decide) rfl dL_law_1186 ?_
  refine lw_callX11 (As := [.int (zb (xs (i + 1)))]) (Mc := m_X11_image (zb (xs (i + 1))) y) rfl dL_law_1187 t_1698 mf_X11_image (by decide) (Nat.le_of_ble_eq_true rfl) (fun l => c_X11_image l (zb (xs (i + 1))) y lx_X11) e2 ?_
  exact lw_eq 1218 dL_law_1190 (by decide) (k x2 y2 h2)
theorem la_33 (hi : i + 6 ≤ L) (hL : L ≤ 3072) {x y : qS} (h : Rel x y) (k : ∀ x2 y2, Rel x2 y2 → LAW G b σ sb L xs cn sn 1218 (LV b sb i) [] x2 y2) : LAW G b σ sb L xs cn sn 1195 (LV b sb i) [] x y := by
  obtain ⟨r, x2, y2, e1, e2, h2⟩ := sim_look (xs (i + 1)) x y h
  refine lw_ob1 dL_law_1195 ?_
  refine lw_arg 1 hi hL (by decide) dL_law_1196 dL_law_1197 dL_law_1198 (by decide +kernel) dL_law_1199 dL_law_1200 ?_
  refine lw_callX10 (As := [.int (xs (i + 1))]) (Mc := m_X10_look (xs (i + 1)) x) rfl dL_law_1201 t_1035 mf_X10_look (by decide) (Nat.le_of_ble_eq_true rfl) (fun l => c_X10_look l (xs (i + 1)) x lx_X10) e1 ?_
  refine lw_ob2 dL_law_1204 ?_
  refine lw_arg 1 hi hL (by decide) dL_law_1205 dL_law_1206 dL_law_1207 (by decide +kernel) dL_law_1208 dL_law_1209 ?_
  refine lw_callX11 (As := [.int (xs (i + 1))]) (Mc := m_X11_look (xs (i + 1)) y) rfl dL_law_1210 t_1714 mf_X11_look (by decide) (Nat.le_of_ble_eq_true rfl) (fun l => c_X11_look l (xs (i + 1)) y lx_X11) e2 ?_
  exact lw_eq 1218 dL_law_1213 (by decide) (k x2 y2 h2)
end LC
