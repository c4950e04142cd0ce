/-! ## the law: cases (printed by gen_law.py) -/
theorem l_ar (xs : Nat → Int32) (i : Int) (k : Nat) : -2147483648 ≤ l_a xs i k ∧ l_a xs i k ≤ 2147483647 := z_ir _
theorem l_aJr (xs : Nat → Int32) (i : Int) (k j : Nat) : -9223372036854775808 ≤ l_aJ xs i k j ∧ l_aJ xs i k j ≤ 9223372036854775807 := z_jr _
theorem kcl_Law_32 : Cond.constantLong R_law 32 4294967295 ∈ z_tb := z_in9 (List.mem_of_getElem? (i := 68) rfl) rfl
section LC
variable {p : Program} {l : Launch} {e : Env} {s : State} {m : MethodId} {below : List Frame} {meth : Method} {c : Code} {b L : Nat} {xs : Nat → Int32} {D : va_G} {A : Nat → ClassId} {aK aV : Nat → Nat} {H : Heap} {gx gm : z_G}
theorem l_c0 (C0 : lw_At p s m meth c b L xs) (hL3 : L ≤ 3072) {tl : Nat} (hK : z_K (l_X l D A s.heap.size aK aV tl s.heap) s) (hH : l_H l D A s.heap.size aK aV s.heap gx gm H) (I : Inv gx gm) {i : Int} (hi : 0 ≤ i ∧ i + 6 ≤ L) (nx : ∀ gx' gm' H', l_H l D A s.heap.size aK aV s.heap gx' gm' H' → Inv gx' gm' → l_J p l e s m below meth c b 2134 i [] H') : l_J p l e s m below meth c b 284 i [] H := by
  refine l_ald1 C0 dl_284 ?_
  refine l_callX (as := []) (st := []) (d' := 1) C0 hK hH dl_285 mi_F_status ml_Law_13 mv_F_status se_F_status rfl rfl rfl (fun _ h => by cases h) rfl (by decide) (Qh := fun h' r gx' => z_O (l_Y l D A s.heap.size aK aV h') 1 m_M_status [(2, 0)] 18 kS_M gm (fun r' gm' => r' = r ∧ Inv gx' gm')) (fun h' => o_status l_layX l_layY I ) fun r gx1 H1 _ hH1 hQ => ?_
  show l_J p l e s m below meth c b 288 i [.int (Int32.ofInt r)] H1
  refine l_ald2 C0 dl_288 ?_
  refine l_callY (as := []) (st := [.int (Int32.ofInt r)]) (d' := 1) C0 hK hH1 dl_289 mi_M_status ml_Law_17 mv_M_status se_M_status rfl rfl rfl (fun _ h => by cases h) rfl (by simp [Value.category]) hQ fun r1 gm1 H2 _ hH2 hq => ?_
  show l_J p l e s m below meth c b 292 i [.int (Int32.ofInt r1), .int (Int32.ofInt r)] H2
  rw [hq.1]
  exact l_cmpI C0 dl_292 (by decide) (nx gx1 gm1 H2 hH2 hq.2)
theorem l_c1 (C0 : lw_At p s m meth c b L xs) (hL3 : L ≤ 3072) {tl : Nat} (hK : z_K (l_X l D A s.heap.size aK aV tl s.heap) s) (hH : l_H l D A s.heap.size aK aV s.heap gx gm H) (I : Inv gx gm) {i : Int} (hi : 0 ≤ i ∧ i + 6 ≤ L) (nx : ∀ gx' gm' H', l_H l D A s.heap.size aK aV s.heap gx' gm' H' → Inv gx' gm' → l_J p l e s m below meth c b 2134 i [] H') : l_J p l e s m below meth c b 297 i [] H := by
  refine l_ald1 C0 dl_297 ?_
  refine l_callX (as := []) (st := []) (d' := 1) C0 hK hH dl_298 mi_F_top ml_Law_18 mv_F_top se_F_top rfl rfl rfl (fun _ h => by cases h) rfl (by decide) (Qh := fun h' r gx' => z_O (l_Y l D A s.heap.size aK aV h') 1 m_M_top [(2, 0)] 18 kS_M gm (fun r' gm' => r' = r ∧ Inv gx' gm')) (fun h' => o_top l_layX l_layY I ) fun r gx1 H1 _ hH1 hQ => ?_
  show l_J p l e s m below meth c b 301 i [.long (Int64.ofInt r)] H1
  refine l_ald2 C0 dl_301 ?_
  refine l_callY (as := []) (st := [.long (Int64.ofInt r)]) (d' := 1) C0 hK hH1 dl_302 mi_M_top ml_Law_22 mv_M_top se_M_top rfl rfl rfl (fun _ h => by cases h) rfl (by simp [Value.category]) hQ fun r1 gm1 H2 _ hH2 hq => ?_
  show l_J p l e s m below meth c b 305 i [.long (Int64.ofInt r1), .long (Int64.ofInt r)] H2
  rw [hq.1]
  exact l_cmpJ C0 dl_305 dl_306 (by decide) (nx gx1 gm1 H2 hH2 hq.2)
theorem l_c2 (C0 : lw_At p s m meth c b L xs) (hL3 : L ≤ 3072) {tl : Nat} (hK : z_K (l_X l D A s.heap.size aK aV tl s.heap) s) (hH : l_H l D A s.heap.size aK aV s.heap gx gm H) (I : Inv gx gm) {i : Int} (hi : 0 ≤ i ∧ i + 6 ≤ L) (nx : ∀ gx' gm' H', l_H l D A s.heap.size aK aV s.heap gx' gm' H' → Inv gx' gm' → l_J p l e s m below meth c b 2134 i [] H') : l_J p l e s m below meth c b 311 i [] H := by
  refine l_ald1 C0 dl_311 ?_
  refine l_callX (as := []) (st := []) (d' := 1) C0 hK hH dl_312 mi_F_bottom ml_Law_23 mv_F_bottom se_F_bottom rfl rfl rfl (fun _ h => by cases h) rfl (by decide) (Qh := fun h' r gx' => z_O (l_Y l D A s.heap.size aK aV h') 1 m_M_bottom [(2, 0)] 18 kS_M gm (fun r' gm' => r' = r ∧ Inv gx' gm')) (fun h' => o_bottom l_layX l_layY I ) fun r gx1 H1 _ hH1 hQ => ?_
  show l_J p l e s m below meth c b 315 i [.long (Int64.ofInt r)] H1
  refine l_ald2 C0 dl_315 ?_
  refine l_callY (as := []) (st := [.long (Int64.ofInt r)]) (d' := 1) C0 hK hH1 dl_316 mi_M_bottom ml_Law_26 mv_M_bottom se_M_bottom rfl rfl rfl (fun _ h => by cases h) rfl (by simp [Value.category]) hQ fun r1 gm1 H2 _ hH2 hq => ?_
  show l_J p l e s m below meth c b 319 i [.long (Int64.ofInt r1), .long (Int64.ofInt r)] H2
  rw [hq.1]
  exact l_cmpJ C0 dl_319 dl_320 (by decide) (nx gx1 gm1 H2 hH2 hq.2)
theorem l_c3 (C0 : lw_At p s m meth c b L xs) (hL3 : L ≤ 3072) {tl : Nat} (hK : z_K (l_X l D A s.heap.size aK aV tl s.heap) s) (hH : l_H l D A s.heap.size aK aV s.heap gx gm H) (I : Inv gx gm) {i : Int} (hi : 0 ≤ i ∧ i + 6 ≤ L) (nx : ∀ gx' gm' H', l_H l D A s.heap.size aK aV s.heap gx' gm' H' → Inv gx' gm' → l_J p l e s m below meth c b 2134 i [] H') : l_J p l e s m below meth c b 325 i [] H := by
  refine l_ald1 C0 dl_325 ?_
  refine l_arg C0 hH (k := 1) rfl (by omega) hL3 dl_326 dl_327 dl_328 dl_329 dl_330 ?_
  refine l_arg C0 hH (k := 2) rfl (by omega) hL3 dl_331 dl_332 dl_333 dl_334 dl_335 ?_
  refine l_arg C0 hH (k := 3) rfl (by omega) hL3 dl_336 dl_337 dl_338 dl_339 dl_340 ?_
  refine l_callX (as := [(0, l_a xs i 1), (0, l_a xs i 2), (0, l_a xs i 3)]) (st := []) (d' := 3) C0 hK hH dl_341 mi_F_tray ml_Law_27 mv_F_tray se_F_tray rfl rfl rfl (z_op (z_op (z_op (fun _ h => by cases h) (l_ar xs i _)) (l_ar xs i _)) (l_ar xs i _)) rfl (by decide) (Qh := fun h' r gx' => z_O (l_Y l D A s.heap.size aK aV h') 2 m_M_tray [(2, 0), (0, l_a xs i 1), (0, l_a xs i 2), (0, l_a xs i 3)] 18 kS_M gm (fun r' gm' => r' = r ∧ Inv gx' gm')) (fun h' => o_tray l_layX l_layY I (l_ar xs i _) (l_ar xs i _) (l_ar xs i _)) fun r gx1 H1 _ hH1 hQ => ?_
  show l_J p l e s m below meth c b 344 i [.int (Int32.ofInt r)] H1
  refine l_ald2 C0 dl_344 ?_
  refine l_arg C0 hH1 (k := 1) rfl (by omega) hL3 dl_345 dl_346 dl_347 dl_348 dl_349 ?_
  refine l_arg C0 hH1 (k := 2) rfl (by omega) hL3 dl_350 dl_351 dl_352 dl_353 dl_354 ?_
  refine l_arg C0 hH1 (k := 3) rfl (by omega) hL3 dl_355 dl_356 dl_357 dl_358 dl_359 ?_
  refine l_callY (as := [(0, l_a xs i 1), (0, l_a xs i 2), (0, l_a xs i 3)]) (st := [.int (Int32.ofInt r)]) (d' := 2) C0 hK hH1 dl_360 mi_M_tray ml_Law_31 mv_M_tray se_M_tray rfl rfl rfl (z_op (z_op (z_op (fun _ h => by cases h) (l_ar xs i _)) (l_ar xs i _)) (l_ar xs i _)) rfl (by simp [Value.category]) hQ fun r1 gm1 H2 _ hH2 hq => ?_
  show l_J p l e s m below meth c b 363 i [.int (Int32.ofInt r1), .int (Int32.ofInt r)] H2
  rw [hq.1]
  exact l_cmpI C0 dl_363 (by decide) (nx gx1 gm1 H2 hH2 hq.2)
theorem l_c4 (C0 : lw_At p s m meth c b L xs) (hL3 : L ≤ 3072) {tl : Nat} (hK : z_K (l_X l D A s.heap.size aK aV tl s.heap) s) (hH : l_H l D A s.heap.size aK aV s.heap gx gm H) (I : Inv gx gm) {i : Int} (hi : 0 ≤ i ∧ i + 6 ≤ L) (nx : ∀ gx' gm' H', l_H l D A s.heap.size aK aV s.heap gx' gm' H' → Inv gx' gm' → l_J p l e s m below meth c b 2134 i [] H') : l_J p l e s m below meth c b 368 i [] H := by
  refine l_ald1 C0 dl_368 ?_
  refine l_arg C0 hH (k := 1) rfl (by omega) hL3 dl_369 dl_370 dl_371 dl_372 dl_373 ?_
  refine l_arg C0 hH (k := 2) rfl (by omega) hL3 dl_374 dl_375 dl_376 dl_377 dl_378 ?_
  refine l_arg C0 hH (k := 3) rfl (by omega) hL3 dl_379 dl_380 dl_381 dl_382 dl_383 ?_
  refine l_argJ1 (k := 3) C0 dl_384 dl_385 dl_387 ?_
  refine l_arg C0 hH (k := 4) rfl (by omega) hL3 dl_388 dl_389 dl_390 dl_391 dl_392 ?_
  refine l_argJ2 (k := 3) (j := 4) C0 dl_393 dl_394 kcl_Law_32 dl_397 dl_398 ?_
  refine l_callX (as := [(0, l_a xs i 1), (0, l_a xs i 2), (1, l_aJ xs i 3 4)]) (st := []) (d' := 5) C0 hK hH dl_399 mi_F_write ml_Law_34 mv_F_write se_F_write rfl rfl rfl (z_op (z_op (z_op (fun _ h => by cases h) (l_aJr xs i _ _)) (l_ar xs i _)) (l_ar xs i _)) rfl (by decide) (Qh := fun h' r gx' => z_O (l_Y l D A s.heap.size aK aV h') 3 m_M_write [(2, 0), (0, l_a xs i 1), (0, l_a xs i 2), (1, l_aJ xs i 3 4)] 18 kS_M gm (fun r' gm' => r' = r ∧ Inv gx' gm')) (fun h' => o_write l_layX l_layY I (l_ar xs i _) (l_ar xs i _) (l_aJr xs i _ _)) fun r gx1 H1 _ hH1 hQ => ?_
  show l_J p l e s m below meth c b 402 i [.int (Int32.ofInt r)] H1
  refine l_ald2 C0 dl_402 ?_
  refine l_arg C0 hH1 (k := 1) rfl (by omega) hL3 dl_403 dl_404 dl_405 dl_406 dl_407 ?_
  refine l_arg C0 hH1 (k := 2) rfl (by omega) hL3 dl_408 dl_409 dl_410 dl_411 dl_412 ?_
  refine l_arg C0 hH1 (k := 3) rfl (by omega) hL3 dl_413 dl_414 dl_415 dl_416 dl_417 ?_
  refine l_argJ1 (k := 3) C0 dl_418 dl_419 dl_421 ?_
  refine l_arg C0 hH1 (k := 4) rfl (by omega) hL3 dl_422 dl_423 dl_424 dl_425 dl_426 ?_
  refine l_argJ2 (k := 3) (j := 4) C0 dl_427 dl_428 kcl_Law_32 dl_431 dl_432 ?_
  refine l_callY (as := [(0, l_a xs i 1), (0, l_a xs i 2), (1, l_aJ xs i 3 4)]) (st := [.int (Int32.ofInt r)]) (d' := 3) C0 hK hH1 dl_433 mi_M_write ml_Law_38 mv_M_write se_M_write rfl rfl rfl (z_op (z_op (z_op (fun _ h => by cases h) (l_aJr xs i _ _)) (l_ar xs i _)) (l_ar xs i _)) rfl (by simp [Value.category]) hQ fun r1 gm1 H2 _ hH2 hq => ?_
  show l_J p l e s m below meth c b 436 i [.int (Int32.ofInt r1), .int (Int32.ofInt r)] H2
  rw [hq.1]
  exact l_cmpI C0 dl_436 (by decide) (nx gx1 gm1 H2 hH2 hq.2)
theorem l_c5 (C0 : lw_At p s m meth c b L xs) (hL3 : L ≤ 3072) {tl : Nat} (hK : z_K (l_X l D A s.heap.size aK aV tl s.heap) s) (hH : l_H l D A s.heap.size aK aV s.heap gx gm H) (I : Inv gx gm) {i : Int} (hi : 0 ≤ i ∧ i + 6 ≤ L) (nx : ∀ gx' gm' H', l_H l D A s.heap.size aK aV s.heap gx' gm' H' → Inv gx' gm' → l_J p l e s m below meth c b 2134 i [] H') : l_J p l e s m below meth c b 441 i [] H := by
  refine l_ald1 C0 dl_441 ?_
  refine l_arg C0 hH (k := 1) rfl (by omega) hL3 dl_442 dl_443 dl_444 dl_445 dl_446 ?_
  refine l_arg C0 hH (k := 2) rfl (by omega) hL3 dl_447 dl_448 dl_449 dl_450 dl_451 ?_
  refine l_callX (as := [(0, l_a xs i 1), (0, l_a xs i 2)]) (st := []) (d' := 5) C0 hK hH dl_452 mi_F_read ml_Law_39 mv_F_read se_F_read rfl rfl rfl (z_op (z_op (fun _ h => by cases h) (l_ar xs i _)) (l_ar xs i _)) rfl (by decide) (Qh := fun h' r gx' => z_O (l_Y l D A s.heap.size aK aV h') 3 m_M_read [(2, 0), (0, l_a xs i 1), (0, l_a xs i 2)] 18 kS_M gm (fun r' gm' => r' = r ∧ Inv gx' gm')) (fun h' => o_read l_layX l_layY I (l_ar xs i _) (l_ar xs i _)) fun r gx1 H1 _ hH1 hQ => ?_
  show l_J p l e s m below meth c b 455 i [.long (Int64.ofInt r)] H1
  refine l_ald2 C0 dl_455 ?_
  refine l_arg C0 hH1 (k := 1) rfl (by omega) hL3 dl_456 dl_457 dl_458 dl_459 dl_460 ?_
  refine l_arg C0 hH1 (k := 2) rfl (by omega) hL3 dl_461 dl_462 dl_463 dl_464 dl_465 ?_
  refine l_callY (as := [(0, l_a xs i 1), (0, l_a xs i 2)]) (st := [.long (Int64.ofInt r)]) (d' := 3) C0 hK hH1 dl_466 mi_M_read ml_Law_43 mv_M_read se_M_read rfl rfl rfl (z_op (z_op (fun _ h => by cases h) (l_ar xs i _)) (l_ar xs i _)) rfl (by simp [Value.category]) hQ fun r1 gm1 H2 _ hH2 hq => ?_
  show l_J p l e s m below meth c b 469 i [.long (Int64.ofInt r1), .long (Int64.ofInt r)] H2
  rw [hq.1]
  exact l_cmpJ C0 dl_469 dl_470 (by decide) (nx gx1 gm1 H2 hH2 hq.2)
theorem l_c6 (C0 : lw_At p s m meth c b L xs) (hL3 : L ≤ 3072) {tl : Nat} (hK : z_K (l_X l D A s.heap.size aK aV tl s.heap) s) (hH : l_H l D A s.heap.size aK aV s.heap gx gm H) (I : Inv gx gm) {i : Int} (hi : 0 ≤ i ∧ i + 6 ≤ L) (nx : ∀ gx' gm' H', l_H l D A s.heap.size aK aV s.heap gx' gm' H' → Inv gx' gm' → l_J p l e s m below meth c b 2134 i [] H') : l_J p l e s m below meth c b 475 i [] H := by
  refine l_ald1 C0 dl_475 ?_
  refine l_arg C0 hH (k := 1) rfl (by omega) hL3 dl_476 dl_477 dl_478 dl_479 dl_480 ?_
  refine l_arg C0 hH (k := 2) rfl (by omega) hL3 dl_481 dl_482 dl_483 dl_484 dl_485 ?_
  refine l_arg C0 hH (k := 3) rfl (by omega) hL3 dl_486 dl_487 dl_488 dl_489 dl_490 ?_
  refine l_arg C0 hH (k := 4) rfl (by omega) hL3 dl_491 dl_492 dl_493 dl_494 dl_495 ?_
  refine l_arg C0 hH (k := 5) rfl (by omega) hL3 dl_496 dl_497 dl_498 dl_499 dl_500 ?_
  refine l_callX (as := [(0, l_a xs i 1), (0, l_a xs i 2), (0, l_a xs i 3), (0, l_a xs i 4), (0, l_a xs i 5)]) (st := []) (d' := 5) C0 hK hH dl_501 mi_F_pour ml_Law_44 mv_F_pour se_F_pour rfl rfl rfl (z_op (z_op (z_op (z_op (z_op (fun _ h => by cases h) (l_ar xs i _)) (l_ar xs i _)) (l_ar xs i _)) (l_ar xs i _)) (l_ar xs i _)) rfl (by decide) (Qh := fun h' r gx' => z_O (l_Y l D A s.heap.size aK aV h') 2 m_M_pour [(2, 0), (0, l_a xs i 1), (0, l_a xs i 2), (0, l_a xs i 3), (0, l_a xs i 4), (0, l_a xs i 5)] 18 kS_M gm (fun r' gm' => r' = r ∧ Inv gx' gm')) (fun h' => o_pour l_layX l_layY I (l_ar xs i _) (l_ar xs i _) (l_ar xs i _) (l_ar xs i _) (l_ar xs i _)) fun r gx1 H1 _ hH1 hQ => ?_
  show l_J p l e s m below meth c b 504 i [.int (Int32.ofInt r)] H1
  refine l_ald2 C0 dl_504 ?_
  refine l_arg C0 hH1 (k := 1) rfl (by omega) hL3 dl_505 dl_506 dl_507 dl_508 dl_509 ?_
  refine l_arg C0 hH1 (k := 2) rfl (by omega) hL3 dl_510 dl_511 dl_512 dl_513 dl_514 ?_
  refine l_arg C0 hH1 (k := 3) rfl (by omega) hL3 dl_515 dl_516 dl_517 dl_518 dl_519 ?_
  refine l_arg C0 hH1 (k := 4) rfl (by omega) hL3 dl_520 dl_521 dl_522 dl_523 dl_524 ?_
  refine l_arg C0 hH1 (k := 5) rfl (by omega) hL3 dl_525 dl_526 dl_527 dl_528 dl_529 ?_
  refine l_callY (as := [(0, l_a xs i 1), (0, l_a xs i 2), (0, l_a xs i 3), (0, l_a xs i 4), (0, l_a xs i 5)]) (st := [.int (Int32.ofInt r)]) (d' := 2) C0 hK hH1 dl_530 mi_M_pour ml_Law_48 mv_M_pour se_M_pour rfl rfl rfl (z_op (z_op (z_op (z_op (z_op (fun _ h => by cases h) (l_ar xs i _)) (l_ar xs i _)) (l_ar xs i _)) (l_ar xs i _)) (l_ar xs i _)) rfl (by simp [Value.category]) hQ fun r1 gm1 H2 _ hH2 hq => ?_
  show l_J p l e s m below meth c b 533 i [.int (Int32.ofInt r1), .int (Int32.ofInt r)] H2
  rw [hq.1]
  exact l_cmpI C0 dl_533 (by decide) (nx gx1 gm1 H2 hH2 hq.2)
theorem l_c7 (C0 : lw_At p s m meth c b L xs) (hL3 : L ≤ 3072) {tl : Nat} (hK : z_K (l_X l D A s.heap.size aK aV tl s.heap) s) (hH : l_H l D A s.heap.size aK aV s.heap gx gm H) (I : Inv gx gm) {i : Int} (hi : 0 ≤ i ∧ i + 6 ≤ L) (nx : ∀ gx' gm' H', l_H l D A s.heap.size aK aV s.heap gx' gm' H' → Inv gx' gm' → l_J p l e s m below meth c b 2134 i [] H') : l_J p l e s m below meth c b 538 i [] H := by
  refine l_ald1 C0 dl_538 ?_
  refine l_arg C0 hH (k := 1) rfl (by omega) hL3 dl_539 dl_540 dl_541 dl_542 dl_543 ?_
  refine l_arg C0 hH (k := 2) rfl (by omega) hL3 dl_544 dl_545 dl_546 dl_547 dl_548 ?_
  refine l_arg C0 hH (k := 3) rfl (by omega) hL3 dl_549 dl_550 dl_551 dl_552 dl_553 ?_
  refine l_arg C0 hH (k := 4) rfl (by omega) hL3 dl_554 dl_555 dl_556 dl_557 dl_558 ?_
  refine l_arg C0 hH (k := 5) rfl (by omega) hL3 dl_559 dl_560 dl_561 dl_562 dl_563 ?_
  refine l_callX (as := [(0, l_a xs i 1), (0, l_a xs i 2), (0, l_a xs i 3), (0, l_a xs i 4), (0, l_a xs i 5)]) (st := []) (d' := 2) C0 hK hH dl_564 mi_F_feed ml_Law_49 mv_F_feed se_F_feed rfl rfl rfl (z_op (z_op (z_op (z_op (z_op (fun _ h => by cases h) (l_ar xs i _)) (l_ar xs i _)) (l_ar xs i _)) (l_ar xs i _)) (l_ar xs i _)) rfl (by decide) (Qh := fun h' r gx' => z_O (l_Y l D A s.heap.size aK aV h') 2 m_M_feed [(2, 0), (0, l_a xs i 1), (0, l_a xs i 2), (0, l_a xs i 3), (0, l_a xs i 4), (0, l_a xs i 5)] 18 kS_M gm (fun r' gm' => r' = r ∧ Inv gx' gm')) (fun h' => o_feed l_layX l_layY I (l_ar xs i _) (l_ar xs i _) (l_ar xs i _) (l_ar xs i _) (l_ar xs i _)) fun r gx1 H1 _ hH1 hQ => ?_
  show l_J p l e s m below meth c b 567 i [.int (Int32.ofInt r)] H1
  refine l_ald2 C0 dl_567 ?_
  refine l_arg C0 hH1 (k := 1) rfl (by omega) hL3 dl_568 dl_569 dl_570 dl_571 dl_572 ?_
  refine l_arg C0 hH1 (k := 2) rfl (by omega) hL3 dl_573 dl_574 dl_575 dl_576 dl_577 ?_
  refine l_arg C0 hH1 (k := 3) rfl (by omega) hL3 dl_578 dl_579 dl_580 dl_581 dl_582 ?_
  refine l_arg C0 hH1 (k := 4) rfl (by omega) hL3 dl_583 dl_584 dl_585 dl_586 dl_587 ?_
  refine l_arg C0 hH1 (k := 5) rfl (by omega) hL3 dl_588 dl_589 dl_590 dl_591 dl_592 ?_
  refine l_callY (as := [(0, l_a xs i 1), (0, l_a xs i 2), (0, l_a xs i 3), (0, l_a xs i 4), (0, l_a xs i 5)]) (st := [.int (Int32.ofInt r)]) (d' := 2) C0 hK hH1 dl_593 mi_M_feed ml_Law_53 mv_M_feed se_M_feed rfl rfl rfl (z_op (z_op (z_op (z_op (z_op (fun _ h => by cases h) (l_ar xs i _)) (l_ar xs i _)) (l_ar xs i _)) (l_ar xs i _)) (l_ar xs i _)) rfl (by simp [Value.category]) hQ fun r1 gm1 H2 _ hH2 hq => ?_
  show l_J p l e s m below meth c b 596 i [.int (Int32.ofInt r1), .int (Int32.ofInt r)] H2
  rw [hq.1]
  exact l_cmpI C0 dl_596 (by decide) (nx gx1 gm1 H2 hH2 hq.2)
theorem l_c8 (C0 : lw_At p s m meth c b L xs) (hL3 : L ≤ 3072) {tl : Nat} (hK : z_K (l_X l D A s.heap.size aK aV tl s.heap) s) (hH : l_H l D A s.heap.size aK aV s.heap gx gm H) (I : Inv gx gm) {i : Int} (hi : 0 ≤ i ∧ i + 6 ≤ L) (nx : ∀ gx' gm' H', l_H l D A s.heap.size aK aV s.heap gx' gm' H' → Inv gx' gm' → l_J p l e s m below meth c b 2134 i [] H') : l_J p l e s m below meth c b 601 i [] H := by
  refine l_ald1 C0 dl_601 ?_
  refine l_arg C0 hH (k := 1) rfl (by omega) hL3 dl_602 dl_603 dl_604 dl_605 dl_606 ?_
  refine l_callX (as := [(0, l_a xs i 1)]) (st := []) (d' := 13) C0 hK hH dl_607 mi_F_study ml_Law_54 mv_F_study se_F_study rfl rfl rfl (z_op (fun _ h => by cases h) (l_ar xs i _)) rfl (by decide) (Qh := fun h' r gx' => z_O (l_Y l D A s.heap.size aK aV h') 12 m_M_study [(2, 0), (0, l_a xs i 1)] 18 kS_M gm (fun r' gm' => r' = r ∧ Inv gx' gm')) (fun h' => o_study l_layX l_layY (z_St_all _ _ _) (z_St_all _ _ _) I (l_ar xs i _)) fun r gx1 H1 _ hH1 hQ => ?_
  show l_J p l e s m below meth c b 610 i [.int (Int32.ofInt r)] H1
  refine l_ald2 C0 dl_610 ?_
  refine l_arg C0 hH1 (k := 1) rfl (by omega) hL3 dl_611 dl_612 dl_613 dl_614 dl_615 ?_
  refine l_callY (as := [(0, l_a xs i 1)]) (st := [.int (Int32.ofInt r)]) (d' := 12) C0 hK hH1 dl_616 mi_M_study ml_Law_58 mv_M_study se_M_study rfl rfl rfl (z_op (fun _ h => by cases h) (l_ar xs i _)) rfl (by simp [Value.category]) hQ fun r1 gm1 H2 _ hH2 hq => ?_
  show l_J p l e s m below meth c b 619 i [.int (Int32.ofInt r1), .int (Int32.ofInt r)] H2
  rw [hq.1]
  exact l_cmpI C0 dl_619 (by decide) (nx gx1 gm1 H2 hH2 hq.2)
theorem l_c9 (C0 : lw_At p s m meth c b L xs) (hL3 : L ≤ 3072) {tl : Nat} (hK : z_K (l_X l D A s.heap.size aK aV tl s.heap) s) (hH : l_H l D A s.heap.size aK aV s.heap gx gm H) (I : Inv gx gm) {i : Int} (hi : 0 ≤ i ∧ i + 6 ≤ L) (nx : ∀ gx' gm' H', l_H l D A s.heap.size aK aV s.heap gx' gm' H' → Inv gx' gm' → l_J p l e s m below meth c b 2134 i [] H') : l_J p l e s m below meth c b 624 i [] H := by
  refine l_ald1 C0 dl_624 ?_
  refine l_arg C0 hH (k := 1) rfl (by omega) hL3 dl_625 dl_626 dl_627 dl_628 dl_629 ?_
  refine l_callX (as := [(0, l_a xs i 1)]) (st := []) (d' := 13) C0 hK hH dl_630 mi_F_tours ml_Law_59 mv_F_tours se_F_tours rfl rfl rfl (z_op (fun _ h => by cases h) (l_ar xs i _)) rfl (by decide) (Qh := fun h' r gx' => z_O (l_Y l D A s.heap.size aK aV h') 13 m_M_tours [(2, 0), (0, l_a xs i 1)] 18 kS_M gm (fun r' gm' => r' = r ∧ Inv gx' gm')) (fun h' => o_tours l_layX l_layY (z_St_all _ _ _) (z_St_all _ _ _) I (l_ar xs i _)) fun r gx1 H1 _ hH1 hQ => ?_
  show l_J p l e s m below meth c b 633 i [.int (Int32.ofInt r)] H1
  refine l_ald2 C0 dl_633 ?_
  refine l_arg C0 hH1 (k := 1) rfl (by omega) hL3 dl_634 dl_635 dl_636 dl_637 dl_638 ?_
  refine l_callY (as := [(0, l_a xs i 1)]) (st := [.int (Int32.ofInt r)]) (d' := 13) C0 hK hH1 dl_639 mi_M_tours ml_Law_62 mv_M_tours se_M_tours rfl rfl rfl (z_op (fun _ h => by cases h) (l_ar xs i _)) rfl (by simp [Value.category]) hQ fun r1 gm1 H2 _ hH2 hq => ?_
  show l_J p l e s m below meth c b 642 i [.int (Int32.ofInt r1), .int (Int32.ofInt r)] H2
  rw [hq.1]
  exact l_cmpI C0 dl_642 (by decide) (nx gx1 gm1 H2 hH2 hq.2)
theorem l_c10 (C0 : lw_At p s m meth c b L xs) (hL3 : L ≤ 3072) {tl : Nat} (hK : z_K (l_X l D A s.heap.size aK aV tl s.heap) s) (hH : l_H l D A s.heap.size aK aV s.heap gx gm H) (I : Inv gx gm) {i : Int} (hi : 0 ≤ i ∧ i + 6 ≤ L) (nx : ∀ gx' gm' H', l_H l D A s.heap.size aK aV s.heap gx' gm' H' → Inv gx' gm' → l_J p l e s m below meth c b 2134 i [] H') : l_J p l e s m below meth c b 647 i [] H := by
  refine l_ald1 C0 dl_647 ?_
  refine l_arg C0 hH (k := 1) rfl (by omega) hL3 dl_648 dl_649 dl_650 dl_651 dl_652 ?_
  refine l_callX (as := [(0, l_a xs i 1)]) (st := []) (d' := 1) C0 hK hH dl_653 mi_F_fault ml_Law_63 mv_F_fault se_F_fault rfl rfl rfl (z_op (fun _ h => by cases h) (l_ar xs i _)) rfl (by decide) (Qh := fun h' r gx' => z_O (l_Y l D A s.heap.size aK aV h') 1 m_M_fault [(2, 0), (0, l_a xs i 1)] 18 kS_M gm (fun r' gm' => r' = r ∧ Inv gx' gm')) (fun h' => o_fault l_layX l_layY I (l_ar xs i _)) fun r gx1 H1 _ hH1 hQ => ?_
  show l_J p l e s m below meth c b 656 i [.int (Int32.ofInt r)] H1
  refine l_ald2 C0 dl_656 ?_
  refine l_arg C0 hH1 (k := 1) rfl (by omega) hL3 dl_657 dl_658 dl_659 dl_660 dl_661 ?_
  refine l_callY (as := [(0, l_a xs i 1)]) (st := [.int (Int32.ofInt r)]) (d' := 1) C0 hK hH1 dl_662 mi_M_fault ml_Law_66 mv_M_fault se_M_fault rfl rfl rfl (z_op (fun _ h => by cases h) (l_ar xs i _)) rfl (by simp [Value.category]) hQ fun r1 gm1 H2 _ hH2 hq => ?_
  show l_J p l e s m below meth c b 665 i [.int (Int32.ofInt r1), .int (Int32.ofInt r)] H2
  rw [hq.1]
  exact l_cmpI C0 dl_665 (by decide) (nx gx1 gm1 H2 hH2 hq.2)
theorem l_c11 (C0 : lw_At p s m meth c b L xs) (hL3 : L ≤ 3072) {tl : Nat} (hK : z_K (l_X l D A s.heap.size aK aV tl s.heap) s) (hH : l_H l D A s.heap.size aK aV s.heap gx gm H) (I : Inv gx gm) {i : Int} (hi : 0 ≤ i ∧ i + 6 ≤ L) (nx : ∀ gx' gm' H', l_H l D A s.heap.size aK aV s.heap gx' gm' H' → Inv gx' gm' → l_J p l e s m below meth c b 2134 i [] H') : l_J p l e s m below meth c b 670 i [] H := by
  refine l_ald1 C0 dl_670 ?_
  refine l_arg C0 hH (k := 1) rfl (by omega) hL3 dl_671 dl_672 dl_673 dl_674 dl_675 ?_
  refine l_callX (as := [(0, l_a xs i 1)]) (st := []) (d' := 4) C0 hK hH dl_676 mi_F_told ml_Law_67 mv_F_told se_F_told rfl rfl rfl (z_op (fun _ h => by cases h) (l_ar xs i _)) rfl (by decide) (Qh := fun h' r gx' => z_O (l_Y l D A s.heap.size aK aV h') 4 m_M_told [(2, 0), (0, l_a xs i 1)] 18 kS_M gm (fun r' gm' => r' = r ∧ Inv gx' gm')) (fun h' => o_told l_layX l_layY I (l_ar xs i _)) fun r gx1 H1 _ hH1 hQ => ?_
  show l_J p l e s m below meth c b 679 i [.int (Int32.ofInt r)] H1
  refine l_ald2 C0 dl_679 ?_
  refine l_arg C0 hH1 (k := 1) rfl (by omega) hL3 dl_680 dl_681 dl_682 dl_683 dl_684 ?_
  refine l_callY (as := [(0, l_a xs i 1)]) (st := [.int (Int32.ofInt r)]) (d' := 4) C0 hK hH1 dl_685 mi_M_told ml_Law_70 mv_M_told se_M_told rfl rfl rfl (z_op (fun _ h => by cases h) (l_ar xs i _)) rfl (by simp [Value.category]) hQ fun r1 gm1 H2 _ hH2 hq => ?_
  show l_J p l e s m below meth c b 688 i [.int (Int32.ofInt r1), .int (Int32.ofInt r)] H2
  rw [hq.1]
  exact l_cmpI C0 dl_688 (by decide) (nx gx1 gm1 H2 hH2 hq.2)
theorem l_c12 (C0 : lw_At p s m meth c b L xs) (hL3 : L ≤ 3072) {tl : Nat} (hK : z_K (l_X l D A s.heap.size aK aV tl s.heap) s) (hH : l_H l D A s.heap.size aK aV s.heap gx gm H) (I : Inv gx gm) {i : Int} (hi : 0 ≤ i ∧ i + 6 ≤ L) (nx : ∀ gx' gm' H', l_H l D A s.heap.size aK aV s.heap gx' gm' H' → Inv gx' gm' → l_J p l e s m below meth c b 2134 i [] H') : l_J p l e s m below meth c b 693 i [] H := by
  refine l_ald1 C0 dl_693 ?_
  refine l_arg C0 hH (k := 1) rfl (by omega) hL3 dl_694 dl_695 dl_696 dl_697 dl_698 ?_
  refine l_callX (as := [(0, l_a xs i 1)]) (st := []) (d' := 3) C0 hK hH dl_699 mi_F_size ml_Law_71 mv_F_size se_F_size rfl rfl rfl (z_op (fun _ h => by cases h) (l_ar xs i _)) rfl (by decide) (Qh := fun h' r gx' => z_O (l_Y l D A s.heap.size aK aV h') 3 m_M_size [(2, 0), (0, l_a xs i 1)] 18 kS_M gm (fun r' gm' => r' = r ∧ Inv gx' gm')) (fun h' => o_size l_layX l_layY I (l_ar xs i _)) fun r gx1 H1 _ hH1 hQ => ?_
  show l_J p l e s m below meth c b 702 i [.int (Int32.ofInt r)] H1
  refine l_ald2 C0 dl_702 ?_
  refine l_arg C0 hH1 (k := 1) rfl (by omega) hL3 dl_703 dl_704 dl_705 dl_706 dl_707 ?_
  refine l_callY (as := [(0, l_a xs i 1)]) (st := [.int (Int32.ofInt r)]) (d' := 3) C0 hK hH1 dl_708 mi_M_size ml_Law_74 mv_M_size se_M_size rfl rfl rfl (z_op (fun _ h => by cases h) (l_ar xs i _)) rfl (by simp [Value.category]) hQ fun r1 gm1 H2 _ hH2 hq => ?_
  show l_J p l e s m below meth c b 711 i [.int (Int32.ofInt r1), .int (Int32.ofInt r)] H2
  rw [hq.1]
  exact l_cmpI C0 dl_711 (by decide) (nx gx1 gm1 H2 hH2 hq.2)
theorem l_c13 (C0 : lw_At p s m meth c b L xs) (hL3 : L ≤ 3072) {tl : Nat} (hK : z_K (l_X l D A s.heap.size aK aV tl s.heap) s) (hH : l_H l D A s.heap.size aK aV s.heap gx gm H) (I : Inv gx gm) {i : Int} (hi : 0 ≤ i ∧ i + 6 ≤ L) (nx : ∀ gx' gm' H', l_H l D A s.heap.size aK aV s.heap gx' gm' H' → Inv gx' gm' → l_J p l e s m below meth c b 2134 i [] H') : l_J p l e s m below meth c b 716 i [] H := by
  refine l_ald1 C0 dl_716 ?_
  refine l_arg C0 hH (k := 1) rfl (by omega) hL3 dl_717 dl_718 dl_719 dl_720 dl_721 ?_
  refine l_callX (as := [(0, l_a xs i 1)]) (st := []) (d' := 4) C0 hK hH dl_722 mi_F_fraction ml_Law_75 mv_F_fraction se_F_fraction rfl rfl rfl (z_op (fun _ h => by cases h) (l_ar xs i _)) rfl (by decide) (Qh := fun h' r gx' => z_O (l_Y l D A s.heap.size aK aV h') 4 m_M_fraction [(2, 0), (0, l_a xs i 1)] 18 kS_M gm (fun r' gm' => r' = r ∧ Inv gx' gm')) (fun h' => o_fraction l_layX l_layY I (l_ar xs i _)) fun r gx1 H1 _ hH1 hQ => ?_
  show l_J p l e s m below meth c b 725 i [.int (Int32.ofInt r)] H1
  refine l_ald2 C0 dl_725 ?_
  refine l_arg C0 hH1 (k := 1) rfl (by omega) hL3 dl_726 dl_727 dl_728 dl_729 dl_730 ?_
  refine l_callY (as := [(0, l_a xs i 1)]) (st := [.int (Int32.ofInt r)]) (d' := 4) C0 hK hH1 dl_731 mi_M_fraction ml_Law_79 mv_M_fraction se_M_fraction rfl rfl rfl (z_op (fun _ h => by cases h) (l_ar xs i _)) rfl (by simp [Value.category]) hQ fun r1 gm1 H2 _ hH2 hq => ?_
  show l_J p l e s m below meth c b 734 i [.int (Int32.ofInt r1), .int (Int32.ofInt r)] H2
  rw [hq.1]
  exact l_cmpI C0 dl_734 (by decide) (nx gx1 gm1 H2 hH2 hq.2)
theorem l_c14 (C0 : lw_At p s m meth c b L xs) (hL3 : L ≤ 3072) {tl : Nat} (hK : z_K (l_X l D A s.heap.size aK aV tl s.heap) s) (hH : l_H l D A s.heap.size aK aV s.heap gx gm H) (I : Inv gx gm) {i : Int} (hi : 0 ≤ i ∧ i + 6 ≤ L) (nx : ∀ gx' gm' H', l_H l D A s.heap.size aK aV s.heap gx' gm' H' → Inv gx' gm' → l_J p l e s m below meth c b 2134 i [] H') : l_J p l e s m below meth c b 739 i [] H := by
  refine l_ald1 C0 dl_739 ?_
  refine l_arg C0 hH (k := 1) rfl (by omega) hL3 dl_740 dl_741 dl_742 dl_743 dl_744 ?_
  refine l_arg C0 hH (k := 2) rfl (by omega) hL3 dl_745 dl_746 dl_747 dl_748 dl_749 ?_
  refine l_callX (as := [(0, l_a xs i 1), (0, l_a xs i 2)]) (st := []) (d' := 4) C0 hK hH dl_750 mi_F_place ml_Law_80 mv_F_place se_F_place rfl rfl rfl (z_op (z_op (fun _ h => by cases h) (l_ar xs i _)) (l_ar xs i _)) rfl (by decide) (Qh := fun h' r gx' => z_O (l_Y l D A s.heap.size aK aV h') 5 m_M_place [(2, 0), (0, l_a xs i 1), (0, l_a xs i 2)] 18 kS_M gm (fun r' gm' => r' = r ∧ Inv gx' gm')) (fun h' => o_place l_layX l_layY I (l_ar xs i _) (l_ar xs i _)) fun r gx1 H1 _ hH1 hQ => ?_
  show l_J p l e s m below meth c b 753 i [.int (Int32.ofInt r)] H1
  refine l_ald2 C0 dl_753 ?_
  refine l_arg C0 hH1 (k := 1) rfl (by omega) hL3 dl_754 dl_755 dl_756 dl_757 dl_758 ?_
  refine l_arg C0 hH1 (k := 2) rfl (by omega) hL3 dl_759 dl_760 dl_761 dl_762 dl_763 ?_
  refine l_callY (as := [(0, l_a xs i 1), (0, l_a xs i 2)]) (st := [.int (Int32.ofInt r)]) (d' := 5) C0 hK hH1 dl_764 mi_M_place ml_Law_84 mv_M_place se_M_place rfl rfl rfl (z_op (z_op (fun _ h => by cases h) (l_ar xs i _)) (l_ar xs i _)) rfl (by simp [Value.category]) hQ fun r1 gm1 H2 _ hH2 hq => ?_
  show l_J p l e s m below meth c b 767 i [.int (Int32.ofInt r1), .int (Int32.ofInt r)] H2
  rw [hq.1]
  exact l_cmpI C0 dl_767 (by decide) (nx gx1 gm1 H2 hH2 hq.2)
theorem l_c15 (C0 : lw_At p s m meth c b L xs) (hL3 : L ≤ 3072) {tl : Nat} (hK : z_K (l_X l D A s.heap.size aK aV tl s.heap) s) (hH : l_H l D A s.heap.size aK aV s.heap gx gm H) (I : Inv gx gm) {i : Int} (hi : 0 ≤ i ∧ i + 6 ≤ L) (nx : ∀ gx' gm' H', l_H l D A s.heap.size aK aV s.heap gx' gm' H' → Inv gx' gm' → l_J p l e s m below meth c b 2134 i [] H') : l_J p l e s m below meth c b 772 i [] H := by
  refine l_ald1 C0 dl_772 ?_
  refine l_arg C0 hH (k := 1) rfl (by omega) hL3 dl_773 dl_774 dl_775 dl_776 dl_777 ?_
  refine l_arg C0 hH (k := 2) rfl (by omega) hL3 dl_778 dl_779 dl_780 dl_781 dl_782 ?_
  refine l_callX (as := [(0, l_a xs i 1), (0, l_a xs i 2)]) (st := []) (d' := 4) C0 hK hH dl_783 mi_F_rank ml_Law_85 mv_F_rank se_F_rank rfl rfl rfl (z_op (z_op (fun _ h => by cases h) (l_ar xs i _)) (l_ar xs i _)) rfl (by decide) (Qh := fun h' r gx' => z_O (l_Y l D A s.heap.size aK aV h') 5 m_M_rank [(2, 0), (0, l_a xs i 1), (0, l_a xs i 2)] 18 kS_M gm (fun r' gm' => r' = r ∧ Inv gx' gm')) (fun h' => o_rank l_layX l_layY I (l_ar xs i _) (l_ar xs i _)) fun r gx1 H1 _ hH1 hQ => ?_
  show l_J p l e s m below meth c b 786 i [.int (Int32.ofInt r)] H1
  refine l_ald2 C0 dl_786 ?_
  refine l_arg C0 hH1 (k := 1) rfl (by omega) hL3 dl_787 dl_788 dl_789 dl_790 dl_791 ?_
  refine l_arg C0 hH1 (k := 2) rfl (by omega) hL3 dl_792 dl_793 dl_794 dl_795 dl_796 ?_
  refine l_callY (as := [(0, l_a xs i 1), (0, l_a xs i 2)]) (st := [.int (Int32.ofInt r)]) (d' := 5) C0 hK hH1 dl_797 mi_M_rank ml_Law_88 mv_M_rank se_M_rank rfl rfl rfl (z_op (z_op (fun _ h => by cases h) (l_ar xs i _)) (l_ar xs i _)) rfl (by simp [Value.category]) hQ fun r1 gm1 H2 _ hH2 hq => ?_
  show l_J p l e s m below meth c b 800 i [.int (Int32.ofInt r1), .int (Int32.ofInt r)] H2
  rw [hq.1]
  exact l_cmpI C0 dl_800 (by decide) (nx gx1 gm1 H2 hH2 hq.2)
theorem l_c16 (C0 : lw_At p s m meth c b L xs) (hL3 : L ≤ 3072) {tl : Nat} (hK : z_K (l_X l D A s.heap.size aK aV tl s.heap) s) (hH : l_H l D A s.heap.size aK aV s.heap gx gm H) (I : Inv gx gm) {i : Int} (hi : 0 ≤ i ∧ i + 6 ≤ L) (nx : ∀ gx' gm' H', l_H l D A s.heap.size aK aV s.heap gx' gm' H' → Inv gx' gm' → l_J p l e s m below meth c b 2134 i [] H') : l_J p l e s m below meth c b 805 i [] H := by
  refine l_ald1 C0 dl_805 ?_
  refine l_arg C0 hH (k := 1) rfl (by omega) hL3 dl_806 dl_807 dl_808 dl_809 dl_810 ?_
  refine l_argJ1 (k := 1) C0 dl_811 dl_812 dl_814 ?_
  refine l_arg C0 hH (k := 2) rfl (by omega) hL3 dl_815 dl_816 dl_817 dl_818 dl_819 ?_
  refine l_argJ2 (k := 1) (j := 2) C0 dl_820 dl_821 kcl_Law_32 dl_824 dl_825 ?_
  refine l_arg C0 hH (k := 3) rfl (by omega) hL3 dl_826 dl_827 dl_828 dl_829 dl_830 ?_
  refine l_callX (as := [(1, l_aJ xs i 1 2), (0, l_a xs i 3)]) (st := []) (d' := 2) C0 hK hH dl_831 mi_F_below ml_Law_89 mv_F_below se_F_below rfl rfl rfl (z_op (z_op (fun _ h => by cases h) (l_ar xs i _)) (l_aJr xs i _ _)) rfl (by decide) (Qh := fun h' r gx' => z_O (l_Y l D A s.heap.size aK aV h') 4 m_M_below [(2, 0), (1, l_aJ xs i 1 2), (0, l_a xs i 3)] 18 kS_M gm (fun r' gm' => r' = r ∧ Inv gx' gm')) (fun h' => o_below l_layX l_layY I (l_aJr xs i _ _) (l_ar xs i _)) fun r gx1 H1 _ hH1 hQ => ?_
  show l_J p l e s m below meth c b 834 i [.int (Int32.ofInt r)] H1
  refine l_ald2 C0 dl_834 ?_
  refine l_arg C0 hH1 (k := 1) rfl (by omega) hL3 dl_835 dl_836 dl_837 dl_838 dl_839 ?_
  refine l_argJ1 (k := 1) C0 dl_840 dl_841 dl_843 ?_
  refine l_arg C0 hH1 (k := 2) rfl (by omega) hL3 dl_844 dl_845 dl_846 dl_847 dl_848 ?_
  refine l_argJ2 (k := 1) (j := 2) C0 dl_849 dl_850 kcl_Law_32 dl_853 dl_854 ?_
  refine l_arg C0 hH1 (k := 3) rfl (by omega) hL3 dl_855 dl_856 dl_857 dl_858 dl_859 ?_
  refine l_callY (as := [(1, l_aJ xs i 1 2), (0, l_a xs i 3)]) (st := [.int (Int32.ofInt r)]) (d' := 4) C0 hK hH1 dl_860 mi_M_below ml_Law_93 mv_M_below se_M_below rfl rfl rfl (z_op (z_op (fun _ h => by cases h) (l_ar xs i _)) (l_aJr xs i _ _)) rfl (by simp [Value.category]) hQ fun r1 gm1 H2 _ hH2 hq => ?_
  show l_J p l e s m below meth c b 863 i [.int (Int32.ofInt r1), .int (Int32.ofInt r)] H2
  rw [hq.1]
  exact l_cmpI C0 dl_863 (by decide) (nx gx1 gm1 H2 hH2 hq.2)
theorem l_c17 (C0 : lw_At p s m meth c b L xs) (hL3 : L ≤ 3072) {tl : Nat} (hK : z_K (l_X l D A s.heap.size aK aV tl s.heap) s) (hH : l_H l D A s.heap.size aK aV s.heap gx gm H) (I : Inv gx gm) {i : Int} (hi : 0 ≤ i ∧ i + 6 ≤ L) (nx : ∀ gx' gm' H', l_H l D A s.heap.size aK aV s.heap gx' gm' H' → Inv gx' gm' → l_J p l e s m below meth c b 2134 i [] H') : l_J p l e s m below meth c b 868 i [] H := by
  refine l_ald1 C0 dl_868 ?_
  refine l_arg C0 hH (k := 1) rfl (by omega) hL3 dl_869 dl_870 dl_871 dl_872 dl_873 ?_
  refine l_arg C0 hH (k := 2) rfl (by omega) hL3 dl_874 dl_875 dl_876 dl_877 dl_878 ?_
  refine l_callX (as := [(0, l_a xs i 1), (0, l_a xs i 2)]) (st := []) (d' := 4) C0 hK hH dl_879 mi_F_above ml_Law_94 mv_F_above se_F_above rfl rfl rfl (z_op (z_op (fun _ h => by cases h) (l_ar xs i _)) (l_ar xs i _)) rfl (by decide) (Qh := fun h' r gx' => z_O (l_Y l D A s.heap.size aK aV h') 5 m_M_above [(2, 0), (0, l_a xs i 1), (0, l_a xs i 2)] 18 kS_M gm (fun r' gm' => r' = r ∧ Inv gx' gm')) (fun h' => o_above l_layX l_layY I (l_ar xs i _) (l_ar xs i _)) fun r gx1 H1 _ hH1 hQ => ?_
  show l_J p l e s m below meth c b 882 i [.int (Int32.ofInt r)] H1
  refine l_ald2 C0 dl_882 ?_
  refine l_arg C0 hH1 (k := 1) rfl (by omega) hL3 dl_883 dl_884 dl_885 dl_886 dl_887 ?_
  refine l_arg C0 hH1 (k := 2) rfl (by omega) hL3 dl_888 dl_889 dl_890 dl_891 dl_892 ?_
  refine l_callY (as := [(0, l_a xs i 1), (0, l_a xs i 2)]) (st := [.int (Int32.ofInt r)]) (d' := 5) C0 hK hH1 dl_893 mi_M_above ml_Law_98 mv_M_above se_M_above rfl rfl rfl (z_op (z_op (fun _ h => by cases h) (l_ar xs i _)) (l_ar xs i _)) rfl (by simp [Value.category]) hQ fun r1 gm1 H2 _ hH2 hq => ?_
  show l_J p l e s m below meth c b 896 i [.int (Int32.ofInt r1), .int (Int32.ofInt r)] H2
  rw [hq.1]
  exact l_cmpI C0 dl_896 (by decide) (nx gx1 gm1 H2 hH2 hq.2)
theorem l_c18 (C0 : lw_At p s m meth c b L xs) (hL3 : L ≤ 3072) {tl : Nat} (hK : z_K (l_X l D A s.heap.size aK aV tl s.heap) s) (hH : l_H l D A s.heap.size aK aV s.heap gx gm H) (I : Inv gx gm) {i : Int} (hi : 0 ≤ i ∧ i + 6 ≤ L) (nx : ∀ gx' gm' H', l_H l D A s.heap.size aK aV s.heap gx' gm' H' → Inv gx' gm' → l_J p l e s m below meth c b 2134 i [] H') : l_J p l e s m below meth c b 901 i [] H := by
  refine l_ald1 C0 dl_901 ?_
  refine l_arg C0 hH (k := 1) rfl (by omega) hL3 dl_902 dl_903 dl_904 dl_905 dl_906 ?_
  refine l_arg C0 hH (k := 2) rfl (by omega) hL3 dl_907 dl_908 dl_909 dl_910 dl_911 ?_
  refine l_callX (as := [(0, l_a xs i 1), (0, l_a xs i 2)]) (st := []) (d' := 4) C0 hK hH dl_912 mi_F_ahead ml_Law_99 mv_F_ahead se_F_ahead rfl rfl rfl (z_op (z_op (fun _ h => by cases h) (l_ar xs i _)) (l_ar xs i _)) rfl (by decide) (Qh := fun h' r gx' => z_O (l_Y l D A s.heap.size aK aV h') 5 m_M_ahead [(2, 0), (0, l_a xs i 1), (0, l_a xs i 2)] 18 kS_M gm (fun r' gm' => r' = r ∧ Inv gx' gm')) (fun h' => o_ahead l_layX l_layY I (l_ar xs i _) (l_ar xs i _)) fun r gx1 H1 _ hH1 hQ => ?_
  show l_J p l e s m below meth c b 915 i [.int (Int32.ofInt r)] H1
  refine l_ald2 C0 dl_915 ?_
  refine l_arg C0 hH1 (k := 1) rfl (by omega) hL3 dl_916 dl_917 dl_918 dl_919 dl_920 ?_
  refine l_arg C0 hH1 (k := 2) rfl (by omega) hL3 dl_921 dl_922 dl_923 dl_924 dl_925 ?_
  refine l_callY (as := [(0, l_a xs i 1), (0, l_a xs i 2)]) (st := [.int (Int32.ofInt r)]) (d' := 5) C0 hK hH1 dl_926 mi_M_ahead ml_Law_102 mv_M_ahead se_M_ahead rfl rfl rfl (z_op (z_op (fun _ h => by cases h) (l_ar xs i _)) (l_ar xs i _)) rfl (by simp [Value.category]) hQ fun r1 gm1 H2 _ hH2 hq => ?_
  show l_J p l e s m below meth c b 929 i [.int (Int32.ofInt r1), .int (Int32.ofInt r)] H2
  rw [hq.1]
  exact l_cmpI C0 dl_929 (by decide) (nx gx1 gm1 H2 hH2 hq.2)
theorem l_c19 (C0 : lw_At p s m meth c b L xs) (hL3 : L ≤ 3072) {tl : Nat} (hK : z_K (l_X l D A s.heap.size aK aV tl s.heap) s) (hH : l_H l D A s.heap.size aK aV s.heap gx gm H) (I : Inv gx gm) {i : Int} (hi : 0 ≤ i ∧ i + 6 ≤ L) (nx : ∀ gx' gm' H', l_H l D A s.heap.size aK aV s.heap gx' gm' H' → Inv gx' gm' → l_J p l e s m below meth c b 2134 i [] H') : l_J p l e s m below meth c b 934 i [] H := by
  refine l_ald1 C0 dl_934 ?_
  refine l_arg C0 hH (k := 1) rfl (by omega) hL3 dl_935 dl_936 dl_937 dl_938 dl_939 ?_
  refine l_arg C0 hH (k := 2) rfl (by omega) hL3 dl_940 dl_941 dl_942 dl_943 dl_944 ?_
  refine l_callX (as := [(0, l_a xs i 1), (0, l_a xs i 2)]) (st := []) (d' := 4) C0 hK hH dl_945 mi_F_nearest ml_Law_103 mv_F_nearest se_F_nearest rfl rfl rfl (z_op (z_op (fun _ h => by cases h) (l_ar xs i _)) (l_ar xs i _)) rfl (by decide) (Qh := fun h' r gx' => z_O (l_Y l D A s.heap.size aK aV h') 5 m_M_nearest [(2, 0), (0, l_a xs i 1), (0, l_a xs i 2)] 18 kS_M gm (fun r' gm' => r' = r ∧ Inv gx' gm')) (fun h' => o_nearest l_layX l_layY I (l_ar xs i _) (l_ar xs i _)) fun r gx1 H1 _ hH1 hQ => ?_
  show l_J p l e s m below meth c b 948 i [.int (Int32.ofInt r)] H1
  refine l_ald2 C0 dl_948 ?_
  refine l_arg C0 hH1 (k := 1) rfl (by omega) hL3 dl_949 dl_950 dl_951 dl_952 dl_953 ?_
  refine l_arg C0 hH1 (k := 2) rfl (by omega) hL3 dl_954 dl_955 dl_956 dl_957 dl_958 ?_
  refine l_callY (as := [(0, l_a xs i 1), (0, l_a xs i 2)]) (st := [.int (Int32.ofInt r)]) (d' := 5) C0 hK hH1 dl_959 mi_M_nearest ml_Law_106 mv_M_nearest se_M_nearest rfl rfl rfl (z_op (z_op (fun _ h => by cases h) (l_ar xs i _)) (l_ar xs i _)) rfl (by simp [Value.category]) hQ fun r1 gm1 H2 _ hH2 hq => ?_
  show l_J p l e s m below meth c b 962 i [.int (Int32.ofInt r1), .int (Int32.ofInt r)] H2
  rw [hq.1]
  exact l_cmpI C0 dl_962 (by decide) (nx gx1 gm1 H2 hH2 hq.2)
end LC
