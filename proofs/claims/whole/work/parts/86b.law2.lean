section LAWC
variable {p : Program} {e : Env} {s : State} {m : MethodId} {args : Array Value} {below : List Frame} {meth : Method} {c : Code} {H : Heap} {locs : List Loc} {cells slots : Nat} {Q : State → Prop}
variable {ls : Array Slot} {g : gG} {σ : Mem} {w : Int64} {b L : Nat} {xs : Nat → Int32} {B i : Nat}
set_option maxHeartbeats 4000000 in
set_option maxRecDepth 100000 in
theorem law_start (l : Launch) (hl0 : l.stackTraces = false) (C : LW p s m c args b L xs) (D : LG g s σ w H locs B) (hB : B + 6010 < 2 ^ 31) (hi : i + 5 ≤ L) (hL : L ≤ 2560) (hroom : cells + 6 ≤ 601024 ∧ slots + 248 ≤ 7293034) (hl : lv_has ls 9 (lwl b g i))
    (kk : ∀ (g' : gG) (σ' : Mem) (w' : Int64) (H' : Heap) (locs' : List Loc) (ls' : Array Slot), gSame g g' → LG g' s σ' w' H' locs' (B + 6010) → lv_has ls' 9 (lwl b g' i) → W p l e room_1 s m args below meth c H' locs' (cells + 6) (slots + 248) Q (F0 m 1384 ls' [])) : W p l e room_1 s m args below meth c H locs cells slots Q (F0 m 284 ls []) := by
  obtain ⟨hx, hb, hml, hown, hts, hX, hbl⟩ := C
  obtain ⟨hZ, hG, hS, hI, hN⟩ := D
  have hbA : ¬ gA g b := by show ¬ gN0 g ≤ b; omega
  have hl : lv_has ls 9 [(0, .ref b), (1, .ref (gad g 0 0)), (2, .ref (gad g 8 0)), (3, .ref (gad g 10 0)), (4, .int (nI i))] := hl
  refine lv_aload_n hx hb dL_law_284 rfl (lv_at hl 1 rfl) ?_
  refine lw_cell hx hb hX hbl hbA hS 1 (lv_at hl 0 rfl) (lv_at hl 4 rfl) (by decide) (by omega) hL dL_law_285 dL_law_286 dL_law_288 dL_law_289 dL_law_290 ?_
  refine lv_aload_n hx hb dL_law_291 rfl (lv_at hl 3 rfl) ?_
  refine gx_cEn (gx_runSX (As := [.ref (gad g 0 0), .int (xs (i + 1)), .ref (gad g 10 0)]) (rest := []) ⟨hx, hb, hml, hown, hts⟩ (c_L_start l hl0 g σ w (xs (i + 1)) hI.1 hI.2.2.2.1.1 hI.2.2.2.1.2) (vx_cwSW 3 hts gL_law_L_start rfl rfl rfl (by decide +kernel) ⟨Nat.le_of_ble_eq_true rfl, Nat.le_of_ble_eq_true rfl⟩) hZ hG hS rfl hl.1 rfl (Nat.le_of_ble_eq_true rfl) dL_law_292 ⟨rc1 (by omega), rs1 (by omega)⟩) hS (fun vr H1 locs1 hD hS hsz => ?_)
  obtain ⟨kv, σ1, w1, rfl, hG, hF, hca, hk, hw, hI⟩ := z_start hI hB (xs (i + 1)) hD
  refine lv_istore (lv' := [(5, .int kv), (0, .ref b), (1, .ref (gad g 0 0)), (2, .ref (gad g 8 0)), (3, .ref (gad g 10 0)), (4, .int (nI i))]) hx hb dL_law_295 hl (by decide) rfl (fun ls hl => ?_)
  refine lv_aload_n hx hb dL_law_297 rfl (lv_at hl 3 rfl) ?_
  refine lw_cell hx hb hX hbl hbA hS 1 (lv_at hl 1 rfl) (lv_at hl 5 rfl) (by decide) (by omega) hL dL_law_298 dL_law_299 dL_law_301 dL_law_302 dL_law_303 ?_
  refine gx_cM (gx_runV (As := [.int (xs (i + 1))]) (rest := []) ⟨hx, hb, hml, hown, hts⟩ (c_X3_start l g σ1 w1 (xs (i + 1)) hF) (cwV 1 hts gL_law_X3_start rfl rfl rfl (by decide +kernel) ⟨Nat.le_of_ble_eq_true rfl, Nat.le_of_ble_eq_true rfl⟩) (gx_obj hZ hG 8 0 hF.1.b8 rfl) hZ hG hS rfl hl.1 rfl (Nat.le_of_ble_eq_true rfl) dL_law_304 ⟨rc1 (by omega), rs1 (by omega)⟩) hS (fun H2 locs2 hG hS hsz2 => ?_)
  refine lw_tail (bv := (mStart (gst σ1 8 0 0 0) (xs (i + 1))).1) hx hb hml hown hts hZ hG hS hI.2.1.1 hI.2.2.2.1 hk hw hl ⟨by omega, by omega⟩ dL_law_307 dL_law_309 dL_law_310 dL_law_313 dL_law_315 dL_law_320 dL_law_322 dL_law_325 dL_law_326 dL_law_327 dL_law_328 dL_law_330 dL_law_331 dL_law_332 dL_law_337 (by decide) (fun ls hl => ?_)
  refine W.widen (k := cells + 6) (n := slots + 248) (by omega) (by omega) ?_
  exact kk g _ _ _ _ ls (gSame.rf g) ⟨hZ, hG, hS, hI, hN⟩ hl
set_option maxHeartbeats 4000000 in
set_option maxRecDepth 100000 in
theorem law_stop (l : Launch) (hl0 : l.stackTraces = false) (C : LW p s m c args b L xs) (D : LG g s σ w H locs B) (hB : B + 6010 < 2 ^ 31) (hi : i + 5 ≤ L) (hL : L ≤ 2560) (hroom : cells + 6 ≤ 601024 ∧ slots + 248 ≤ 7293034) (hl : lv_has ls 9 (lwl b g i))
    (kk : ∀ (g' : gG) (σ' : Mem) (w' : Int64) (H' : Heap) (locs' : List Loc) (ls' : Array Slot), gSame g g' → LG g' s σ' w' H' locs' (B + 6010) → lv_has ls' 9 (lwl b g' i) → W p l e room_1 s m args below meth c H' locs' (cells + 6) (slots + 248) Q (F0 m 1384 ls' [])) : W p l e room_1 s m args below meth c H locs cells slots Q (F0 m 340 ls []) := by
  obtain ⟨hx, hb, hml, hown, hts, hX, hbl⟩ := C
  obtain ⟨hZ, hG, hS, hI, hN⟩ := D
  have hbA : ¬ gA g b := by show ¬ gN0 g ≤ b; omega
  have hl : lv_has ls 9 [(0, .ref b), (1, .ref (gad g 0 0)), (2, .ref (gad g 8 0)), (3, .ref (gad g 10 0)), (4, .int (nI i))] := hl
  refine lv_aload_n hx hb dL_law_340 rfl (lv_at hl 1 rfl) ?_
  refine lw_cell hx hb hX hbl hbA hS 1 (lv_at hl 0 rfl) (lv_at hl 4 rfl) (by decide) (by omega) hL dL_law_341 dL_law_342 dL_law_344 dL_law_345 dL_law_346 ?_
  refine lv_aload_n hx hb dL_law_347 rfl (lv_at hl 3 rfl) ?_
  refine gx_cEn (gx_runSX (As := [.ref (gad g 0 0), .int (xs (i + 1)), .ref (gad g 10 0)]) (rest := []) ⟨hx, hb, hml, hown, hts⟩ (c_L_stop l hl0 g σ w (xs (i + 1)) hI.1 hI.2.2.2.1.1 hI.2.2.2.1.2) (vx_cwSW 3 hts gL_law_L_stop rfl rfl rfl (by decide +kernel) ⟨Nat.le_of_ble_eq_true rfl, Nat.le_of_ble_eq_true rfl⟩) hZ hG hS rfl hl.1 rfl (Nat.le_of_ble_eq_true rfl) dL_law_348 ⟨rc1 (by omega), rs1 (by omega)⟩) hS (fun vr H1 locs1 hD hS hsz => ?_)
  obtain ⟨kv, σ1, w1, rfl, hG, hF, hca, hk, hw, hI⟩ := z_stop hI hB (xs (i + 1)) hD
  refine lv_istore (lv' := [(5, .int kv), (0, .ref b), (1, .ref (gad g 0 0)), (2, .ref (gad g 8 0)), (3, .ref (gad g 10 0)), (4, .int (nI i))]) hx hb dL_law_351 hl (by decide) rfl (fun ls hl => ?_)
  refine lv_aload_n hx hb dL_law_353 rfl (lv_at hl 3 rfl) ?_
  refine lw_cell hx hb hX hbl hbA hS 1 (lv_at hl 1 rfl) (lv_at hl 5 rfl) (by decide) (by omega) hL dL_law_354 dL_law_355 dL_law_357 dL_law_358 dL_law_359 ?_
  refine gx_cM (gx_runV (As := [.int (xs (i + 1))]) (rest := []) ⟨hx, hb, hml, hown, hts⟩ (c_X3_stop l g σ1 w1 (xs (i + 1)) hF) (cwV 1 hts gL_law_X3_stop rfl rfl rfl (by decide +kernel) ⟨Nat.le_of_ble_eq_true rfl, Nat.le_of_ble_eq_true rfl⟩) (gx_obj hZ hG 8 0 hF.1.b8 rfl) hZ hG hS rfl hl.1 rfl (Nat.le_of_ble_eq_true rfl) dL_law_360 ⟨rc1 (by omega), rs1 (by omega)⟩) hS (fun H2 locs2 hG hS hsz2 => ?_)
  refine lw_tail (bv := (mStop (gst σ1 8 0 0 0) (xs (i + 1))).1) hx hb hml hown hts hZ hG hS hI.2.1.1 hI.2.2.2.1 hk hw hl ⟨by omega, by omega⟩ dL_law_363 dL_law_365 dL_law_366 dL_law_369 dL_law_371 dL_law_376 dL_law_378 dL_law_381 dL_law_382 dL_law_383 dL_law_384 dL_law_386 dL_law_387 dL_law_388 dL_law_393 (by decide) (fun ls hl => ?_)
  refine W.widen (k := cells + 6) (n := slots + 248) (by omega) (by omega) ?_
  exact kk g _ _ _ _ ls (gSame.rf g) ⟨hZ, hG, hS, hI, hN⟩ hl
set_option maxHeartbeats 4000000 in
set_option maxRecDepth 100000 in
theorem law_setRates (l : Launch) (hl0 : l.stackTraces = false) (C : LW p s m c args b L xs) (D : LG g s σ w H locs B) (hB : B + 6010 < 2 ^ 31) (hi : i + 5 ≤ L) (hL : L ≤ 2560) (hroom : cells + 6 ≤ 601024 ∧ slots + 248 ≤ 7293034) (hl : lv_has ls 9 (lwl b g i))
    (kk : ∀ (g' : gG) (σ' : Mem) (w' : Int64) (H' : Heap) (locs' : List Loc) (ls' : Array Slot), gSame g g' → LG g' s σ' w' H' locs' (B + 6010) → lv_has ls' 9 (lwl b g' i) → W p l e room_1 s m args below meth c H' locs' (cells + 6) (slots + 248) Q (F0 m 1384 ls' [])) : W p l e room_1 s m args below meth c H locs cells slots Q (F0 m 396 ls []) := by
  obtain ⟨hx, hb, hml, hown, hts, hX, hbl⟩ := C
  obtain ⟨hZ, hG, hS, hI, hN⟩ := D
  have hbA : ¬ gA g b := by show ¬ gN0 g ≤ b; omega
  have hl : lv_has ls 9 [(0, .ref b), (1, .ref (gad g 0 0)), (2, .ref (gad g 8 0)), (3, .ref (gad g 10 0)), (4, .int (nI i))] := hl
  refine lv_aload_n hx hb dL_law_396 rfl (lv_at hl 1 rfl) ?_
  refine lw_cell hx hb hX hbl hbA hS 1 (lv_at hl 0 rfl) (lv_at hl 4 rfl) (by decide) (by omega) hL dL_law_397 dL_law_398 dL_law_400 dL_law_401 dL_law_402 ?_
  refine lw_cell hx hb hX hbl hbA hS 2 (lv_at hl 0 rfl) (lv_at hl 4 rfl) (by decide) (by omega) hL dL_law_403 dL_law_404 dL_law_406 dL_law_407 dL_law_408 ?_
  refine lv_aload_n hx hb dL_law_409 rfl (lv_at hl 3 rfl) ?_
  refine gx_cEn (gx_runSX (As := [.ref (gad g 0 0), .int (xs (i + 1)), .int (xs (i + 2)), .ref (gad g 10 0)]) (rest := []) ⟨hx, hb, hml, hown, hts⟩ (c_L_setRates l hl0 g σ w (xs (i + 1)) (xs (i + 2)) hI.1 hI.2.2.2.1.1 hI.2.2.2.1.2) (vx_cwSW 4 hts gL_law_L_setRates rfl rfl rfl (by decide +kernel) ⟨Nat.le_of_ble_eq_true rfl, Nat.le_of_ble_eq_true rfl⟩) hZ hG hS rfl hl.1 rfl (Nat.le_of_ble_eq_true rfl) dL_law_410 ⟨rc1 (by omega), rs1 (by omega)⟩) hS (fun vr H1 locs1 hD hS hsz => ?_)
  obtain ⟨kv, σ1, w1, rfl, hG, hF, hca, hk, hw, hI⟩ := z_setRates hI hB (xs (i + 1)) (xs (i + 2)) hD
  refine lv_istore (lv' := [(5, .int kv), (0, .ref b), (1, .ref (gad g 0 0)), (2, .ref (gad g 8 0)), (3, .ref (gad g 10 0)), (4, .int (nI i))]) hx hb dL_law_413 hl (by decide) rfl (fun ls hl => ?_)
  refine lv_aload_n hx hb dL_law_415 rfl (lv_at hl 3 rfl) ?_
  refine lw_cell hx hb hX hbl hbA hS 1 (lv_at hl 1 rfl) (lv_at hl 5 rfl) (by decide) (by omega) hL dL_law_416 dL_law_417 dL_law_419 dL_law_420 dL_law_421 ?_
  refine lw_cell hx hb hX hbl hbA hS 2 (lv_at hl 1 rfl) (lv_at hl 5 rfl) (by decide) (by omega) hL dL_law_422 dL_law_423 dL_law_425 dL_law_426 dL_law_427 ?_
  refine gx_cM (gx_runV (As := [.int (xs (i + 1)), .int (xs (i + 2))]) (rest := []) ⟨hx, hb, hml, hown, hts⟩ (c_X3_setRates l g σ1 w1 (xs (i + 1)) (xs (i + 2)) hF) (cwV 2 hts gL_law_X3_setRates rfl rfl rfl (by decide +kernel) ⟨Nat.le_of_ble_eq_true rfl, Nat.le_of_ble_eq_true rfl⟩) (gx_obj hZ hG 8 0 hF.1.b8 rfl) hZ hG hS rfl hl.1 rfl (Nat.le_of_ble_eq_true rfl) dL_law_428 ⟨rc1 (by omega), rs1 (by omega)⟩) hS (fun H2 locs2 hG hS hsz2 => ?_)
  refine lw_tail (bv := (mSetRates (gst σ1 8 0 0 0) (xs (i + 1)) (xs (i + 2))).1) hx hb hml hown hts hZ hG hS hI.2.1.1 hI.2.2.2.1 hk hw hl ⟨by omega, by omega⟩ dL_law_431 dL_law_433 dL_law_434 dL_law_437 dL_law_439 dL_law_444 dL_law_446 dL_law_449 dL_law_450 dL_law_451 dL_law_452 dL_law_454 dL_law_455 dL_law_456 dL_law_461 (by decide) (fun ls hl => ?_)
  refine W.widen (k := cells + 6) (n := slots + 248) (by omega) (by omega) ?_
  exact kk g _ _ _ _ ls (gSame.rf g) ⟨hZ, hG, hS, hI, hN⟩ hl
set_option maxHeartbeats 4000000 in
set_option maxRecDepth 100000 in
theorem law_cab (l : Launch) (hl0 : l.stackTraces = false) (C : LW p s m c args b L xs) (D : LG g s σ w H locs B) (hB : B + 6010 < 2 ^ 31) (hi : i + 5 ≤ L) (hL : L ≤ 2560) (hroom : cells + 6 ≤ 601024 ∧ slots + 248 ≤ 7293034) (hl : lv_has ls 9 (lwl b g i))
    (kk : ∀ (g' : gG) (σ' : Mem) (w' : Int64) (H' : Heap) (locs' : List Loc) (ls' : Array Slot), gSame g g' → LG g' s σ' w' H' locs' (B + 6010) → lv_has ls' 9 (lwl b g' i) → W p l e room_1 s m args below meth c H' locs' (cells + 6) (slots + 248) Q (F0 m 1384 ls' [])) : W p l e room_1 s m args below meth c H locs cells slots Q (F0 m 464 ls []) := by
  obtain ⟨hx, hb, hml, hown, hts, hX, hbl⟩ := C
  obtain ⟨hZ, hG, hS, hI, hN⟩ := D
  have hbA : ¬ gA g b := by show ¬ gN0 g ≤ b; omega
  have hl : lv_has ls 9 [(0, .ref b), (1, .ref (gad g 0 0)), (2, .ref (gad g 8 0)), (3, .ref (gad g 10 0)), (4, .int (nI i))] := hl
  refine lv_aload_n hx hb dL_law_464 rfl (lv_at hl 1 rfl) ?_
  refine lw_cell hx hb hX hbl hbA hS 1 (lv_at hl 0 rfl) (lv_at hl 4 rfl) (by decide) (by omega) hL dL_law_465 dL_law_466 dL_law_468 dL_law_469 dL_law_470 ?_
  refine lw_cell hx hb hX hbl hbA hS 2 (lv_at hl 0 rfl) (lv_at hl 4 rfl) (by decide) (by omega) hL dL_law_471 dL_law_472 dL_law_474 dL_law_475 dL_law_476 ?_
  refine lv_aload_n hx hb dL_law_477 rfl (lv_at hl 3 rfl) ?_
  refine gx_cEn (gx_runSX (As := [.ref (gad g 0 0), .int (xs (i + 1)), .int (xs (i + 2)), .ref (gad g 10 0)]) (rest := []) ⟨hx, hb, hml, hown, hts⟩ (c_L_cab l hl0 g σ w (xs (i + 1)) (xs (i + 2)) hI.1 hI.2.2.2.1.1 hI.2.2.2.1.2) (vx_cwSW 4 hts gL_law_L_cab rfl rfl rfl (by decide +kernel) ⟨Nat.le_of_ble_eq_true rfl, Nat.le_of_ble_eq_true rfl⟩) hZ hG hS rfl hl.1 rfl (Nat.le_of_ble_eq_true rfl) dL_law_478 ⟨rc1 (by omega), rs1 (by omega)⟩) hS (fun vr H1 locs1 hD hS hsz => ?_)
  obtain ⟨kv, σ1, w1, rfl, hG, hF, hca, hk, hw, hI⟩ := z_cab hI hB (xs (i + 1)) (xs (i + 2)) hD
  refine lv_istore (lv' := [(5, .int kv), (0, .ref b), (1, .ref (gad g 0 0)), (2, .ref (gad g 8 0)), (3, .ref (gad g 10 0)), (4, .int (nI i))]) hx hb dL_law_481 hl (by decide) rfl (fun ls hl => ?_)
  refine lv_aload_n hx hb dL_law_483 rfl (lv_at hl 3 rfl) ?_
  refine lw_cell hx hb hX hbl hbA hS 1 (lv_at hl 1 rfl) (lv_at hl 5 rfl) (by decide) (by omega) hL dL_law_484 dL_law_485 dL_law_487 dL_law_488 dL_law_489 ?_
  refine lw_cell hx hb hX hbl hbA hS 2 (lv_at hl 1 rfl) (lv_at hl 5 rfl) (by decide) (by omega) hL dL_law_490 dL_law_491 dL_law_493 dL_law_494 dL_law_495 ?_
  refine gx_cM (gx_runV (As := [.int (xs (i + 1)), .int (xs (i + 2))]) (rest := []) ⟨hx, hb, hml, hown, hts⟩ (c_X3_cab l g σ1 w1 (xs (i + 1)) (xs (i + 2)) hF) (cwV 2 hts gL_law_X3_cab rfl rfl rfl (by decide +kernel) ⟨Nat.le_of_ble_eq_true rfl, Nat.le_of_ble_eq_true rfl⟩) (gx_obj hZ hG 8 0 hF.1.b8 rfl) hZ hG hS rfl hl.1 rfl (Nat.le_of_ble_eq_true rfl) dL_law_496 ⟨rc1 (by omega), rs1 (by omega)⟩) hS (fun H2 locs2 hG hS hsz2 => ?_)
  refine lw_tail (bv := (mCab (gst σ1 8 0 0 0) (xs (i + 1)) (xs (i + 2))).1) hx hb hml hown hts hZ hG hS hI.2.1.1 hI.2.2.2.1 hk hw hl ⟨by omega, by omega⟩ dL_law_499 dL_law_501 dL_law_502 dL_law_505 dL_law_507 dL_law_512 dL_law_514 dL_law_517 dL_law_518 dL_law_519 dL_law_520 dL_law_522 dL_law_523 dL_law_524 dL_law_529 (by decide) (fun ls hl => ?_)
  refine W.widen (k := cells + 6) (n := slots + 248) (by omega) (by omega) ?_
  exact kk g _ _ _ _ ls (gSame.rf g) ⟨hZ, hG, hS, hI, hN⟩ hl
set_option maxHeartbeats 4000000 in
set_option maxRecDepth 100000 in
theorem law_accept (l : Launch) (hl0 : l.stackTraces = false) (C : LW p s m c args b L xs) (D : LG g s σ w H locs B) (hB : B + 6010 < 2 ^ 31) (hi : i + 5 ≤ L) (hL : L ≤ 2560) (hroom : cells + 6 ≤ 601024 ∧ slots + 248 ≤ 7293034) (hl : lv_has ls 9 (lwl b g i))
    (kk : ∀ (g' : gG) (σ' : Mem) (w' : Int64) (H' : Heap) (locs' : List Loc) (ls' : Array Slot), gSame g g' → LG g' s σ' w' H' locs' (B + 6010) → lv_has ls' 9 (lwl b g' i) → W p l e room_1 s m args below meth c H' locs' (cells + 6) (slots + 248) Q (F0 m 1384 ls' [])) : W p l e room_1 s m args below meth c H locs cells slots Q (F0 m 624 ls []) := by
  obtain ⟨hx, hb, hml, hown, hts, hX, hbl⟩ := C
  obtain ⟨hZ, hG, hS, hI, hN⟩ := D
  have hbA : ¬ gA g b := by show ¬ gN0 g ≤ b; omega
  have hl : lv_has ls 9 [(0, .ref b), (1, .ref (gad g 0 0)), (2, .ref (gad g 8 0)), (3, .ref (gad g 10 0)), (4, .int (nI i))] := hl
  refine lv_aload_n hx hb dL_law_624 rfl (lv_at hl 1 rfl) ?_
  refine lw_cell hx hb hX hbl hbA hS 1 (lv_at hl 0 rfl) (lv_at hl 4 rfl) (by decide) (by omega) hL dL_law_625 dL_law_626 dL_law_628 dL_law_629 dL_law_630 ?_
  refine lv_aload_n hx hb dL_law_631 rfl (lv_at hl 3 rfl) ?_
  refine gx_cEn (gx_runSX (As := [.ref (gad g 0 0), .int (xs (i + 1)), .ref (gad g 10 0)]) (rest := []) ⟨hx, hb, hml, hown, hts⟩ (c_L_accept l hl0 g σ w (xs (i + 1)) hI.1 hI.2.2.2.1.1 hI.2.2.2.1.2) (vx_cwSW 3 hts gL_law_L_accept rfl rfl rfl (by decide +kernel) ⟨Nat.le_of_ble_eq_true rfl, Nat.le_of_ble_eq_true rfl⟩) hZ hG hS rfl hl.1 rfl (Nat.le_of_ble_eq_true rfl) dL_law_632 ⟨rc1 (by omega), rs1 (by omega)⟩) hS (fun vr H1 locs1 hD hS hsz => ?_)
  obtain ⟨kv, σ1, w1, rfl, hG, hF, hca, hk, hw, hI⟩ := z_accept hI hB (xs (i + 1)) hD
  refine lv_istore (lv' := [(5, .int kv), (0, .ref b), (1, .ref (gad g 0 0)), (2, .ref (gad g 8 0)), (3, .ref (gad g 10 0)), (4, .int (nI i))]) hx hb dL_law_635 hl (by decide) rfl (fun ls hl => ?_)
  refine lv_aload_n hx hb dL_law_637 rfl (lv_at hl 3 rfl) ?_
  refine lw_cell hx hb hX hbl hbA hS 1 (lv_at hl 1 rfl) (lv_at hl 5 rfl) (by decide) (by omega) hL dL_law_638 dL_law_639 dL_law_641 dL_law_642 dL_law_643 ?_
  refine gx_cM (gx_runV (As := [.int (xs (i + 1))]) (rest := []) ⟨hx, hb, hml, hown, hts⟩ (c_X3_accept l g σ1 w1 (xs (i + 1)) hF) (cwV 1 hts gL_law_X3_accept rfl rfl rfl (by decide +kernel) ⟨Nat.le_of_ble_eq_true rfl, Nat.le_of_ble_eq_true rfl⟩) (gx_obj hZ hG 8 0 hF.1.b8 rfl) hZ hG hS rfl hl.1 rfl (Nat.le_of_ble_eq_true rfl) dL_law_644 ⟨rc1 (by omega), rs1 (by omega)⟩) hS (fun H2 locs2 hG hS hsz2 => ?_)
  refine lw_tail (bv := (mAccept (gst σ1 8 0 0 0) (xs (i + 1))).1) hx hb hml hown hts hZ hG hS hI.2.1.1 hI.2.2.2.1 hk hw hl ⟨by omega, by omega⟩ dL_law_647 dL_law_649 dL_law_650 dL_law_653 dL_law_655 dL_law_660 dL_law_662 dL_law_665 dL_law_666 dL_law_667 dL_law_668 dL_law_670 dL_law_671 dL_law_672 dL_law_677 (by decide) (fun ls hl => ?_)
  refine W.widen (k := cells + 6) (n := slots + 248) (by omega) (by omega) ?_
  exact kk g _ _ _ _ ls (gSame.rf g) ⟨hZ, hG, hS, hI, hN⟩ hl
end LAWC
