section LAWC
variable {p : Program} {e : Env} {s : State} {m : MethodId} {args : Array Value} {below : List Frame} {meth : Method} {c : Code} {H : Heap} {locs : List Loc} {cells slots : Nat} {Q : State → Prop}
variable {ls : Array Slot} {g : gG} {σ : Mem} {w : Int64} {b L : Nat} {xs : Nat → Int32} {B i : Nat}
set_option maxHeartbeats 4000000 in
set_option maxRecDepth 100000 in
theorem law_addCab (l : Launch) (hl0 : l.stackTraces = false) (C : LW p s m c args b L xs) (D : LG g s σ w H locs B) (hB : B + 6010 < 2 ^ 31) (hi : i + 5 ≤ L) (hL : L ≤ 2560) (hroom : cells + 6 ≤ 601024 ∧ slots + 248 ≤ 7293034) (hl : lv_has ls 9 (lwl b g i))
    (kk : ∀ (g' : gG) (σ' : Mem) (w' : Int64) (H' : Heap) (locs' : List Loc) (ls' : Array Slot), gSame g g' → LG g' s σ' w' H' locs' (B + 6010) → lv_has ls' 9 (lwl b g' i) → W p l e room_1 s m args below meth c H' locs' (cells + 6) (slots + 248) Q (F0 m 1384 ls' [])) : W p l e room_1 s m args below meth c H locs cells slots Q (F0 m 216 ls []) := by
  obtain ⟨hx, hb, hml, hown, hts, hX, hbl⟩ := C
  obtain ⟨hZ, hG, hS, hI, hN⟩ := D
  have hbA : ¬ gA g b := by show ¬ gN0 g ≤ b; omega
  have hl : lv_has ls 9 [(0, .ref b), (1, .ref (gad g 0 0)), (2, .ref (gad g 8 0)), (3, .ref (gad g 10 0)), (4, .int (nI i))] := hl
  refine lv_aload_n hx hb dL_law_216 rfl (lv_at hl 1 rfl) ?_
  refine lw_cell hx hb hX hbl hbA hS 1 (lv_at hl 0 rfl) (lv_at hl 4 rfl) (by decide) (by omega) hL dL_law_217 dL_law_218 dL_law_220 dL_law_221 dL_law_222 ?_
  refine lw_cell hx hb hX hbl hbA hS 2 (lv_at hl 0 rfl) (lv_at hl 4 rfl) (by decide) (by omega) hL dL_law_223 dL_law_224 dL_law_226 dL_law_227 dL_law_228 ?_
  refine lv_aload_n hx hb dL_law_229 rfl (lv_at hl 3 rfl) ?_
  refine gx_cEn (gx_runSX (As := [.ref (gad g 0 0), .int (xs (i + 1)), .int (xs (i + 2)), .ref (gad g 10 0)]) (rest := []) ⟨hx, hb, hml, hown, hts⟩ (c_L_addCab l hl0 g σ w (xs (i + 1)) (xs (i + 2)) hI.1 hI.2.2.2.1.1 hI.2.2.2.1.2) (vx_cwSW 4 hts gL_law_L_addCab rfl rfl rfl (by decide +kernel) ⟨Nat.le_of_ble_eq_true rfl, Nat.le_of_ble_eq_true rfl⟩) hZ hG hS rfl hl.1 rfl (Nat.le_of_ble_eq_true rfl) dL_law_230 ⟨rc1 (by omega), rs1 (by omega)⟩) hS (fun vr H1 locs1 hD hS hsz => ?_)
  obtain ⟨g2, hs2, kv, σ1, w1, rfl, hG, hF, hca, hk, hw, hI⟩ := z_addCab hI hB (xs (i + 1)) (xs (i + 2)) hD
  refine lv_istore (lv' := [(5, .int kv), (0, .ref b), (1, .ref (gad g 0 0)), (2, .ref (gad g 8 0)), (3, .ref (gad g 10 0)), (4, .int (nI i))]) hx hb dL_law_233 hl (by decide) rfl (fun ls hl => ?_)
  have hZ : ZZ g2 s := gx_stZ hs2.1.1 hs2.1.2.1 hs2.1.2.2 hZ
  rw [← gx_stA hs2.1.2.2] at hS hbA
  have hN : gN0 g2 = s.heap.size := (congrArg (fun z => z.1) hs2.1.2.2).trans hN
  rw [← hs2.2.1, ← hs2.2.2.1, ← hs2.2.2.2] at hl
  refine lv_aload_n hx hb dL_law_235 rfl (lv_at hl 3 rfl) ?_
  refine lw_cell hx hb hX hbl hbA hS 1 (lv_at hl 1 rfl) (lv_at hl 5 rfl) (by decide) (by omega) hL dL_law_236 dL_law_237 dL_law_239 dL_law_240 dL_law_241 ?_
  refine lw_cell hx hb hX hbl hbA hS 2 (lv_at hl 1 rfl) (lv_at hl 5 rfl) (by decide) (by omega) hL dL_law_242 dL_law_243 dL_law_245 dL_law_246 dL_law_247 ?_
  refine gx_cM (gx_runV (As := [.int (xs (i + 1)), .int (xs (i + 2))]) (rest := []) ⟨hx, hb, hml, hown, hts⟩ (c_X3_addCab l g2 σ1 w1 (xs (i + 1)) (xs (i + 2)) hF) (cwV 2 hts gL_law_X3_addCab rfl rfl rfl (by decide +kernel) ⟨Nat.le_of_ble_eq_true rfl, Nat.le_of_ble_eq_true rfl⟩) (gx_obj hZ hG 8 0 hF.1.b8 rfl) hZ hG hS rfl hl.1 rfl (Nat.le_of_ble_eq_true rfl) dL_law_248 ⟨rc1 (by omega), rs1 (by omega)⟩) hS (fun H2 locs2 hG hS hsz2 => ?_)
  refine lw_tail (bv := (mAddCab (gst σ1 8 0 0 0) (xs (i + 1)) (xs (i + 2))).1) hx hb hml hown hts hZ hG hS hI.2.1.1 hI.2.2.2.1 hk hw hl ⟨by omega, by omega⟩ dL_law_251 dL_law_253 dL_law_254 dL_law_257 dL_law_259 dL_law_264 dL_law_266 dL_law_269 dL_law_270 dL_law_271 dL_law_272 dL_law_274 dL_law_275 dL_law_276 dL_law_281 (by decide) (fun ls hl => ?_)
  refine W.widen (k := cells + 6) (n := slots + 248) (by omega) (by omega) ?_
  exact kk g2 _ _ _ _ ls hs2 ⟨hZ, hG, hS, hI, hN⟩ hl
set_option maxHeartbeats 4000000 in
set_option maxRecDepth 100000 in
theorem law_order (l : Launch) (hl0 : l.stackTraces = false) (C : LW p s m c args b L xs) (D : LG g s σ w H locs B) (hB : B + 6010 < 2 ^ 31) (hi : i + 5 ≤ L) (hL : L ≤ 2560) (hroom : cells + 6 ≤ 601024 ∧ slots + 248 ≤ 7293034) (hl : lv_has ls 9 (lwl b g i))
    (kk : ∀ (g' : gG) (σ' : Mem) (w' : Int64) (H' : Heap) (locs' : List Loc) (ls' : Array Slot), gSame g g' → LG g' s σ' w' H' locs' (B + 6010) → lv_has ls' 9 (lwl b g' i) → W p l e room_1 s m args below meth c H' locs' (cells + 6) (slots + 248) Q (F0 m 1384 ls' [])) : W p l e room_1 s m args below meth c H locs cells slots Q (F0 m 532 ls []) := by
  obtain ⟨hx, hb, hml, hown, hts, hX, hbl⟩ := C
  obtain ⟨hZ, hG, hS, hI, hN⟩ := D
  have hbA : ¬ gA g b := by show ¬ gN0 g ≤ b; omega
  have hl : lv_has ls 9 [(0, .ref b), (1, .ref (gad g 0 0)), (2, .ref (gad g 8 0)), (3, .ref (gad g 10 0)), (4, .int (nI i))] := hl
  refine lv_aload_n hx hb dL_law_532 rfl (lv_at hl 1 rfl) ?_
  refine lw_cell hx hb hX hbl hbA hS 1 (lv_at hl 0 rfl) (lv_at hl 4 rfl) (by decide) (by omega) hL dL_law_533 dL_law_534 dL_law_536 dL_law_537 dL_law_538 ?_
  refine lw_cell hx hb hX hbl hbA hS 2 (lv_at hl 0 rfl) (lv_at hl 4 rfl) (by decide) (by omega) hL dL_law_539 dL_law_540 dL_law_542 dL_law_543 dL_law_544 ?_
  refine lw_cell hx hb hX hbl hbA hS 3 (lv_at hl 0 rfl) (lv_at hl 4 rfl) (by decide) (by omega) hL dL_law_545 dL_law_546 dL_law_548 dL_law_549 dL_law_550 ?_
  refine lw_cell hx hb hX hbl hbA hS 4 (lv_at hl 0 rfl) (lv_at hl 4 rfl) (by decide) (by omega) hL dL_law_551 dL_law_552 dL_law_554 dL_law_555 dL_law_556 ?_
  refine lv_aload_n hx hb dL_law_557 rfl (lv_at hl 3 rfl) ?_
  refine gx_cEn (gx_runSX (As := [.ref (gad g 0 0), .int (xs (i + 1)), .int (xs (i + 2)), .int (xs (i + 3)), .int (xs (i + 4)), .ref (gad g 10 0)]) (rest := []) ⟨hx, hb, hml, hown, hts⟩ (c_L_order l hl0 g σ w (xs (i + 1)) (xs (i + 2)) (xs (i + 3)) (xs (i + 4)) hI.1 hI.2.2.2.1.1 hI.2.2.2.1.2) (vx_cwSW 6 hts gL_law_L_order rfl rfl rfl (by decide +kernel) ⟨Nat.le_of_ble_eq_true rfl, Nat.le_of_ble_eq_true rfl⟩) hZ hG hS rfl hl.1 rfl (Nat.le_of_ble_eq_true rfl) dL_law_558 ⟨rc1 (by omega), rs1 (by omega)⟩) hS (fun vr H1 locs1 hD hS hsz => ?_)
  obtain ⟨g2, kv, σ3, w1, hs2, rfl, hG, hF, h99, hnext⟩ := z_order hI hB (xs (i + 1)) (xs (i + 2)) (xs (i + 3)) (xs (i + 4)) hD
  refine lv_istore (lv' := [(5, .int kv), (0, .ref b), (1, .ref (gad g 0 0)), (2, .ref (gad g 8 0)), (3, .ref (gad g 10 0)), (4, .int (nI i))]) hx hb dL_law_561 hl (by decide) rfl (fun ls hl => ?_)
  have hZ : ZZ g2 s := gx_stZ hs2.1.1 hs2.1.2.1 hs2.1.2.2 hZ
  rw [← gx_stA hs2.1.2.2] at hS hbA
  have hN : gN0 g2 = s.heap.size := (congrArg (fun z => z.1) hs2.1.2.2).trans hN
  rw [← hs2.2.1, ← hs2.2.2.1, ← hs2.2.2.2] at hl
  refine lv_aload_n hx hb dL_law_563 rfl (lv_at hl 3 rfl) ?_
  refine lw_cell hx hb hX hbl hbA hS 1 (lv_at hl 1 rfl) (lv_at hl 5 rfl) (by decide) (by omega) hL dL_law_564 dL_law_565 dL_law_567 dL_law_568 dL_law_569 ?_
  refine lw_cell hx hb hX hbl hbA hS 2 (lv_at hl 1 rfl) (lv_at hl 5 rfl) (by decide) (by omega) hL dL_law_570 dL_law_571 dL_law_573 dL_law_574 dL_law_575 ?_
  refine lw_cell hx hb hX hbl hbA hS 3 (lv_at hl 1 rfl) (lv_at hl 5 rfl) (by decide) (by omega) hL dL_law_576 dL_law_577 dL_law_579 dL_law_580 dL_law_581 ?_
  refine lw_cell hx hb hX hbl hbA hS 4 (lv_at hl 1 rfl) (lv_at hl 5 rfl) (by decide) (by omega) hL dL_law_582 dL_law_583 dL_law_585 dL_law_586 dL_law_587 ?_
  refine gx_cE (gx_runV (As := [.int (xs (i + 1)), .int (xs (i + 2)), .int (xs (i + 3)), .int (xs (i + 4))]) (rest := []) ⟨hx, hb, hml, hown, hts⟩ (c_X3_order l g2 σ3 w1 (xs (i + 1)) (xs (i + 2)) (xs (i + 3)) (xs (i + 4)) hF h99) (cwV 4 hts gL_law_X3_order rfl rfl rfl (by decide +kernel) ⟨Nat.le_of_ble_eq_true rfl, Nat.le_of_ble_eq_true rfl⟩) (gx_obj hZ hG 8 0 hF.1.b8 rfl) hZ hG hS rfl hl.1 rfl (Nat.le_of_ble_eq_true rfl) dL_law_588 ⟨rc1 (by omega), rs1 (by omega)⟩) hS (fun v2 H2 locs2 hPo hS hsz2 => ?_)
  obtain ⟨g3, bv, μ', hs3, rfl, hG, hk, hw, hI⟩ := hnext v2 H2 hPo
  have hZ : ZZ g3 s := gx_stZ hs3.1.1 hs3.1.2.1 hs3.1.2.2 hZ
  rw [← gx_stA hs3.1.2.2] at hS hbA
  have hN : gN0 g3 = s.heap.size := (congrArg (fun z => z.1) hs3.1.2.2).trans hN
  rw [← hs3.2.1, ← hs3.2.2.1, ← hs3.2.2.2] at hl
  refine lw_tail (bv := bv) hx hb hml hown hts hZ hG hS hI.2.1.1 hI.2.2.2.1 hk hw hl ⟨by omega, by omega⟩ dL_law_591 dL_law_593 dL_law_594 dL_law_597 dL_law_599 dL_law_604 dL_law_606 dL_law_609 dL_law_610 dL_law_611 dL_law_612 dL_law_614 dL_law_615 dL_law_616 dL_law_621 (by decide) (fun ls hl => ?_)
  refine W.widen (k := cells + 6) (n := slots + 248) (by omega) (by omega) ?_
  exact kk g3 _ _ _ _ ls (hs2.tr hs3) ⟨hZ, hG, hS, hI, hN⟩ hl
end LAWC
