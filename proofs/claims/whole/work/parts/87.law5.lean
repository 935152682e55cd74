section LAWC
variable {p : Program} {e : Env} {s : State} {m : MethodId} {args : Array Value} {below : List Frame} {meth : Method} {c : Code} {H : Heap} {locs : List Loc} {cells slots : Nat} {Q : State → Prop}
variable {ls : Array Slot} {g : gG} {σ : Mem} {w : Int64} {b L : Nat} {xs : Nat → Int32} {B i : Nat}
set_option maxHeartbeats 4000000 in
set_option maxRecDepth 100000 in
theorem law_now (l : Launch) (hl0 : l.stackTraces = false) (C : LW p s m c args b L xs) (D : LG g s σ w H locs B) (hB : B + 6010 < 2 ^ 31) (hi : i + 5 ≤ L) (hL : L ≤ 2560) (hroom : cells + 6 ≤ 601024 ∧ slots + 248 ≤ 7293034) (hl : lv_has ls 9 (lwl b g i))
    (kk : ∀ (g' : gG) (σ' : Mem) (w' : Int64) (H' : Heap) (locs' : List Loc) (ls' : Array Slot), gSame g g' → LG g' s σ' w' H' locs' (B + 6010) → lv_has ls' 9 (lwl b g' i) → W p l e room_1 s m args below meth c H' locs' (cells + 6) (slots + 248) Q (F0 m 1384 ls' [])) : W p l e room_1 s m args below meth c H locs cells slots Q (F0 m 984 ls []) := by
  obtain ⟨hx, hb, hml, hown, hts, hX, hbl⟩ := C
  obtain ⟨hZ, hG, hS, hI, hN⟩ := D
  have hbA : ¬ gA g b := by show ¬ gN0 g ≤ b; omega
  have hl : lv_has ls 9 [(0, .ref b), (1, .ref (gad g 0 0)), (2, .ref (gad g 8 0)), (3, .ref (gad g 10 0)), (4, .int (nI i))] := hl
  obtain ⟨q1, q2, q3⟩ := hI.pre (σ1 := σ) (fun _ _ _ _ => rfl)
  refine lv_aload_n hx hb dL_law_984 rfl (lv_at hl 1 rfl) ?_
  refine gx_cR (gx_runV (As := []) (rest := []) ⟨hx, hb, hml, hown, hts⟩ (c_X2_now l g σ w hI.1) (cwV 0 hts gL_law_X2_now rfl rfl rfl (by decide +kernel) ⟨Nat.le_of_ble_eq_true rfl, Nat.le_of_ble_eq_true rfl⟩) (gx_obj hZ hG 0 0 hI.1.k0 rfl) hZ hG hS rfl hl.1 rfl (Nat.le_of_ble_eq_true rfl) dL_law_985 ⟨rc1 (by omega), rs1 (by omega)⟩) ?_
  refine lv_aload_n hx hb dL_law_988 rfl (lv_at hl 2 rfl) ?_
  refine gx_cM (gx_runV (As := []) (rest := [.int (σ 0 0 3)]) ⟨hx, hb, hml, hown, hts⟩ (c_X3_now l g σ w hI.2.1) (cwV 0 hts gL_law_X3_now rfl rfl rfl (by decide +kernel) ⟨Nat.le_of_ble_eq_true rfl, Nat.le_of_ble_eq_true rfl⟩) (gx_obj hZ hG 8 0 hI.2.1.1.b8 rfl) hZ hG hS rfl hl.1 rfl (Nat.le_of_ble_eq_true rfl) dL_law_989 ⟨rc1 (by omega), rs1 (by omega)⟩) hS (fun H2 locs2 hG hS hsz2 => ?_)
  refine lv_icmp_eq (tgt := 1384) hx hb dL_law_992 (by decide) (fun _ => ?_) (fun q => absurd q1.now q)
  refine W.widen (k := cells + 6) (n := slots + 248) (by omega) (by omega) ?_
  exact kk g _ _ _ _ ls (gSame.rf g) ⟨hZ, hG, hS, hI.thr1 (by omega), hN⟩ hl
set_option maxHeartbeats 4000000 in
set_option maxRecDepth 100000 in
theorem law_lateness (l : Launch) (hl0 : l.stackTraces = false) (C : LW p s m c args b L xs) (D : LG g s σ w H locs B) (hB : B + 6010 < 2 ^ 31) (hi : i + 5 ≤ L) (hL : L ≤ 2560) (hroom : cells + 6 ≤ 601024 ∧ slots + 248 ≤ 7293034) (hl : lv_has ls 9 (lwl b g i))
    (kk : ∀ (g' : gG) (σ' : Mem) (w' : Int64) (H' : Heap) (locs' : List Loc) (ls' : Array Slot), gSame g g' → LG g' s σ' w' H' locs' (B + 6010) → lv_has ls' 9 (lwl b g' i) → W p l e room_1 s m args below meth c H' locs' (cells + 6) (slots + 248) Q (F0 m 1384 ls' [])) : W p l e room_1 s m args below meth c H locs cells slots Q (F0 m 1261 ls []) := by
  obtain ⟨hx, hb, hml, hown, hts, hX, hbl⟩ := C
  obtain ⟨hZ, hG, hS, hI, hN⟩ := D
  have hbA : ¬ gA g b := by show ¬ gN0 g ≤ b; omega
  have hl : lv_has ls 9 [(0, .ref b), (1, .ref (gad g 0 0)), (2, .ref (gad g 8 0)), (3, .ref (gad g 10 0)), (4, .int (nI i))] := hl
  obtain ⟨q1, q2, q3⟩ := hI.pre (σ1 := σ) (fun _ _ _ _ => rfl)
  have e0 : Op.cmpValue (FP.dcmp (xQuo (xLa σ)) (xQuo (mLa (gst σ 8 0 0 0)))) .l = 0 := by
    rw [← q1.la]
    have e1 : FP.dcmp (xQuo (xLa σ)) (xQuo (xLa σ)) = some .eq := Jvm.FP.Core.dcmp_self (xQuo_n _)
    rw [e1]
    rfl
  refine lv_aload_n hx hb dL_law_1261 rfl (lv_at hl 1 rfl) ?_
  refine gx_cR (gx_runV (As := []) (rest := []) ⟨hx, hb, hml, hown, hts⟩ (c_X2_lateness l g σ w hI.1) (cwV 0 hts gL_law_X2_lateness rfl rfl rfl (by decide +kernel) ⟨Nat.le_of_ble_eq_true rfl, Nat.le_of_ble_eq_true rfl⟩) (gx_obj hZ hG 0 0 hI.1.k0 rfl) hZ hG hS rfl hl.1 rfl (Nat.le_of_ble_eq_true rfl) dL_law_1262 ⟨rc1 (by omega), rs1 (by omega)⟩) ?_
  refine lv_dstore (lv' := [(5, .double (xQuo (xLa σ))), (0, .ref b), (1, .ref (gad g 0 0)), (2, .ref (gad g 8 0)), (3, .ref (gad g 10 0)), (4, .int (nI i))]) hx hb dL_law_1265 hl (by decide) rfl (fun ls hl => ?_)
  refine lv_aload_n hx hb dL_law_1267 rfl (lv_at hl 3 rfl) ?_
  refine gx_cM (gx_runV (As := []) (rest := []) ⟨hx, hb, hml, hown, hts⟩ (c_X3_lateness l g σ w hI.2.1) (cwV 0 hts gL_law_X3_lateness rfl rfl rfl (by decide +kernel) ⟨Nat.le_of_ble_eq_true rfl, Nat.le_of_ble_eq_true rfl⟩) (gx_obj hZ hG 8 0 hI.2.1.1.b8 rfl) hZ hG hS rfl hl.1 rfl (Nat.le_of_ble_eq_true rfl) dL_law_1268 ⟨rc1 (by omega), rs1 (by omega)⟩) hS (fun H2 locs2 hG hS hsz2 => ?_)
  refine lv_dstore (lv' := [(7, .double (xQuo (mLa (gst σ 8 0 0 0)))), (5, .double (xQuo (xLa σ))), (0, .ref b), (1, .ref (gad g 0 0)), (2, .ref (gad g 8 0)), (3, .ref (gad g 10 0)), (4, .int (nI i))]) hx hb dL_law_1271 hl (by decide) rfl (fun ls hl => ?_)
  refine lv_dload hx hb dL_law_1273 (lv_at hl 1 rfl) ?_
  refine lv_dload hx hb dL_law_1275 (lv_at hl 0 rfl) ?_
  refine lv_dcmp hx hb dL_law_1277 ?_
  rw [e0]
  refine lv_if_eq (tgt := 1299) hx hb dL_law_1278 (by decide) (fun _ => ?_) (fun q => absurd rfl q)
  refine lv_goto (tgt := 1384) hx hb dL_law_1299 (by decide) ?_
  refine W.widen (k := cells + 6) (n := slots + 248) (by omega) (by omega) ?_
  exact kk g _ _ _ _ ls (gSame.rf g) ⟨hZ, hG, hS, hI.thr1 (by omega), hN⟩ (lv_sub hl [2, 3, 4, 5, 6] rfl)
set_option maxHeartbeats 4000000 in
set_option maxRecDepth 100000 in
theorem law_digest (l : Launch) (hl0 : l.stackTraces = false) (C : LW p s m c args b L xs) (D : LG g s σ w H locs B) (hB : B + 6010 < 2 ^ 31) (hi : i + 5 ≤ L) (hL : L ≤ 2560) (hroom : cells + 6 ≤ 601024 ∧ slots + 248 ≤ 7293034) (hl : lv_has ls 9 (lwl b g i))
    (kk : ∀ (g' : gG) (σ' : Mem) (w' : Int64) (H' : Heap) (locs' : List Loc) (ls' : Array Slot), gSame g g' → LG g' s σ' w' H' locs' (B + 6010) → lv_has ls' 9 (lwl b g' i) → W p l e room_1 s m args below meth c H' locs' (cells + 6) (slots + 248) Q (F0 m 1384 ls' [])) : W p l e room_1 s m args below meth c H locs cells slots Q (F0 m 1370 ls []) := by
  obtain ⟨hx, hb, hml, hown, hts, hX, hbl⟩ := C
  obtain ⟨hZ, hG, hS, hI, hN⟩ := D
  have hbA : ¬ gA g b := by show ¬ gN0 g ≤ b; omega
  have hl : lv_has ls 9 [(0, .ref b), (1, .ref (gad g 0 0)), (2, .ref (gad g 8 0)), (3, .ref (gad g 10 0)), (4, .int (nI i))] := hl
  have hk7 := GW.hk hG hI.1
  obtain ⟨q1, q2, q3⟩ := hI.pre (σ1 := σ) (fun _ _ _ _ => rfl)
  have e0 : lg_cmp (xDigest σ) (mDig (gst σ 8 0 0 0)) = 0 := by rw [q1.dig (by omega) q2.1 hk7]; simp [lg_cmp]
  refine lv_aload_n hx hb dL_law_1370 rfl (lv_at hl 1 rfl) ?_
  refine gx_cR (gx_runV (As := []) (rest := []) ⟨hx, hb, hml, hown, hts⟩ (c_X2_digest l g σ w hI.1) (cwV 0 hts gL_law_X2_digest rfl rfl rfl (by decide +kernel) ⟨Nat.le_of_ble_eq_true rfl, Nat.le_of_ble_eq_true rfl⟩) (gx_obj hZ hG 0 0 hI.1.k0 rfl) hZ hG hS rfl hl.1 rfl (Nat.le_of_ble_eq_true rfl) dL_law_1371 ⟨rc1 (by omega), rs1 (by omega)⟩) ?_
  refine lv_aload_n hx hb dL_law_1374 rfl (lv_at hl 2 rfl) ?_
  refine gx_cM (gx_runV (As := []) (rest := [.long (xDigest σ)]) ⟨hx, hb, hml, hown, hts⟩ (c_X3_digest l g σ w hI.2.1) (cwV 0 hts gL_law_X3_digest rfl rfl rfl (by decide +kernel) ⟨Nat.le_of_ble_eq_true rfl, Nat.le_of_ble_eq_true rfl⟩) (gx_obj hZ hG 8 0 hI.2.1.1.b8 rfl) hZ hG hS rfl hl.1 rfl (Nat.le_of_ble_eq_true rfl) dL_law_1375 ⟨rc1 (by omega), rs1 (by omega)⟩) hS (fun H2 locs2 hG hS hsz2 => ?_)
  refine W.lcmp hx hb dL_law_1378 ?_
  rw [e0]
  refine lv_if_eq (tgt := 1384) hx hb dL_law_1379 (by decide) (fun _ => ?_) (fun q => absurd rfl q)
  refine W.widen (k := cells + 6) (n := slots + 248) (by omega) (by omega) ?_
  exact kk g _ _ _ _ ls (gSame.rf g) ⟨hZ, hG, hS, hI.thr1 (by omega), hN⟩ hl
end LAWC
