section LAWC
variable {p : Program} {e : Env} {s : State} {m : MethodId} {args : Array Value} {below : List Frame} {meth : Method} {c : Code} {H : Heap} {locs : List Loc} {cells slots : Nat} {Q : State → Prop}
variable {ls : Array Slot} {g : gG} {σ : Mem} {w : Int64} {b L : Nat} {xs : Nat → Int32} {B i : Nat}
set_option maxHeartbeats 4000000 in
set_option maxRecDepth 100000 in
theorem law_money (l : Launch) (hl0 : l.stackTraces = false) (C : LW p s m c args b L xs) (D : LG g s σ w H locs B) (hB : B + 6010 < 2 ^ 31) (hi : i + 5 ≤ L) (hL : L ≤ 2560) (hroom : cells + 6 ≤ 601024 ∧ slots + 248 ≤ 7293034) (hl : lv_has ls 9 (lwl b g i))
    (kk : ∀ (g' : gG) (σ' : Mem) (w' : Int64) (H' : Heap) (locs' : List Loc) (ls' : Array Slot), gSame g g' → LG g' s σ' w' H' locs' (B + 6010) → lv_has ls' 9 (lwl b g' i) → W p l e room_1 s m args below meth c H' locs' (cells + 6) (slots + 248) Q (F0 m 1384 ls' [])) : W p l e room_1 s m args below meth c H locs cells slots Q (F0 m 1121 ls []) := by
  obtain ⟨hx, hb, hml, hown, hts, hX, hbl⟩ := C
  obtain ⟨hZ, hG, hS, hI, hN⟩ := D
  have hbA : ¬ gA g b := by show ¬ gN0 g ≤ b; omega
  have hl : lv_has ls 9 [(0, .ref b), (1, .ref (gad g 0 0)), (2, .ref (gad g 8 0)), (3, .ref (gad g 10 0)), (4, .int (nI i))] := hl
  refine lv_aload_n hx hb dL_law_1121 rfl (lv_at hl 1 rfl) ?_
  refine lw_cell hx hb hX hbl hbA hS 1 (lv_at hl 0 rfl) (lv_at hl 4 rfl) (by decide) (by omega) hL dL_law_1122 dL_law_1123 dL_law_1125 dL_law_1126 dL_law_1127 ?_
  refine lw_cell hx hb hX hbl hbA hS 2 (lv_at hl 0 rfl) (lv_at hl 4 rfl) (by decide) (by omega) hL dL_law_1128 dL_law_1129 dL_law_1131 dL_law_1132 dL_law_1133 ?_
  have go : ∀ bv : Int32, (xs (i + 2) = 0 → bv = 0) → (¬ xs (i + 2) = 0 → bv = 1) → W p l e room_1 s m args below meth c H locs cells slots Q (F0 m 1142 ls [.int bv, .int (xs (i + 1)), .ref (gad g 0 0)]) := by
    intro bv hb0 hb1
    refine lv_aload_n hx hb dL_law_1142 rfl (lv_at hl 3 rfl) ?_
    refine gx_cEn (gx_runSX (As := [.ref (gad g 0 0), .int (xs (i + 1)), .int bv, .ref (gad g 10 0)]) (rest := []) ⟨hx, hb, hml, hown, hts⟩ (c_L_money l hl0 g σ w (xs (i + 1)) bv hI.1 hI.2.2.2.1.1 hI.2.2.2.1.2) (vx_cwSW 4 hts gL_law_L_money rfl rfl rfl (by decide +kernel) ⟨Nat.le_of_ble_eq_true rfl, Nat.le_of_ble_eq_true rfl⟩) hZ hG hS rfl hl.1 rfl (Nat.le_of_ble_eq_true rfl) dL_law_1143 ⟨rc1 (by omega), rs1 (by omega)⟩) hS (fun vr H1 locs1 hD hS hsz => ?_)
    obtain ⟨kv, σ1, w1, rfl, hG, hF, hca, hk, hw, hI⟩ := z_money hI hB (xs (i + 1)) bv hD
    refine lv_istore (lv' := [(5, .int kv), (0, .ref b), (1, .ref (gad g 0 0)), (2, .ref (gad g 8 0)), (3, .ref (gad g 10 0)), (4, .int (nI i))]) hx hb dL_law_1146 hl (by decide) rfl (fun ls hl => ?_)
    refine lv_aload_n hx hb dL_law_1148 rfl (lv_at hl 3 rfl) ?_
    refine lw_cell hx hb hX hbl hbA hS 1 (lv_at hl 1 rfl) (lv_at hl 5 rfl) (by decide) (by omega) hL dL_law_1149 dL_law_1150 dL_law_1152 dL_law_1153 dL_law_1154 ?_
    refine lw_cell hx hb hX hbl hbA hS 2 (lv_at hl 1 rfl) (lv_at hl 5 rfl) (by decide) (by omega) hL dL_law_1155 dL_law_1156 dL_law_1158 dL_law_1159 dL_law_1160 ?_
    have go2 : ∀ bv2 : Int32, bv2 = bv → W p l e room_1 s m args below meth c H1 locs1 (cells + 1) (slots + 6) Q (F0 m 1169 ls [.int bv2, .int (xs (i + 1)), .ref (gad g 8 0)]) := by
      intro bv2 hb2
      subst hb2
      refine gx_cM (gx_runV (As := [.int (xs (i + 1)), .int bv2]) (rest := []) ⟨hx, hb, hml, hown, hts⟩ (c_X3_money l g σ1 w1 (xs (i + 1)) bv2 hF) (cwV 2 hts gL_law_X3_money rfl rfl rfl (by decide +kernel) ⟨Nat.le_of_ble_eq_true rfl, Nat.le_of_ble_eq_true rfl⟩) (gx_obj hZ hG 8 0 hF.1.b8 rfl) hZ hG hS rfl hl.1 rfl (Nat.le_of_ble_eq_true rfl) dL_law_1169 ⟨rc1 (by omega), rs1 (by omega)⟩) hS (fun H2 locs2 hG hS hsz2 => ?_)
      refine lw_tail (bv := (mMoney (gst σ1 8 0 0 0) (xs (i + 1)) bv2).1) hx hb hml hown hts hZ hG hS hI.2.1.1 hI.2.2.2.1 hk hw hl ⟨by omega, by omega⟩ dL_law_1172 dL_law_1174 dL_law_1175 dL_law_1178 dL_law_1180 dL_law_1185 dL_law_1187 dL_law_1190 dL_law_1191 dL_law_1192 dL_law_1193 dL_law_1195 dL_law_1196 dL_law_1197 dL_law_1202 (by decide) (fun ls hl => ?_)
      refine W.widen (k := cells + 6) (n := slots + 248) (by omega) (by omega) ?_
      exact kk g _ _ _ _ ls (gSame.rf g) ⟨hZ, hG, hS, hI, hN⟩ hl
    refine lv_if_eq (tgt := 1168) hx hb dL_law_1161 (by decide) (fun c1 => ?_) (fun c1 => ?_)
    · refine lv_iconst (v := 0) hx hb dL_law_1168 (by decide) ?_
      exact go2 0 (hb0 c1).symm
    · refine lv_iconst (v := 1) hx hb dL_law_1164 (by decide) ?_
      refine lv_goto (tgt := 1169) hx hb dL_law_1165 (by decide) ?_
      exact go2 1 (hb1 c1).symm
  refine lv_if_eq (tgt := 1141) hx hb dL_law_1134 (by decide) (fun c1 => ?_) (fun c1 => ?_)
  · refine lv_iconst (v := 0) hx hb dL_law_1141 (by decide) ?_
    exact go 0 (fun _ => rfl) (fun q => absurd c1 q)
  · refine lv_iconst (v := 1) hx hb dL_law_1137 (by decide) ?_
    refine lv_goto (tgt := 1142) hx hb dL_law_1138 (by decide) ?_
    exact go 1 (fun q => absurd q c1) (fun _ => rfl)
end LAWC
