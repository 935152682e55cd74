section LAWC
variable {p : Program} {e : Env} {s : State} {m : MethodId} {args : Array Value} {below : List Frame} {meth : Method} {c : Code} {H : Heap} {locs : List Loc} {cells slots : Nat} {Q : State → Prop}
variable {ls : Array Slot} {g : gG} {σ : Mem} {w : Int64} {b L : Nat} {xs : Nat → Int32} {B i : Nat}
set_option maxHeartbeats 4000000 in
set_option maxRecDepth 100000 in
theorem law_setWay (l : Launch) (hl0 : l.stackTraces = false) (C : LW p s m c args b L xs) (D : LG g s σ w H locs B) (hB : B + 6010 < 2 ^ 31) (hi : i + 5 ≤ L) (hL : L ≤ 2560) (hroom : cells + 6 ≤ 601024 ∧ slots + 248 ≤ 7293034) (hl : lv_has ls 9 (lwl b g i))
    (kk : ∀ (g' : gG) (σ' : Mem) (w' : Int64) (H' : Heap) (locs' : List Loc) (ls' : Array Slot), gSame g g' → LG g' s σ' w' H' locs' (B + 6010) → lv_has ls' 9 (lwl b g' i) → W p l e room_1 s m args below meth c H' locs' (cells + 6) (slots + 248) Q (F0 m 1384 ls' [])) : W p l e room_1 s m args below meth c H locs cells slots Q (F0 m 136 ls []) := by
  obtain ⟨hx, hb, hml, hown, hts, hX, hbl⟩ := C
  obtain ⟨hZ, hG, hS, hI, hN⟩ := D
  have hbA : ¬ gA g b := by show ¬ gN0 g ≤ b; omega
  have hl : lv_has ls 9 [(0, .ref b), (1, .ref (gad g 0 0)), (2, .ref (gad g 8 0)), (3, .ref (gad g 10 0)), (4, .int (nI i))] := hl
  refine lv_aload_n hx hb dL_law_136 rfl (lv_at hl 1 rfl) ?_
  refine lw_cell hx hb hX hbl hbA hS 1 (lv_at hl 0 rfl) (lv_at hl 4 rfl) (by decide) (by omega) hL dL_law_137 dL_law_138 dL_law_140 dL_law_141 dL_law_142 ?_
  refine lw_cell hx hb hX hbl hbA hS 2 (lv_at hl 0 rfl) (lv_at hl 4 rfl) (by decide) (by omega) hL dL_law_143 dL_law_144 dL_law_146 dL_law_147 dL_law_148 ?_
  refine lw_cell hx hb hX hbl hbA hS 3 (lv_at hl 0 rfl) (lv_at hl 4 rfl) (by decide) (by omega) hL dL_law_149 dL_law_150 dL_law_152 dL_law_153 dL_law_154 ?_
  refine lv_aload_n hx hb dL_law_155 rfl (lv_at hl 3 rfl) ?_
  refine gx_cEn (gx_runSX (As := [.ref (gad g 0 0), .int (xs (i + 1)), .int (xs (i + 2)), .int (xs (i + 3)), .ref (gad g 10 0)]) (rest := []) ⟨hx, hb, hml, hown, hts⟩ (c_L_setWay l hl0 g σ w (xs (i + 1)) (xs (i + 2)) (xs (i + 3)) hI.1 hI.2.2.2.1.1 hI.2.2.2.1.2) (vx_cwSW 5 hts gL_law_L_setWay rfl rfl rfl (by decide +kernel) ⟨Nat.le_of_ble_eq_true rfl, Nat.le_of_ble_eq_true rfl⟩) hZ hG hS rfl hl.1 rfl (Nat.le_of_ble_eq_true rfl) dL_law_156 ⟨rc1 (by omega), rs1 (by omega)⟩) hS (fun vr H1 locs1 hD hS hsz => ?_)
  obtain ⟨kv, σ1, w1, rfl, hG, hF, hca, hk, hw, hI⟩ := z_setWay hI hB (xs (i + 1)) (xs (i + 2)) (xs (i + 3)) hD
  refine lv_istore (lv' := [(5, .int kv), (0, .ref b), (1, .ref (gad g 0 0)), (2, .ref (gad g 8 0)), (3, .ref (gad g 10 0)), (4, .int (nI i))]) hx hb dL_law_159 hl (by decide) rfl (fun ls hl => ?_)
  refine lv_aload_n hx hb dL_law_161 rfl (lv_at hl 3 rfl) ?_
  refine lw_cell hx hb hX hbl hbA hS 1 (lv_at hl 1 rfl) (lv_at hl 5 rfl) (by decide) (by omega) hL dL_law_162 dL_law_163 dL_law_165 dL_law_166 dL_law_167 ?_
  refine lw_cell hx hb hX hbl hbA hS 2 (lv_at hl 1 rfl) (lv_at hl 5 rfl) (by decide) (by omega) hL dL_law_168 dL_law_169 dL_law_171 dL_law_172 dL_law_173 ?_
  refine lw_cell hx hb hX hbl hbA hS 3 (lv_at hl 1 rfl) (lv_at hl 5 rfl) (by decide) (by omega) hL dL_law_174 dL_law_175 dL_law_177 dL_law_178 dL_law_179 ?_
  refine gx_cM (gx_runV (As := [.int (xs (i + 1)), .int (xs (i + 2)), .int (xs (i + 3))]) (rest := []) ⟨hx, hb, hml, hown, hts⟩ (c_X3_setWay l g σ1 w1 (xs (i + 1)) (xs (i + 2)) (xs (i + 3)) hF) (cwV 3 hts gL_law_X3_setWay rfl rfl rfl (by decide +kernel) ⟨Nat.le_of_ble_eq_true rfl, Nat.le_of_ble_eq_true rfl⟩) (gx_obj hZ hG 8 0 hF.1.b8 rfl) hZ hG hS rfl hl.1 rfl (Nat.le_of_ble_eq_true rfl) dL_law_180 ⟨rc1 (by omega), rs1 (by omega)⟩) hS (fun H2 locs2 hG hS hsz2 => ?_)
  refine lw_tail (bv := (mSetWay (gst σ1 8 0 0 0) (xs (i + 1)) (xs (i + 2)) (xs (i + 3))).1) hx hb hml hown hts hZ hG hS hI.2.1.1 hI.2.2.2.1 hk hw hl ⟨by omega, by omega⟩ dL_law_183 dL_law_185 dL_law_186 dL_law_189 dL_law_191 dL_law_196 dL_law_198 dL_law_201 dL_law_202 dL_law_203 dL_law_204 dL_law_206 dL_law_207 dL_law_208 dL_law_213 (by decide) (fun ls hl => ?_)
  refine W.widen (k := cells + 6) (n := slots + 248) (by omega) (by omega) ?_
  exact kk g _ _ _ _ ls (gSame.rf g) ⟨hZ, hG, hS, hI, hN⟩ hl
end LAWC
