def bt1 (x : Int32) : Int32 := x - ((x.toUInt32 >>> ((1 : Int32).toUInt32 &&& Int32.toUInt32 31)).toInt32 &&& 1431655765)
def bt2 (x : Int32) : Int32 := (x &&& 858993459) + ((x.toUInt32 >>> ((2 : Int32).toUInt32 &&& Int32.toUInt32 31)).toInt32 &&& 858993459)
def bt3 (x : Int32) : Int32 := (x + (x.toUInt32 >>> ((4 : Int32).toUInt32 &&& Int32.toUInt32 31)).toInt32) &&& 252645135
def bt4 (x : Int32) : Int32 := x + (x.toUInt32 >>> ((8 : Int32).toUInt32 &&& Int32.toUInt32 31)).toInt32
def bt5 (x : Int32) : Int32 := x + (x.toUInt32 >>> ((16 : Int32).toUInt32 &&& Int32.toUInt32 31)).toInt32
def bcnt (x : Int32) : Int32 := bt5 (bt4 (bt3 (bt2 (bt1 x)))) &&& 63
def xCabDet (σ : Mem) (c : Nat) (x : Int32) : Int32 := if x = 0 then σ 6 c 3 else if x = 1 then σ 6 c 2 else if x = 2 then σ 6 c 1 else if x = 3 then (if σ 6 c 6 = -1 then -1 else σ 7 (ix (σ 6 c 6)) 0) else xPlace σ c
def xOrdDet (σ : Mem) (o : Nat) (x : Int32) : Int32 := if x = 0 then σ 7 o 5 else if x = 1 then (if σ 7 o 6 = -1 then -1 else σ 6 (ix (σ 7 o 6)) 0) else if x = 2 then σ 7 o 9 else if x = 3 then σ 7 o 10 else bcnt (σ 7 o 8)
def xFareP (σ : Mem) (o : Nat) (x : Int32) : Int32 := if x = 0 then σ 7 o 11 else if x = 1 then σ 7 o 12 else if x = 2 then σ 7 o 13 else if x = 3 then σ 7 o 14 else xWhole σ o
def xOsGo (σ : Mem) (x : Int32) : Nat → Nat → Int32 → Int32
  | 0, _, acc => acc
  | r + 1, k, acc => if σ 7 k 5 = x then xOsGo σ x r (k + 1) (acc + 1) else xOsGo σ x r (k + 1) acc
def xOs (σ : Mem) (x : Int32) : Int32 := xOsGo σ x (nO σ) 0 0
def xMix (d x : Int64) : Int64 := d * 31 + x
def xMcGo (σ : Mem) (c : Nat) : Nat → Nat → Int64 → Int64
  | 0, _, d => d
  | r + 1, k, d => xMcGo σ c r (k + 1) (xMix d (xCabDet σ c (nI k)).toInt64)
def xMc (σ : Mem) (d : Int64) (c : Nat) : Int64 := xMix (xMix (xMcGo σ c 5 0 d) (σ 6 c 7).toInt64) (σ 6 c 8).toInt64
def xMoGo2 (σ : Mem) (o : Nat) : Nat → Nat → Int64 → Int64
  | 0, _, d => d
  | r + 1, k, d => xMoGo2 σ o r (k + 1) (xMix d (xOrdDet σ o (nI k)).toInt64)
def xMord (σ : Mem) (d : Int64) (o : Nat) : Int64 := xMix (xMoGo2 σ o 5 0 d) (xWhole σ o).toInt64
def xMqGo (σ : Mem) (z : Int32) : Nat → Nat → Int64 → Int64
  | 0, _, d => d
  | r + 1, k, d => if xCiq σ z (nI k) = -1 then xMqGo σ z r (k + 1) d else xMqGo σ z r (k + 1) (xMix d (xCiq σ z (nI k)).toInt64)
def xMq (σ : Mem) (d : Int64) (z : Int32) : Int64 := xMqGo σ z (nC σ) 0 d
def xD1 (σ : Mem) : Nat → Nat → Int64 → Int64
  | 0, _, d => d
  | r + 1, k, d => xD1 σ r (k + 1) (xMc σ d k)
def xD2 (σ : Mem) : Nat → Nat → Int64 → Int64
  | 0, _, d => d
  | r + 1, k, d => xD2 σ r (k + 1) (xMord σ d k)
def xD3 (σ : Mem) : Nat → Nat → Int64 → Int64
  | 0, _, d => d
  | r + 1, k, d => xD3 σ r (k + 1) (xMq σ d (nI k))
def xDa (σ : Mem) : Int64 := xD1 σ (nC σ) 0 (xMix (xMix 293 (σ 0 0 3).toInt64) (nI (nC σ)).toInt64)
def xDb (σ : Mem) : Int64 := xD2 σ (nO σ) 0 (xMix (xDa σ) (nI (nO σ)).toInt64)
def xDigest (σ : Mem) : Int64 := xD3 σ 6 0 (xDb σ)
set_option maxHeartbeats 4000000 in
set_option maxRecDepth 100000 in
theorem c_bitCount (l : Launch) (g : gG) (σ : Mem) (w : Int64) (x : Int32) : Met l yJ6_bitCount_0f7a4 wsJ6_bitCount_0f7a4 ({ frames := 0, cells := 0, slots := 0, locals := 0 } : Room) (gPc g σ w [.int (x)]) (gR (.int (bcnt x))) 0 0 (fun _ => False) := by
  refine gx_ofW (cc := cJ6_bitCount_0f7a4) (maxL := 1) (ret := (some .int)) (by decide) rfl (Nat.le_of_ble_eq_true rfl) ?_
  intro p e s m below meth c0 hx hb hr hml hts hown hlocks hin hG hZ hS ls hl
  have hown : s.vm.findClass RJ6 = some m.cls := hown
  have hl : lv_has ls 1 [(0, .int (x))] := hl
  have k1 := hts (.constant RJ6 265 (1431655765)) (by decide +kernel)
  have k2 := hts (.constant RJ6 266 (858993459)) (by decide +kernel)
  have k3 := hts (.constant RJ6 267 (252645135)) (by decide +kernel)
  refine lv_iload_n hx hb dJ6_bitCount_0f7a4_0 rfl (lv_at hl 0 rfl) ?_
  refine lv_iload_n hx hb dJ6_bitCount_0f7a4_1 rfl (lv_at hl 0 rfl) ?_
  refine lv_iconst (v := 1) hx hb dJ6_bitCount_0f7a4_2 (by decide) ?_
  refine lv_iushr hx hb dJ6_bitCount_0f7a4_3 rfl ?_
  refine lv_ldcw hx hb hown k1 dJ6_bitCount_0f7a4_4 ?_
  refine lv_iand hx hb dJ6_bitCount_0f7a4_7 ?_
  refine lv_isub hx hb dJ6_bitCount_0f7a4_8 ?_
  refine gx_topN (y := bt1 x) rfl ?_
  refine lv_istore_n (lv' := [(0, .int (bt1 x))]) hx hb dJ6_bitCount_0f7a4_9 rfl hl (by decide) rfl (fun ls hl => ?_)
  refine lv_iload_n hx hb dJ6_bitCount_0f7a4_10 rfl (lv_at hl 0 rfl) ?_
  refine lv_ldcw hx hb hown k2 dJ6_bitCount_0f7a4_11 ?_
  refine lv_iand hx hb dJ6_bitCount_0f7a4_14 ?_
  refine lv_iload_n hx hb dJ6_bitCount_0f7a4_15 rfl (lv_at hl 0 rfl) ?_
  refine lv_iconst (v := 2) hx hb dJ6_bitCount_0f7a4_16 (by decide) ?_
  refine lv_iushr hx hb dJ6_bitCount_0f7a4_17 rfl ?_
  refine lv_ldcw hx hb hown k2 dJ6_bitCount_0f7a4_18 ?_
  refine lv_iand hx hb dJ6_bitCount_0f7a4_21 ?_
  refine lv_iadd hx hb dJ6_bitCount_0f7a4_22 ?_
  refine gx_topN (y := bt2 (bt1 x)) rfl ?_
  refine lv_istore_n (lv' := [(0, .int (bt2 (bt1 x)))]) hx hb dJ6_bitCount_0f7a4_23 rfl hl (by decide) rfl (fun ls hl => ?_)
  refine lv_iload_n hx hb dJ6_bitCount_0f7a4_24 rfl (lv_at hl 0 rfl) ?_
  refine lv_iload_n hx hb dJ6_bitCount_0f7a4_25 rfl (lv_at hl 0 rfl) ?_
  refine lv_iconst (v := 4) hx hb dJ6_bitCount_0f7a4_26 (by decide) ?_
  refine lv_iushr hx hb dJ6_bitCount_0f7a4_27 rfl ?_
  refine lv_iadd hx hb dJ6_bitCount_0f7a4_28 ?_
  refine lv_ldcw hx hb hown k3 dJ6_bitCount_0f7a4_29 ?_
  refine lv_iand hx hb dJ6_bitCount_0f7a4_32 ?_
  refine gx_topN (y := bt3 (bt2 (bt1 x))) rfl ?_
  refine lv_istore_n (lv' := [(0, .int (bt3 (bt2 (bt1 x))))]) hx hb dJ6_bitCount_0f7a4_33 rfl hl (by decide) rfl (fun ls hl => ?_)
  refine lv_iload_n hx hb dJ6_bitCount_0f7a4_34 rfl (lv_at hl 0 rfl) ?_
  refine lv_iload_n hx hb dJ6_bitCount_0f7a4_35 rfl (lv_at hl 0 rfl) ?_
  refine lv_bipush (v := 8) hx hb dJ6_bitCount_0f7a4_36 (by decide) ?_
  refine lv_iushr hx hb dJ6_bitCount_0f7a4_38 rfl ?_
  refine lv_iadd hx hb dJ6_bitCount_0f7a4_39 ?_
  refine gx_topN (y := bt4 (bt3 (bt2 (bt1 x)))) rfl ?_
  refine lv_istore_n (lv' := [(0, .int (bt4 (bt3 (bt2 (bt1 x)))))]) hx hb dJ6_bitCount_0f7a4_40 rfl hl (by decide) rfl (fun ls hl => ?_)
  refine lv_iload_n hx hb dJ6_bitCount_0f7a4_41 rfl (lv_at hl 0 rfl) ?_
  refine lv_iload_n hx hb dJ6_bitCount_0f7a4_42 rfl (lv_at hl 0 rfl) ?_
  refine lv_bipush (v := 16) hx hb dJ6_bitCount_0f7a4_43 (by decide) ?_
  refine lv_iushr hx hb dJ6_bitCount_0f7a4_45 rfl ?_
  refine lv_iadd hx hb dJ6_bitCount_0f7a4_46 ?_
  refine gx_topN (y := bt5 (bt4 (bt3 (bt2 (bt1 x))))) rfl ?_
  refine lv_istore_n (lv' := [(0, .int (bt5 (bt4 (bt3 (bt2 (bt1 x))))))]) hx hb dJ6_bitCount_0f7a4_47 rfl hl (by decide) rfl (fun ls hl => ?_)
  refine lv_iload_n hx hb dJ6_bitCount_0f7a4_48 rfl (lv_at hl 0 rfl) ?_
  refine lv_bipush (v := 63) hx hb dJ6_bitCount_0f7a4_49 (by decide) ?_
  refine lv_iand hx hb dJ6_bitCount_0f7a4_51 ?_
  exact gx_iretR hx hb hr hlocks rfl (Nat.le_of_ble_eq_true rfl) (Nat.le_of_ble_eq_true rfl) dJ6_bitCount_0f7a4_52
set_option maxHeartbeats 4000000 in
set_option maxRecDepth 100000 in
theorem c_X2_cabDetail (l : Launch) (g : gG) (σ : Mem) (w : Int64) (c : Nat) (x : Int32) (hX : Xok g σ) (hc : c < gcn g 6) : Met l yX2_cabDetail wsX2_cabDetail ({ frames := 4, cells := 0, slots := 0, locals := 89 } : Room) (gPc g σ w [.ref (gad g 0 0), .ref (gad g 6 c), .int (x)]) (gR (.int (xCabDet σ c x))) 0 0 (fun _ => False) := by
  refine gx_ofW (cc := cX2_cabDetail) (maxL := 3) (ret := (some .int)) (by decide) rfl (Nat.le_of_ble_eq_true rfl) ?_
  intro p e s m below meth c0 hx hb hr hml hts hown hlocks hin hG hZ hS ls hl
  have hown : s.vm.findClass RX2 = some m.cls := hown
  have hl : lv_has ls 3 [(0, .ref (gad g 0 0)), (1, .ref (gad g 6 c)), (2, .int (x))] := hl
  have k1 := hts (.fieldLink RX2 80 "TaxiRank$Cab" "state" "I") (by decide +kernel)
  have k2 := hts (.fieldLink RX2 101 "TaxiRank$Cab" "zone" "I") (by decide +kernel)
  have k3 := hts (.fieldLink RX2 208 "TaxiRank$Cab" "seats" "I") (by decide +kernel)
  have k4 := hts (.fieldLink RX2 251 "TaxiRank$Cab" "order" "LTaxiRank$Order;") (by decide +kernel)
  have k5 := hts (.fieldLink RX2 153 "TaxiRank$Order" "number" "I") (by decide +kernel)
  refine lv_iload_n hx hb dX2_cabDetail_0 rfl (lv_at hl 2 rfl) ?_
  by_cases z_1 : x = 0
  · refine lv_tableIn (off := 31) (tgt := 32) hx hb dX2_cabDetail_1 (by rw [z_1]; decide) (by rw [z_1]; decide) (by rw [z_1]; rfl) (by decide) ?_
    refine lv_aload_n hx hb dX2_cabDetail_32 rfl (lv_at hl 1 rfl) ?_
    refine gx_get hx hb hown hZ hG 6 c 3 hc rfl (by decide) k1 (fun _ h => h) (v := .int (σ 6 c 3)) rfl dX2_cabDetail_33 ?_
    exact gx_iretR hx hb hr hlocks (by first | (simp only [xCabDet, z_1, reduceIte, eq_self, Bool.false_eq_true]; done) | simp [xCabDet, z_1]) (Nat.le_of_ble_eq_true rfl) (Nat.le_of_ble_eq_true rfl) dX2_cabDetail_36
  by_cases z_2 : x = 1
  · refine lv_tableIn (off := 36) (tgt := 37) hx hb dX2_cabDetail_1 (by rw [z_2]; decide) (by rw [z_2]; decide) (by rw [z_2]; rfl) (by decide) ?_
    refine lv_aload_n hx hb dX2_cabDetail_37 rfl (lv_at hl 1 rfl) ?_
    refine gx_get hx hb hown hZ hG 6 c 2 hc rfl (by decide) k2 (fun _ h => h) (v := .int (σ 6 c 2)) rfl dX2_cabDetail_38 ?_
    exact gx_iretR hx hb hr hlocks (by first | (simp only [xCabDet, z_1, z_2, reduceIte, eq_self, Bool.false_eq_true]; done) | simp [xCabDet, z_1, z_2]) (Nat.le_of_ble_eq_true rfl) (Nat.le_of_ble_eq_true rfl) dX2_cabDetail_41
  by_cases z_3 : x = 2
  · refine lv_tableIn (off := 41) (tgt := 42) hx hb dX2_cabDetail_1 (by rw [z_3]; decide) (by rw [z_3]; decide) (by rw [z_3]; rfl) (by decide) ?_
    refine lv_aload_n hx hb dX2_cabDetail_42 rfl (lv_at hl 1 rfl) ?_
    refine gx_get hx hb hown hZ hG 6 c 1 hc rfl (by decide) k3 (fun _ h => h) (v := .int (σ 6 c 1)) rfl dX2_cabDetail_43 ?_
    exact gx_iretR hx hb hr hlocks (by first | (simp only [xCabDet, z_1, z_2, z_3, reduceIte, eq_self, Bool.false_eq_true]; done) | simp [xCabDet, z_1, z_2, z_3]) (Nat.le_of_ble_eq_true rfl) (Nat.le_of_ble_eq_true rfl) dX2_cabDetail_46
  by_cases z_4 : x = 3
  · refine lv_tableIn (off := 46) (tgt := 47) hx hb dX2_cabDetail_1 (by rw [z_4]; decide) (by rw [z_4]; decide) (by rw [z_4]; rfl) (by decide) ?_
    refine lv_aload_n hx hb dX2_cabDetail_47 rfl (lv_at hl 1 rfl) ?_
    have v_5 : σ 6 c 6 = -1 ∨ ∃ j, j < gcn g 7 ∧ σ 6 c 6 = nI j := hG.2.2.1 6 c 6 hc
    refine gx_get hx hb hown hZ hG 6 c 6 hc rfl (by decide) k4 (fun _ h => h) (v := grf (gad g 7) (σ 6 c 6)) rfl dX2_cabDetail_48 ?_
    refine gx_ifnonnull (tgt := 58) hx hb dX2_cabDetail_51 (by decide) (fun c_6 => ?_) (fun c_6 => ?_)
    · skip
      refine lv_aload_n hx hb dX2_cabDetail_58 rfl (lv_at hl 1 rfl) ?_
      have v_7 : σ 6 c 6 = -1 ∨ ∃ j, j < gcn g 7 ∧ σ 6 c 6 = nI j := hG.2.2.1 6 c 6 hc
      refine gx_get hx hb hown hZ hG 6 c 6 hc rfl (by decide) k4 (fun _ h => h) (v := grf (gad g 7) (σ 6 c 6)) rfl dX2_cabDetail_59 ?_
      refine gx_topV (grf_nn c_6) ?_
      refine gx_get hx hb hown hZ hG 7 (ix (σ 6 c 6)) 0 (nn_lt v_7 c_6 (hG.2.2.2 7)) rfl (by decide) k5 (fun _ h => h) (v := .int (σ 7 (ix (σ 6 c 6)) 0)) rfl dX2_cabDetail_62 ?_
      exact gx_iretR hx hb hr hlocks (by first | (simp only [xCabDet, z_1, z_2, z_3, z_4, c_6, reduceIte, eq_self, Bool.false_eq_true]; done) | simp [xCabDet, z_1, z_2, z_3, z_4, c_6]) (Nat.le_of_ble_eq_true rfl) (Nat.le_of_ble_eq_true rfl) dX2_cabDetail_65
    · skip
      refine lv_iconst (v := (-1)) hx hb dX2_cabDetail_54 (by decide) ?_
      refine lv_goto (tgt := 65) hx hb dX2_cabDetail_55 (by decide) ?_
      exact gx_iretR hx hb hr hlocks (by first | (simp only [xCabDet, z_1, z_2, z_3, z_4, c_6, reduceIte, eq_self, Bool.false_eq_true]; done) | simp [xCabDet, z_1, z_2, z_3, z_4, c_6]) (Nat.le_of_ble_eq_true rfl) (Nat.le_of_ble_eq_true rfl) dX2_cabDetail_65
  refine lv_tableOut (tgt := 66) hx hb dX2_cabDetail_1 (sw_out4 z_1 z_2 z_3 z_4) (by decide) ?_
  refine lv_aload_n hx hb dX2_cabDetail_66 rfl (lv_at hl 0 rfl) ?_
  refine lv_aload_n hx hb dX2_cabDetail_67 rfl (lv_at hl 1 rfl) ?_
  refine gx_cR (gx_runV (As := [.ref (gad g 6 c)]) (rest := []) ⟨hx, hb, hml, hown, hts⟩ (c_X2_placeOf l g σ w c hX hc) (cwV 1 hts gX2_cabDetail_X2_placeOf rfl rfl rfl (by decide +kernel) ⟨Nat.le_of_ble_eq_true rfl, Nat.le_of_ble_eq_true rfl⟩) (gx_obj hZ hG 0 0 hX.k0 rfl) hZ hG hS rfl hl.1 rfl (Nat.le_of_ble_eq_true rfl) dX2_cabDetail_68 ⟨Nat.le_of_ble_eq_true rfl, Nat.le_of_ble_eq_true rfl⟩) ?_
  exact gx_iretR hx hb hr hlocks (by first | (simp only [xCabDet, z_1, z_2, z_3, z_4, reduceIte, eq_self, Bool.false_eq_true]; done) | simp [xCabDet, z_1, z_2, z_3, z_4]) (Nat.le_of_ble_eq_true rfl) (Nat.le_of_ble_eq_true rfl) dX2_cabDetail_71
set_option maxHeartbeats 4000000 in
set_option maxRecDepth 100000 in
theorem c_X2_orderDetail (l : Launch) (g : gG) (σ : Mem) (w : Int64) (o : Nat) (x : Int32) (ho : o < gcn g 7) : Met l yX2_orderDetail wsX2_orderDetail ({ frames := 1, cells := 0, slots := 0, locals := 20 } : Room) (gPc g σ w [.ref (gad g 7 o), .int (x)]) (gR (.int (xOrdDet σ o x))) 0 0 (fun _ => False) := by
  refine gx_ofW (cc := cX2_orderDetail) (maxL := 2) (ret := (some .int)) (by decide) rfl (Nat.le_of_ble_eq_true rfl) ?_
  intro p e s m below meth c0 hx hb hr hml hts hown hlocks hin hG hZ hS ls hl
  have hown : s.vm.findClass RX2 = some m.cls := hown
  have hl : lv_has ls 2 [(0, .ref (gad g 7 o)), (1, .int (x))] := hl
  have k1 := hts (.fieldLink RX2 152 "TaxiRank$Order" "state" "I") (by decide +kernel)
  have k2 := hts (.fieldLink RX2 267 "TaxiRank$Order" "cab" "LTaxiRank$Cab;") (by decide +kernel)
  have k3 := hts (.fieldLink RX2 250 "TaxiRank$Cab" "number" "I") (by decide +kernel)
  have k4 := hts (.fieldLink RX2 201 "TaxiRank$Order" "begunAt" "I") (by decide +kernel)
  have k5 := hts (.fieldLink RX2 326 "TaxiRank$Order" "doneAt" "I") (by decide +kernel)
  have k6 := hts (.fieldLink RX2 284 "TaxiRank$Order" "refusers" "I") (by decide +kernel)
  refine lv_iload_n hx hb dX2_orderDetail_0 rfl (lv_at hl 1 rfl) ?_
  by_cases z_1 : x = 0
  · refine lv_tableIn (off := 31) (tgt := 32) hx hb dX2_orderDetail_1 (by rw [z_1]; decide) (by rw [z_1]; decide) (by rw [z_1]; rfl) (by decide) ?_
    refine lv_aload_n hx hb dX2_orderDetail_32 rfl (lv_at hl 0 rfl) ?_
    refine gx_get hx hb hown hZ hG 7 o 5 ho rfl (by decide) k1 (fun _ h => h) (v := .int (σ 7 o 5)) rfl dX2_orderDetail_33 ?_
    exact gx_iretR hx hb hr hlocks (by first | (simp only [xOrdDet, z_1, reduceIte, eq_self, Bool.false_eq_true]; done) | simp [xOrdDet, z_1]) (Nat.le_of_ble_eq_true rfl) (Nat.le_of_ble_eq_true rfl) dX2_orderDetail_36
  by_cases z_2 : x = 1
  · refine lv_tableIn (off := 36) (tgt := 37) hx hb dX2_orderDetail_1 (by rw [z_2]; decide) (by rw [z_2]; decide) (by rw [z_2]; rfl) (by decide) ?_
    refine lv_aload_n hx hb dX2_orderDetail_37 rfl (lv_at hl 0 rfl) ?_
    have v_3 : σ 7 o 6 = -1 ∨ ∃ j, j < gcn g 6 ∧ σ 7 o 6 = nI j := hG.2.2.1 7 o 6 ho
    refine gx_get hx hb hown hZ hG 7 o 6 ho rfl (by decide) k2 (fun _ h => h) (v := grf (gad g 6) (σ 7 o 6)) rfl dX2_orderDetail_38 ?_
    refine gx_ifnonnull (tgt := 48) hx hb dX2_orderDetail_41 (by decide) (fun c_4 => ?_) (fun c_4 => ?_)
    · skip
      refine lv_aload_n hx hb dX2_orderDetail_48 rfl (lv_at hl 0 rfl) ?_
      have v_5 : σ 7 o 6 = -1 ∨ ∃ j, j < gcn g 6 ∧ σ 7 o 6 = nI j := hG.2.2.1 7 o 6 ho
      refine gx_get hx hb hown hZ hG 7 o 6 ho rfl (by decide) k2 (fun _ h => h) (v := grf (gad g 6) (σ 7 o 6)) rfl dX2_orderDetail_49 ?_
      refine gx_topV (grf_nn c_4) ?_
      refine gx_get hx hb hown hZ hG 6 (ix (σ 7 o 6)) 0 (nn_lt v_5 c_4 (hG.2.2.2 6)) rfl (by decide) k3 (fun _ h => h) (v := .int (σ 6 (ix (σ 7 o 6)) 0)) rfl dX2_orderDetail_52 ?_
      exact gx_iretR hx hb hr hlocks (by first | (simp only [xOrdDet, z_1, z_2, c_4, reduceIte, eq_self, Bool.false_eq_true]; done) | simp [xOrdDet, z_1, z_2, c_4]) (Nat.le_of_ble_eq_true rfl) (Nat.le_of_ble_eq_true rfl) dX2_orderDetail_55
    · skip
      refine lv_iconst (v := (-1)) hx hb dX2_orderDetail_44 (by decide) ?_
      refine lv_goto (tgt := 55) hx hb dX2_orderDetail_45 (by decide) ?_
      exact gx_iretR hx hb hr hlocks (by first | (simp only [xOrdDet, z_1, z_2, c_4, reduceIte, eq_self, Bool.false_eq_true]; done) | simp [xOrdDet, z_1, z_2, c_4]) (Nat.le_of_ble_eq_true rfl) (Nat.le_of_ble_eq_true rfl) dX2_orderDetail_55
  by_cases z_6 : x = 2
  · refine lv_tableIn (off := 55) (tgt := 56) hx hb dX2_orderDetail_1 (by rw [z_6]; decide) (by rw [z_6]; decide) (by rw [z_6]; rfl) (by decide) ?_
    refine lv_aload_n hx hb dX2_orderDetail_56 rfl (lv_at hl 0 rfl) ?_
    refine gx_get hx hb hown hZ hG 7 o 9 ho rfl (by decide) k4 (fun _ h => h) (v := .int (σ 7 o 9)) rfl dX2_orderDetail_57 ?_
    exact gx_iretR hx hb hr hlocks (by first | (simp only [xOrdDet, z_1, z_2, z_6, reduceIte, eq_self, Bool.false_eq_true]; done) | simp [xOrdDet, z_1, z_2, z_6]) (Nat.le_of_ble_eq_true rfl) (Nat.le_of_ble_eq_true rfl) dX2_orderDetail_60
  by_cases z_7 : x = 3
  · refine lv_tableIn (off := 60) (tgt := 61) hx hb dX2_orderDetail_1 (by rw [z_7]; decide) (by rw [z_7]; decide) (by rw [z_7]; rfl) (by decide) ?_
    refine lv_aload_n hx hb dX2_orderDetail_61 rfl (lv_at hl 0 rfl) ?_
    refine gx_get hx hb hown hZ hG 7 o 10 ho rfl (by decide) k5 (fun _ h => h) (v := .int (σ 7 o 10)) rfl dX2_orderDetail_62 ?_
    exact gx_iretR hx hb hr hlocks (by first | (simp only [xOrdDet, z_1, z_2, z_6, z_7, reduceIte, eq_self, Bool.false_eq_true]; done) | simp [xOrdDet, z_1, z_2, z_6, z_7]) (Nat.le_of_ble_eq_true rfl) (Nat.le_of_ble_eq_true rfl) dX2_orderDetail_65
  refine lv_tableOut (tgt := 66) hx hb dX2_orderDetail_1 (sw_out4 z_1 z_2 z_6 z_7) (by decide) ?_
  refine lv_aload_n hx hb dX2_orderDetail_66 rfl (lv_at hl 0 rfl) ?_
  refine gx_get hx hb hown hZ hG 7 o 8 ho rfl (by decide) k6 (fun _ h => h) (v := .int (σ 7 o 8)) rfl dX2_orderDetail_67 ?_
  refine gx_cR (gx_runS (As := [.int (σ 7 o 8)]) (rest := []) ⟨hx, hb, hml, hown, hts⟩ (c_bitCount l g σ w (σ 7 o 8)) (va_cwS 1 hts gX2_orderDetail_J6_bitCount_0f7a4 rfl rfl rfl (by decide +kernel) ⟨Nat.le_of_ble_eq_true rfl, Nat.le_of_ble_eq_true rfl⟩) hZ hG hS rfl hl.1 rfl (Nat.le_of_ble_eq_true rfl) dX2_orderDetail_70 ⟨Nat.le_of_ble_eq_true rfl, Nat.le_of_ble_eq_true rfl⟩) ?_
  exact gx_iretR hx hb hr hlocks (by first | (simp only [xOrdDet, z_1, z_2, z_6, z_7, reduceIte, eq_self, Bool.false_eq_true]; done) | simp [xOrdDet, z_1, z_2, z_6, z_7]) (Nat.le_of_ble_eq_true rfl) (Nat.le_of_ble_eq_true rfl) dX2_orderDetail_73
set_option maxHeartbeats 4000000 in
set_option maxRecDepth 100000 in
theorem c_X2_ordersInState (l : Launch) (g : gG) (σ : Mem) (w : Int64) (x : Int32) (hX : Xok g σ) : Met l yX2_ordersInState wsX2_ordersInState ({ frames := 3, cells := 0, slots := 0, locals := 64 } : Room) (gPc g σ w [.ref (gad g 0 0), .int (x)]) (gR (.int (xOs σ x))) 0 0 (fun _ => False) := by
  refine gx_ofW (cc := cX2_ordersInState) (maxL := 4) (ret := (some .int)) (by decide) rfl (Nat.le_of_ble_eq_true rfl) ?_
  intro p e s m below meth c0 hx hb hr hml hts hown hlocks hin hG hZ hS ls hl
  have hown : s.vm.findClass RX2 = some m.cls := hown
  have hl : lv_has ls 4 [(0, .ref (gad g 0 0)), (1, .int (x))] := hl
  have k1 := hts (.fieldLink RX2 20 "TaxiRank" "orders" "Ljava/util/ArrayList;") (by decide +kernel)
  have k2 := hts (.classLink RX2 127 "TaxiRank$Order") (by decide +kernel)
  have k3 := hts (.fieldLink RX2 152 "TaxiRank$Order" "state" "I") (by decide +kernel)
  have hn6 := hX.n6
  have hn7 := hX.n7
  refine lv_iconst (v := 0) hx hb dX2_ordersInState_0 (by decide) ?_
  refine lv_istore_n (lv' := [(2, .int (0)), (0, .ref (gad g 0 0)), (1, .int (x))]) hx hb dX2_ordersInState_1 rfl hl (by decide) rfl (fun ls hl => ?_)
  refine lv_iconst (v := 0) hx hb dX2_ordersInState_2 (by decide) ?_
  refine lv_istore_n (lv' := [(3, .int (0)), (2, .int (0)), (0, .ref (gad g 0 0)), (1, .int (x))]) hx hb dX2_ordersInState_3 rfl hl (by decide) rfl (fun ls hl => ?_)
  have loop_4 : ∀ (nf : Nat) (r : Nat) (k : Nat) (acc : Int32), r < nf → (k + r = gcn g 7) → (xOsGo σ x r k acc = xOs σ x) → ∀ ls : Array Slot, lv_has ls 4 [(0, .ref (gad g 0 0)), (1, .int (x)), (2, .int (acc)), (3, .int (nI k))] → W p l e ({ frames := 3, cells := 0, slots := 0, locals := 64 } : Room) s m ([.ref (gad g 0 0), .int (x)] : List Value).toArray below meth c0 s.heap [] 0 0 (MQ below (gR (.int (xOs σ x))) ([.ref (gad g 0 0), .int (x)] : List Value).toArray s 0 0 (fun _ => False)) (F0 m 4 ls []) := by
    intro nf
    induction nf with
    | zero => intro r k acc hn; exact absurd hn (Nat.not_lt_zero _)
    | succ nf ih =>
      intro r k acc hn hk hres ls hl
      refine lv_iload_n hx hb dX2_ordersInState_4 rfl (lv_at hl 3 rfl) ?_
      refine lv_aload_n hx hb dX2_ordersInState_5 rfl (lv_at hl 0 rfl) ?_
      refine gx_get hx hb hown hZ hG 0 0 2 hX.k0 rfl (by decide) k1 (fun _ h => h) (v := .ref (gad g 3 0)) (grf_z hX.r2) dX2_ordersInState_6 ?_
      refine gx_cR (gx_runV (As := []) (rest := [.int (nI k)]) ⟨hx, hb, hml, hown, hts⟩ (c_size3 l g σ w hX) (cwV 0 hts gX2_ordersInState_Jx4a65c_size_8abf5 rfl rfl rfl (by decide +kernel) ⟨Nat.le_of_ble_eq_true rfl, Nat.le_of_ble_eq_true rfl⟩) (gx_obj hZ hG 3 0 hX.k3 rfl) hZ hG hS rfl hl.1 rfl (Nat.le_of_ble_eq_true rfl) dX2_ordersInState_9 ⟨Nat.le_of_ble_eq_true rfl, Nat.le_of_ble_eq_true rfl⟩) ?_
      refine lv_icmp_ge (tgt := 42) hx hb dX2_ordersInState_12 (by decide) (fun c_1 => ?_) (fun c_1 => ?_)
      · skip
        have hge := le_of_nIle c_1 (by omega) (by omega)
        obtain rfl : r = 0 := by omega
        refine lv_iload_n hx hb dX2_ordersInState_42 rfl (lv_at hl 2 rfl) ?_
        exact gx_iretR hx hb hr hlocks (by rw [← hres]; rfl) (Nat.le_of_ble_eq_true rfl) (Nat.le_of_ble_eq_true rfl) dX2_ordersInState_43
      · skip
        have hkc := lt_of_nle c_1 (by omega)
        obtain ⟨r, rfl⟩ : ∃ q, r = q + 1 := ⟨r - 1, by omega⟩
        refine lv_aload_n hx hb dX2_ordersInState_15 rfl (lv_at hl 0 rfl) ?_
        refine gx_get hx hb hown hZ hG 0 0 2 hX.k0 rfl (by decide) k1 (fun _ h => h) (v := .ref (gad g 3 0)) (grf_z hX.r2) dX2_ordersInState_16 ?_
        refine lv_iload_n hx hb dX2_ordersInState_19 rfl (lv_at hl 3 rfl) ?_
        refine gx_cR (gx_runV (As := [.int (nI k)]) (rest := []) ⟨hx, hb, hml, hown, hts⟩ (c_get3 l g σ w k hX hkc) (cwV 1 hts gX2_ordersInState_Jx4a65c_get_915e3 rfl rfl rfl (by decide +kernel) ⟨Nat.le_of_ble_eq_true rfl, Nat.le_of_ble_eq_true rfl⟩) (gx_obj hZ hG 3 0 hX.k3 rfl) hZ hG hS rfl hl.1 rfl (Nat.le_of_ble_eq_true rfl) dX2_ordersInState_20 ⟨Nat.le_of_ble_eq_true rfl, Nat.le_of_ble_eq_true rfl⟩) ?_
        refine gx_cast hx hb hown hZ hG 7 k hkc rfl k2 dX2_ordersInState_23 ?_
        refine gx_get hx hb hown hZ hG 7 k 5 hkc rfl (by decide) k3 (fun _ h => h) (v := .int (σ 7 k 5)) rfl dX2_ordersInState_26 ?_
        refine lv_iload_n hx hb dX2_ordersInState_29 rfl (lv_at hl 1 rfl) ?_
        refine lv_icmp_ne (tgt := 36) hx hb dX2_ordersInState_30 (by decide) (fun c_2 => ?_) (fun c_2 => ?_)
        · skip
          refine lv_iinc (v := nI (k + 1)) (lv' := [(3, .int (nI (k + 1))), (0, .ref (gad g 0 0)), (1, .int (x)), (2, .int (acc))]) hx hb dX2_ordersInState_36 hl (k := 3) rfl (nI_1 _) (by decide) rfl (fun ls hl => ?_)
          refine lv_goto (tgt := 4) hx hb dX2_ordersInState_39 (by decide) ?_
          exact ih r (k + 1) (acc) (by omega) (by omega) (by rw [← hres]; simp only [xOsGo, c_1, c_2, reduceIte]) ls (lv_sub hl [1, 2, 3, 0] rfl)
        · skip
          refine lv_iinc (v := acc + 1) (lv' := [(2, .int (acc + 1)), (0, .ref (gad g 0 0)), (1, .int (x)), (3, .int (nI k))]) hx hb dX2_ordersInState_33 hl (k := 2) rfl rfl (by decide) rfl (fun ls hl => ?_)
          refine lv_iinc (v := nI (k + 1)) (lv' := [(3, .int (nI (k + 1))), (2, .int (acc + 1)), (0, .ref (gad g 0 0)), (1, .int (x))]) hx hb dX2_ordersInState_36 hl (k := 3) rfl (nI_1 _) (by decide) rfl (fun ls hl => ?_)
          refine lv_goto (tgt := 4) hx hb dX2_ordersInState_39 (by decide) ?_
          exact ih r (k + 1) (acc + 1) (by omega) (by omega) (by rw [← hres]; simp only [xOsGo, c_1, c_2, reduceIte]) ls (lv_sub hl [2, 3, 1, 0] rfl)
  exact loop_4 (gcn g 7 + 1) (gcn g 7) 0 0 (by omega) (by omega) (by simp only [xOs, hX.eO]) ls (lv_sub hl [2, 3, 1, 0] rfl)
