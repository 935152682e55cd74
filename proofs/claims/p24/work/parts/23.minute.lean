theorem off_ok {g : gG} {σ : Mem} {w : Int64} {H : Heap} (hG : GW g σ w H) {c : Nat} (hc : c < gcn g 6) : xOff σ c = -1 ∨ ∃ j, j < gcn g 7 ∧ xOff σ c = nI j := by
  unfold xOff
  split
  · exact hG.2.2.1 6 c 6 hc
  · exact Or.inl rfl
def xTurn (σ : Mem) (c : Nat) : Mem := if xOff σ c = -1 then σ else
  xJoin (gst (gst (gst (gst σ 7 (ix (xOff σ c)) 8 (σ 7 (ix (xOff σ c)) 8 ||| xBit σ c)) 7 (ix (xOff σ c)) 5 0) 7 (ix (xOff σ c)) 6 (-1)) 6 c 6 (-1)) c
theorem Xok.join {g : gG} {σ : Mem} {c : Nat} (h : Xok g σ) : Xok g (xJoin σ c) := ((h.st rfl).st rfl).st rfl
theorem Xok.turn {g : gG} {σ : Mem} {c : Nat} (h : Xok g σ) : Xok g (xTurn σ c) := by
  unfold xTurn
  split
  · exact h
  · exact ((((h.st rfl).st rfl).st rfl).st rfl).join
def xRel (σ : Mem) (o : Nat) : Mem := if σ 7 o 6 = -1 then σ else
  if σ 6 (ix (σ 7 o 6)) 3 = 2 then xJoin (gst (gst σ 7 o 6 (-1)) 6 (ix (σ 7 o 6)) 6 (-1)) (ix (σ 7 o 6)) else gst (gst σ 7 o 6 (-1)) 6 (ix (σ 7 o 6)) 6 (-1)
theorem Xok.rel {g : gG} {σ : Mem} {o : Nat} (h : Xok g σ) : Xok g (xRel σ o) := by
  unfold xRel
  split
  · exact h
  · split
    · exact ((h.st rfl).st rfl).join
    · exact (h.st rfl).st rfl
def xRoGo : Nat → Nat → Mem → Mem
  | 0, _, σ => σ
  | r + 1, k, σ => if xOff σ k = -1 then xRoGo r (k + 1) σ else if σ 0 0 3 - σ 7 (ix (xOff σ k)) 7 < 2 then xRoGo r (k + 1) σ else xRoGo r (k + 1) (xTurn σ k)
def xRo (σ : Mem) : Mem := xRoGo (nC σ) 0 σ
theorem Xok.roGo {g : gG} : ∀ (r k : Nat) {σ : Mem} (_ : Xok g σ), Xok g (xRoGo r k σ)
  | 0, _, _, h => h
  | r + 1, k, σ, h => by
    simp only [xRoGo]
    repeat' split
    all_goals first | exact Xok.roGo r (k + 1) h | exact Xok.roGo r (k + 1) h.turn
theorem Xok.ro {g : gG} {σ : Mem} (h : Xok g σ) : Xok g (xRo σ) := Xok.roGo _ _ h
def xWhole (σ : Mem) (o : Nat) : Int32 := σ 7 o 11 + σ 7 o 12 + σ 7 o 13 + σ 7 o 14
def xMin5 (a : Int32) : Int32 := if 5 < a then 5 else a
def xMeter (σ : Mem) (o : Nat) (mi : Int32) : Mem := gst (gst (gst (gst σ 7 o 11 (σ 0 0 4)) 7 o 12 (σ 0 0 5 * mi)) 7 o 13 (-(xMin5 (σ 0 0 3 - σ 7 o 4)))) 7 o 14
  (if 360 ≤ σ 0 0 3 - σ 0 0 3 / 1440 * 1440 then 0 else (σ 0 0 4 + σ 0 0 5 * mi) / 2)
theorem Xok.meter {g : gG} {σ : Mem} {o : Nat} {mi : Int32} (h : Xok g σ) : Xok g (xMeter σ o mi) := (((h.st rfl).st rfl).st rfl).st rfl
def xBegin (σ : Mem) (c o : Nat) : Mem := xMeter (gst (gst (gst (gst (gst σ 6 c 3 3) 6 c 2 (σ 7 o 1)) 6 c 5 (σ 0 0 3 + xWay σ (σ 7 o 1) (σ 7 o 2))) 7 o 5 3) 7 o 9 (σ 0 0 3)) o (xWay σ (σ 7 o 1) (σ 7 o 2))
theorem Xok.beg {g : gG} {σ : Mem} {c o : Nat} (h : Xok g σ) : Xok g (xBegin σ c o) := (((((h.st rfl).st rfl).st rfl).st rfl).st rfl).meter
def xKept (σ : Mem) (o : Nat) : Int32 := xWhole σ o * 80 / 100
def xEnd (σ : Mem) (c o : Nat) : Mem := gst (gst (xJoin (gst (gst (gst (gst σ 6 c 7 (σ 6 c 7 + xKept σ o)) 6 c 8 (σ 6 c 8 + (xWhole σ o - xKept σ o))) 6 c 2 (σ 7 o 2)) 6 c 6 (-1)) c) 7 o 5 4) 7 o 10 (σ 0 0 3)
theorem Xok.fin {g : gG} {σ : Mem} {c o : Nat} (h : Xok g σ) : Xok g (xEnd σ c o) := (((((((h.st rfl).st rfl).st rfl).st rfl).join).st rfl).st rfl)
def xBcGo : Nat → Nat → Int32 → Mem → Int32 × Mem
  | 0, _, acc, σ => (acc, σ)
  | r + 1, k, acc, σ => if σ 6 k 6 = -1 then xBcGo r (k + 1) acc σ
    else if σ 6 k 5 ≤ σ 0 0 3 then (if σ 6 k 3 = 2 then xBcGo r (k + 1) acc (xBegin σ k (ix (σ 6 k 6)))
      else if σ 6 k 3 = 3 then xBcGo r (k + 1) (acc + 1) (xEnd σ k (ix (σ 6 k 6)))
      else xBcGo r (k + 1) acc σ)
    else xBcGo r (k + 1) acc σ
def xBc (σ : Mem) : Int32 × Mem := xBcGo (nC σ) 0 0 σ
theorem Xok.bcGo {g : gG} : ∀ (r k : Nat) (acc : Int32) {σ : Mem} (_ : Xok g σ), Xok g (xBcGo r k acc σ).2
  | 0, _, _, _, h => h
  | r + 1, k, acc, σ, h => by
    simp only [xBcGo]
    repeat' split
    all_goals first | exact Xok.bcGo r (k + 1) _ h | exact Xok.bcGo r (k + 1) _ h.beg | exact Xok.bcGo r (k + 1) _ h.fin
theorem Xok.bc {g : gG} {σ : Mem} (h : Xok g σ) : Xok g (xBc σ).2 := Xok.bcGo _ _ _ h
def xPm (σ : Mem) : Int32 × Mem := ((xBc (xRo (gst σ 0 0 3 (σ 0 0 3 + 1)))).1, xMo (xBc (xRo (gst σ 0 0 3 (σ 0 0 3 + 1)))).2)
theorem Xok.pm {g : gG} {σ : Mem} (h : Xok g σ) : Xok g (xPm σ).2 := (h.st rfl).ro.bc.mo
theorem n32 : ¬ (3 : Int32) = 2 := by decide
theorem xJoin_ro {σ : Mem} {c k i f : Nat} (h : (k = 6 ∧ f = 3) = False) (h2 : (k = 6 ∧ f = 4) = False) (h3 : (k = 0 ∧ f = 6) = False) : xJoin σ c k i f = σ k i f := by
  unfold xJoin
  simp only [gst_app]
  rw [if_neg (fun z => by rw [← h3]; exact ⟨z.1, z.2.2⟩), if_neg (fun z => by rw [← h2]; exact ⟨z.1, z.2.2⟩), if_neg (fun z => by rw [← h]; exact ⟨z.1, z.2.2⟩)]
set_option maxHeartbeats 4000000 in
set_option maxRecDepth 100000 in
theorem c_X2_turnDown (l : Launch) (g : gG) (σ : Mem) (w : Int64) (c : Nat) (hX : Xok g σ) (hc : c < gcn g 6) : Met l yX2_turnDown wsX2_turnDown ({ frames := 1, cells := 0, slots := 0, locals := 21 } : Room) (gPc g σ w [.ref (gad g 0 0), .ref (gad g 6 c)]) (gM g g (xTurn σ c) w (none)) 0 0 (gA g) := by
  refine gx_ofW (cc := cX2_turnDown) (maxL := 3) (ret := none) (by decide) rfl (Nat.le_of_ble_eq_true rfl) ?_
  intro p e s m below meth c0 hx hb hr hml hts hown hlocks hin hG hZ hS ls hl
  have hown : s.vm.findClass RX2 = some m.cls := hown
  have hl : lv_has ls 3 [(0, .ref (gad g 0 0)), (1, .ref (gad g 6 c))] := hl
  have k1 := hts (.fieldLink RX2 284 "TaxiRank$Order" "refusers" "I") (by decide +kernel)
  have k2 := hts (.fieldLink RX2 152 "TaxiRank$Order" "state" "I") (by decide +kernel)
  have k3 := hts (.fieldLink RX2 267 "TaxiRank$Order" "cab" "LTaxiRank$Cab;") (by decide +kernel)
  have k4 := hts (.fieldLink RX2 251 "TaxiRank$Cab" "order" "LTaxiRank$Order;") (by decide +kernel)
  refine lv_aload_n hx hb dX2_turnDown_0 rfl (lv_at hl 1 rfl) ?_
  refine gx_cR (gx_runS (As := [.ref (gad g 6 c)]) (rest := []) ⟨hx, hb, hml, hown, hts⟩ (c_X2_offeredTo l g σ w c hc) (va_cwS 1 hts gX2_turnDown_X2_offeredTo rfl rfl rfl (by decide +kernel) ⟨Nat.le_of_ble_eq_true rfl, Nat.le_of_ble_eq_true rfl⟩) hZ hG hS rfl hl.1 rfl (Nat.le_of_ble_eq_true rfl) dX2_turnDown_1 ⟨Nat.le_of_ble_eq_true rfl, Nat.le_of_ble_eq_true rfl⟩) ?_
  have v_off := off_ok hG hc
  refine gx_astore_nO (lv' := [(2, grf (gad g 7) (xOff σ c)), (0, .ref (gad g 0 0)), (1, .ref (gad g 6 c))]) hx hb dX2_turnDown_4 rfl hl (by decide) rfl (fun ls hl => ?_)
  refine gx_aload_nO hx hb dX2_turnDown_5 rfl (lv_at hl 0 rfl) ?_
  refine gx_ifnonnull (tgt := 10) hx hb dX2_turnDown_6 (by decide) (fun c_1 => ?_) (fun c_1 => ?_)
  · skip
    refine gx_aload_nO hx hb dX2_turnDown_10 rfl (lv_at hl 0 rfl) ?_
    refine lv_dup hx hb dX2_turnDown_11 (grf_cat _ _) ?_
    refine gx_topV (grf_nn c_1) ?_
    refine gx_get hx hb hown hZ hG 7 (ix (xOff σ c)) 8 (nn_lt v_off c_1 (hG.2.2.2 7)) rfl (by decide) k1 (fun _ h => h) (v := .int (σ 7 (ix (xOff σ c)) 8)) rfl dX2_turnDown_12 ?_
    refine lv_aload_n hx hb dX2_turnDown_15 rfl (lv_at hl 2 rfl) ?_
    refine gx_cR (gx_runS (As := [.ref (gad g 6 c)]) (rest := [.int (σ 7 (ix (xOff σ c)) 8), grf (gad g 7) (xOff σ c)]) ⟨hx, hb, hml, hown, hts⟩ (c_X2_refuserBit l g σ w c hc) (va_cwS 1 hts gX2_turnDown_X2_refuserBit rfl rfl rfl (by decide +kernel) ⟨Nat.le_of_ble_eq_true rfl, Nat.le_of_ble_eq_true rfl⟩) hZ hG hS rfl hl.1 rfl (by simp only [List.map_cons, List.map_nil, grf_cat]; exact Nat.le_of_ble_eq_true rfl) dX2_turnDown_16 ⟨Nat.le_of_ble_eq_true rfl, Nat.le_of_ble_eq_true rfl⟩) ?_
    refine lv_ior hx hb dX2_turnDown_19 ?_
    refine gx_topV2 (grf_nn c_1) ?_
    refine gx_put hx hb hown hZ hG hS 7 (ix (xOff σ c)) 8 ((σ 7 (ix (xOff σ c)) 8) ||| (xBit σ c)) (nn_lt v_off c_1 (hG.2.2.2 7)) rfl (by decide) k1 (fun _ h => h) rfl rfl trivial rfl rfl dX2_turnDown_20 (fun H locs hG hS => ?_)
    have hX := hX.st (k := 7) (i := ix (xOff σ c)) (f := 8) (v := (σ 7 (ix (xOff σ c)) 8) ||| (xBit σ c)) rfl
    refine gx_aload_nO hx hb dX2_turnDown_23 rfl (lv_at hl 0 rfl) ?_
    refine lv_iconst (v := 0) hx hb dX2_turnDown_24 (by decide) ?_
    refine gx_topV2 (grf_nn c_1) ?_
    refine gx_put hx hb hown hZ hG hS 7 (ix (xOff σ c)) 5 (0) (nn_lt v_off c_1 (hG.2.2.2 7)) rfl (by decide) k2 (fun _ h => h) rfl rfl trivial rfl rfl dX2_turnDown_25 (fun H locs hG hS => ?_)
    have hX := hX.st (k := 7) (i := ix (xOff σ c)) (f := 5) (v := 0) rfl
    refine gx_aload_nO hx hb dX2_turnDown_28 rfl (lv_at hl 0 rfl) ?_
    refine lv_null hx hb dX2_turnDown_29 ?_
    refine gx_topV2 (grf_nn c_1) ?_
    refine gx_put hx hb hown hZ hG hS 7 (ix (xOff σ c)) 6 (-1) (nn_lt v_off c_1 (hG.2.2.2 7)) rfl (by decide) k3 (fun _ h => h) rfl rfl (Or.inl rfl) rfl rfl dX2_turnDown_30 (fun H locs hG hS => ?_)
    have hX := hX.st (k := 7) (i := ix (xOff σ c)) (f := 6) (v := -1) rfl
    refine lv_aload_n hx hb dX2_turnDown_33 rfl (lv_at hl 2 rfl) ?_
    refine lv_null hx hb dX2_turnDown_34 ?_
    refine gx_put hx hb hown hZ hG hS 6 c 6 (-1) hc rfl (by decide) k4 (fun _ h => h) rfl rfl (Or.inl rfl) rfl rfl dX2_turnDown_35 (fun H locs hG hS => ?_)
    have hX := hX.st (k := 6) (i := c) (f := 6) (v := -1) rfl
    refine lv_aload_n hx hb dX2_turnDown_38 rfl (lv_at hl 1 rfl) ?_
    refine lv_aload_n hx hb dX2_turnDown_39 rfl (lv_at hl 2 rfl) ?_
    refine gx_cM (gx_runV (As := [.ref (gad g 6 c)]) (rest := []) ⟨hx, hb, hml, hown, hts⟩ (c_X2_joinQueue l g (gst (gst (gst (gst σ 7 (ix (xOff σ c)) 8 ((σ 7 (ix (xOff σ c)) 8) ||| (xBit σ c))) 7 (ix (xOff σ c)) 5 0) 7 (ix (xOff σ c)) 6 (-1)) 6 c 6 (-1)) w c hX hc) (cwV 1 hts gX2_turnDown_X2_joinQueue rfl rfl rfl (by decide +kernel) ⟨Nat.le_of_ble_eq_true rfl, Nat.le_of_ble_eq_true rfl⟩) (gx_obj hZ hG 0 0 hX.k0 rfl) hZ hG hS rfl hl.1 rfl (Nat.le_of_ble_eq_true rfl) dX2_turnDown_40 ⟨Nat.le_of_ble_eq_true rfl, Nat.le_of_ble_eq_true rfl⟩) hS (fun H locs hG hS hsz => ?_)
    exact gx_vretM hx hb hr hlocks hG hS (by first | (simp only [xTurn, c_1, reduceIte, eq_self, Bool.false_eq_true]; done) | simp [xTurn, c_1]) (Nat.le_of_ble_eq_true rfl) (Nat.le_of_ble_eq_true rfl) dX2_turnDown_43
  · skip
    exact gx_vretM hx hb hr hlocks hG hS (by first | (simp only [xTurn, c_1, reduceIte, eq_self, Bool.false_eq_true]; done) | simp [xTurn, c_1]) (Nat.le_of_ble_eq_true rfl) (Nat.le_of_ble_eq_true rfl) dX2_turnDown_9
set_option maxHeartbeats 4000000 in
set_option maxRecDepth 100000 in
theorem c_X2_releaseCab (l : Launch) (g : gG) (σ : Mem) (w : Int64) (o : Nat) (hX : Xok g σ) (ho : o < gcn g 7) : Met l yX2_releaseCab wsX2_releaseCab ({ frames := 1, cells := 0, slots := 0, locals := 21 } : Room) (gPc g σ w [.ref (gad g 0 0), .ref (gad g 7 o)]) (gM g g (xRel σ o) w (none)) 0 0 (gA g) := by
  refine gx_ofW (cc := cX2_releaseCab) (maxL := 3) (ret := none) (by decide) rfl (Nat.le_of_ble_eq_true rfl) ?_
  intro p e s m below meth c0 hx hb hr hml hts hown hlocks hin hG hZ hS ls hl
  have hown : s.vm.findClass RX2 = some m.cls := hown
  have hl : lv_has ls 3 [(0, .ref (gad g 0 0)), (1, .ref (gad g 7 o))] := hl
  have k1 := hts (.fieldLink RX2 267 "TaxiRank$Order" "cab" "LTaxiRank$Cab;") (by decide +kernel)
  have k2 := hts (.fieldLink RX2 251 "TaxiRank$Cab" "order" "LTaxiRank$Order;") (by decide +kernel)
  have k3 := hts (.fieldLink RX2 80 "TaxiRank$Cab" "state" "I") (by decide +kernel)
  refine lv_aload_n hx hb dX2_releaseCab_0 rfl (lv_at hl 1 rfl) ?_
  have v_1 : σ 7 o 6 = -1 ∨ ∃ j, j < gcn g 6 ∧ σ 7 o 6 = nI j := hG.2.2.1 7 o 6 ho
  refine gx_get hx hb hown hZ hG 7 o 6 ho rfl (by decide) k1 (fun _ h => h) (v := grf (gad g 6) (σ 7 o 6)) rfl dX2_releaseCab_1 ?_
  refine gx_astore_nO (lv' := [(2, grf (gad g 6) (σ 7 o 6)), (0, .ref (gad g 0 0)), (1, .ref (gad g 7 o))]) hx hb dX2_releaseCab_4 rfl hl (by decide) rfl (fun ls hl => ?_)
  refine gx_aload_nO hx hb dX2_releaseCab_5 rfl (lv_at hl 0 rfl) ?_
  refine gx_ifnonnull (tgt := 10) hx hb dX2_releaseCab_6 (by decide) (fun c_2 => ?_) (fun c_2 => ?_)
  · skip
    refine lv_aload_n hx hb dX2_releaseCab_10 rfl (lv_at hl 2 rfl) ?_
    refine lv_null hx hb dX2_releaseCab_11 ?_
    refine gx_put hx hb hown hZ hG hS 7 o 6 (-1) ho rfl (by decide) k1 (fun _ h => h) rfl rfl (Or.inl rfl) rfl rfl dX2_releaseCab_12 (fun H locs hG hS => ?_)
    have hX := hX.st (k := 7) (i := o) (f := 6) (v := -1) rfl
    refine gx_aload_nO hx hb dX2_releaseCab_15 rfl (lv_at hl 0 rfl) ?_
    refine lv_null hx hb dX2_releaseCab_16 ?_
    refine gx_topV2 (grf_nn c_2) ?_
    refine gx_put hx hb hown hZ hG hS 6 (ix (σ 7 o 6)) 6 (-1) (nn_lt v_1 c_2 (hG.2.2.2 6)) rfl (by decide) k2 (fun _ h => h) rfl rfl (Or.inl rfl) rfl rfl dX2_releaseCab_17 (fun H locs hG hS => ?_)
    have hX := hX.st (k := 6) (i := ix (σ 7 o 6)) (f := 6) (v := -1) rfl
    refine gx_aload_nO hx hb dX2_releaseCab_20 rfl (lv_at hl 0 rfl) ?_
    refine gx_topV (grf_nn c_2) ?_
    refine gx_get hx hb hown hZ hG 6 (ix (σ 7 o 6)) 3 (nn_lt v_1 c_2 (hG.2.2.2 6)) rfl (by decide) k3 (fun _ h => h) (v := .int (σ 6 (ix (σ 7 o 6)) 3)) (congrArg Value.int (by simp [gst_app])) dX2_releaseCab_21 ?_
    refine lv_iconst (v := 2) hx hb dX2_releaseCab_24 (by decide) ?_
    refine lv_icmp_ne (tgt := 33) hx hb dX2_releaseCab_25 (by decide) (fun c_3 => ?_) (fun c_3 => ?_)
    · skip
      exact gx_vretM hx hb hr hlocks hG hS (by first | (simp only [xRel, c_2, c_3, reduceIte, eq_self, Bool.false_eq_true]; done) | simp [xRel, c_2, c_3]) (Nat.le_of_ble_eq_true rfl) (Nat.le_of_ble_eq_true rfl) dX2_releaseCab_33
    · skip
      refine lv_aload_n hx hb dX2_releaseCab_28 rfl (lv_at hl 1 rfl) ?_
      refine gx_aload_nO hx hb dX2_releaseCab_29 rfl (lv_at hl 0 rfl) ?_
      refine gx_topV (grf_nn c_2) ?_
      refine gx_cM (gx_runV (As := [.ref (gad g 6 (ix (σ 7 o 6)))]) (rest := []) ⟨hx, hb, hml, hown, hts⟩ (c_X2_joinQueue l g (gst (gst σ 7 o 6 (-1)) 6 (ix (σ 7 o 6)) 6 (-1)) w (ix (σ 7 o 6)) hX (nn_lt v_1 c_2 (hG.2.2.2 6))) (cwV 1 hts gX2_releaseCab_X2_joinQueue rfl rfl rfl (by decide +kernel) ⟨Nat.le_of_ble_eq_true rfl, Nat.le_of_ble_eq_true rfl⟩) (gx_obj hZ hG 0 0 hX.k0 rfl) hZ hG hS rfl hl.1 rfl (Nat.le_of_ble_eq_true rfl) dX2_releaseCab_30 ⟨Nat.le_of_ble_eq_true rfl, Nat.le_of_ble_eq_true rfl⟩) hS (fun H locs hG hS hsz => ?_)
      exact gx_vretM hx hb hr hlocks hG hS (by first | (simp only [xRel, c_2, c_3, reduceIte, eq_self, Bool.false_eq_true]; done) | simp [xRel, c_2, c_3]) (Nat.le_of_ble_eq_true rfl) (Nat.le_of_ble_eq_true rfl) dX2_releaseCab_33
  · skip
    exact gx_vretM hx hb hr hlocks hG hS (by first | (simp only [xRel, c_2, reduceIte, eq_self, Bool.false_eq_true]; done) | simp [xRel, c_2]) (Nat.le_of_ble_eq_true rfl) (Nat.le_of_ble_eq_true rfl) dX2_releaseCab_9
set_option maxHeartbeats 4000000 in
set_option maxRecDepth 100000 in
theorem c_X2_refuseOldOffers (l : Launch) (g : gG) (σ : Mem) (w : Int64) (hX : Xok g σ) : Met l yX2_refuseOldOffers wsX2_refuseOldOffers ({ frames := 3, cells := 0, slots := 0, locals := 64 } : Room) (gPc g σ w [.ref (gad g 0 0)]) (gM g g (xRo σ) w (none)) 0 0 (gA g) := by
  refine gx_ofW (cc := cX2_refuseOldOffers) (maxL := 4) (ret := none) (by decide) rfl (Nat.le_of_ble_eq_true rfl) ?_
  intro p e s m below meth c0 hx hb hr hml hts hown hlocks hin hG hZ hS ls hl
  have hown : s.vm.findClass RX2 = some m.cls := hown
  have hl : lv_has ls 4 [(0, .ref (gad g 0 0))] := hl
  have k1 := hts (.fieldLink RX2 16 "TaxiRank" "cabs" "Ljava/util/ArrayList;") (by decide +kernel)
  have k2 := hts (.classLink RX2 68 "TaxiRank$Cab") (by decide +kernel)
  have k3 := hts (.fieldLink RX2 120 "TaxiRank" "time" "I") (by decide +kernel)
  have k4 := hts (.fieldLink RX2 271 "TaxiRank$Order" "offeredAt" "I") (by decide +kernel)
  have hn6 := hX.n6
  have hn7 := hX.n7
  refine lv_iconst (v := 0) hx hb dX2_refuseOldOffers_0 (by decide) ?_
  refine lv_istore_n (lv' := [(1, .int (0)), (0, .ref (gad g 0 0))]) hx hb dX2_refuseOldOffers_1 rfl hl (by decide) rfl (fun ls hl => ?_)
  have loop_2 : ∀ (nf : Nat) (r : Nat) (k : Nat) (σ1 : Mem), r < nf → (k + r = gcn g 6) → (Xok g σ1) → (xRoGo r k σ1 = xRo σ) → ∀ (H : Heap) (locs : List Loc), GW g σ1 w H → va_S (gA g) s.heap H locs → ∀ ls : Array Slot, lv_has ls 4 [(0, .ref (gad g 0 0)), (1, .int (nI k))] → W p l e ({ frames := 3, cells := 0, slots := 0, locals := 64 } : Room) s m ([.ref (gad g 0 0)] : List Value).toArray below meth c0 H locs 0 0 (MQ below (gM g g (xRo σ) w (none)) ([.ref (gad g 0 0)] : List Value).toArray s 0 0 (gA g)) (F0 m 2 ls []) := by
    intro nf
    induction nf with
    | zero => intro r k σ1 hn; exact absurd hn (Nat.not_lt_zero _)
    | succ nf ih =>
      intro r k σ1 hn hk hX hres H locs hG hS ls hl
      refine lv_iload_n hx hb dX2_refuseOldOffers_2 rfl (lv_at hl 1 rfl) ?_
      refine lv_aload_n hx hb dX2_refuseOldOffers_3 rfl (lv_at hl 0 rfl) ?_
      refine gx_get hx hb hown hZ hG 0 0 1 hX.k0 rfl (by decide) k1 (fun _ h => h) (v := .ref (gad g 2 0)) (grf_z hX.r1) dX2_refuseOldOffers_4 ?_
      refine gx_cR (gx_runV (As := []) (rest := [.int (nI k)]) ⟨hx, hb, hml, hown, hts⟩ (c_size2 l g σ1 w hX) (cwV 0 hts gX2_refuseOldOffers_Jx4a65c_size_8abf5 rfl rfl rfl (by decide +kernel) ⟨Nat.le_of_ble_eq_true rfl, Nat.le_of_ble_eq_true rfl⟩) (gx_obj hZ hG 2 0 hX.k2 rfl) hZ hG hS rfl hl.1 rfl (Nat.le_of_ble_eq_true rfl) dX2_refuseOldOffers_7 ⟨Nat.le_of_ble_eq_true rfl, Nat.le_of_ble_eq_true rfl⟩) ?_
      refine lv_icmp_ge (tgt := 58) hx hb dX2_refuseOldOffers_10 (by decide) (fun c_1 => ?_) (fun c_1 => ?_)
      · skip
        have hge := le_of_nIle c_1 (by omega) (by omega)
        obtain rfl : r = 0 := by omega
        exact gx_vretM hx hb hr hlocks hG hS (by rw [← hres]; rfl) (Nat.le_of_ble_eq_true rfl) (Nat.le_of_ble_eq_true rfl) dX2_refuseOldOffers_58
      · skip
        have hkc := lt_of_nle c_1 (by omega)
        obtain ⟨r, rfl⟩ : ∃ q, r = q + 1 := ⟨r - 1, by omega⟩
        refine lv_aload_n hx hb dX2_refuseOldOffers_13 rfl (lv_at hl 0 rfl) ?_
        refine gx_get hx hb hown hZ hG 0 0 1 hX.k0 rfl (by decide) k1 (fun _ h => h) (v := .ref (gad g 2 0)) (grf_z hX.r1) dX2_refuseOldOffers_14 ?_
        refine lv_iload_n hx hb dX2_refuseOldOffers_17 rfl (lv_at hl 1 rfl) ?_
        refine gx_cR (gx_runV (As := [.int (nI k)]) (rest := []) ⟨hx, hb, hml, hown, hts⟩ (c_get2 l g σ1 w k hX hkc) (cwV 1 hts gX2_refuseOldOffers_Jx4a65c_get_915e3 rfl rfl rfl (by decide +kernel) ⟨Nat.le_of_ble_eq_true rfl, Nat.le_of_ble_eq_true rfl⟩) (gx_obj hZ hG 2 0 hX.k2 rfl) hZ hG hS rfl hl.1 rfl (Nat.le_of_ble_eq_true rfl) dX2_refuseOldOffers_18 ⟨Nat.le_of_ble_eq_true rfl, Nat.le_of_ble_eq_true rfl⟩) ?_
        refine gx_cast hx hb hown hZ hG 6 k hkc rfl k2 dX2_refuseOldOffers_21 ?_
        refine lv_astore_n (lv' := [(2, .ref (gad g 6 k)), (0, .ref (gad g 0 0)), (1, .int (nI k))]) hx hb dX2_refuseOldOffers_24 rfl hl (by decide) rfl (fun ls hl => ?_)
        refine lv_aload_n hx hb dX2_refuseOldOffers_25 rfl (lv_at hl 0 rfl) ?_
        refine gx_cR (gx_runS (As := [.ref (gad g 6 k)]) (rest := []) ⟨hx, hb, hml, hown, hts⟩ (c_X2_offeredTo l g σ1 w k hkc) (va_cwS 1 hts gX2_refuseOldOffers_X2_offeredTo rfl rfl rfl (by decide +kernel) ⟨Nat.le_of_ble_eq_true rfl, Nat.le_of_ble_eq_true rfl⟩) hZ hG hS rfl hl.1 rfl (Nat.le_of_ble_eq_true rfl) dX2_refuseOldOffers_26 ⟨Nat.le_of_ble_eq_true rfl, Nat.le_of_ble_eq_true rfl⟩) ?_
        have v_off := off_ok hG hkc
        refine gx_astore_nO (lv' := [(3, grf (gad g 7) (xOff σ1 k)), (2, .ref (gad g 6 k)), (0, .ref (gad g 0 0)), (1, .int (nI k))]) hx hb dX2_refuseOldOffers_29 rfl hl (by decide) rfl (fun ls hl => ?_)
        refine gx_aload_nO hx hb dX2_refuseOldOffers_30 rfl (lv_at hl 0 rfl) ?_
        refine gx_ifnull (tgt := 52) hx hb dX2_refuseOldOffers_31 (by decide) (fun c_2 => ?_) (fun c_2 => ?_)
        · skip
          refine lv_iinc (v := nI (k + 1)) (lv' := [(1, .int (nI (k + 1))), (3, grf (gad g 7) (xOff σ1 k)), (2, .ref (gad g 6 k)), (0, .ref (gad g 0 0))]) hx hb dX2_refuseOldOffers_52 hl (k := 3) rfl (nI_1 _) (by decide) rfl (fun ls hl => ?_)
          refine lv_goto (tgt := 2) hx hb dX2_refuseOldOffers_55 (by decide) ?_
          exact ih r (k + 1) (σ1) (by omega) (by omega) hX (by rw [← hres]; simp only [xRoGo, c_1, c_2, reduceIte]) H locs hG hS ls (lv_sub hl [3, 0] rfl)
        · skip
          refine lv_aload_n hx hb dX2_refuseOldOffers_34 rfl (lv_at hl 2 rfl) ?_
          refine gx_get hx hb hown hZ hG 0 0 3 hX.k0 rfl (by decide) k3 (fun _ h => h) (v := .int (σ1 0 0 3)) rfl dX2_refuseOldOffers_35 ?_
          refine gx_aload_nO hx hb dX2_refuseOldOffers_38 rfl (lv_at hl 0 rfl) ?_
          refine gx_topV (grf_nn c_2) ?_
          refine gx_get hx hb hown hZ hG 7 (ix (xOff σ1 k)) 7 (nn_lt v_off c_2 (hG.2.2.2 7)) rfl (by decide) k4 (fun _ h => h) (v := .int (σ1 7 (ix (xOff σ1 k)) 7)) rfl dX2_refuseOldOffers_39 ?_
          refine lv_isub hx hb dX2_refuseOldOffers_42 ?_
          refine lv_iconst (v := 2) hx hb dX2_refuseOldOffers_43 (by decide) ?_
          refine lv_icmp_lt (tgt := 52) hx hb dX2_refuseOldOffers_44 (by decide) (fun c_3 => ?_) (fun c_3 => ?_)
          · skip
            refine lv_iinc (v := nI (k + 1)) (lv' := [(1, .int (nI (k + 1))), (3, grf (gad g 7) (xOff σ1 k)), (2, .ref (gad g 6 k)), (0, .ref (gad g 0 0))]) hx hb dX2_refuseOldOffers_52 hl (k := 3) rfl (nI_1 _) (by decide) rfl (fun ls hl => ?_)
            refine lv_goto (tgt := 2) hx hb dX2_refuseOldOffers_55 (by decide) ?_
            exact ih r (k + 1) (σ1) (by omega) (by omega) hX (by rw [← hres]; simp only [xRoGo, c_1, c_2, c_3, reduceIte]) H locs hG hS ls (lv_sub hl [3, 0] rfl)
          · skip
            refine lv_aload_n hx hb dX2_refuseOldOffers_47 rfl (lv_at hl 2 rfl) ?_
            refine lv_aload_n hx hb dX2_refuseOldOffers_48 rfl (lv_at hl 1 rfl) ?_
            refine gx_cM (gx_runV (As := [.ref (gad g 6 k)]) (rest := []) ⟨hx, hb, hml, hown, hts⟩ (c_X2_turnDown l g σ1 w k hX hkc) (cwV 1 hts gX2_refuseOldOffers_X2_turnDown rfl rfl rfl (by decide +kernel) ⟨Nat.le_of_ble_eq_true rfl, Nat.le_of_ble_eq_true rfl⟩) (gx_obj hZ hG 0 0 hX.k0 rfl) hZ hG hS rfl hl.1 rfl (Nat.le_of_ble_eq_true rfl) dX2_refuseOldOffers_49 ⟨Nat.le_of_ble_eq_true rfl, Nat.le_of_ble_eq_true rfl⟩) hS (fun H locs hG hS hsz => ?_)
            have hX := hX.turn (c := k)
            refine lv_iinc (v := nI (k + 1)) (lv' := [(1, .int (nI (k + 1))), (3, grf (gad g 7) (xOff σ1 k)), (2, .ref (gad g 6 k)), (0, .ref (gad g 0 0))]) hx hb dX2_refuseOldOffers_52 hl (k := 3) rfl (nI_1 _) (by decide) rfl (fun ls hl => ?_)
            refine lv_goto (tgt := 2) hx hb dX2_refuseOldOffers_55 (by decide) ?_
            exact ih r (k + 1) (xTurn σ1 k) (by omega) (by omega) hX (by rw [← hres]; simp only [xRoGo, c_1, c_2, c_3, reduceIte]) H locs hG hS ls (lv_sub hl [3, 0] rfl)
  exact loop_2 (gcn g 6 + 1) (gcn g 6) 0 σ (by omega) (by omega) hX (by simp only [xRo, hX.eC]) _ _ hG hS ls (lv_sub hl [1, 0] rfl)
set_option maxHeartbeats 4000000 in
set_option maxRecDepth 100000 in
theorem c_X2_wholeFare (l : Launch) (g : gG) (σ : Mem) (w : Int64) (o : Nat) (ho : o < gcn g 7) : Met l yX2_wholeFare wsX2_wholeFare ({ frames := 0, cells := 0, slots := 0, locals := 0 } : Room) (gPc g σ w [.ref (gad g 7 o)]) (gR (.int (xWhole σ o))) 0 0 (fun _ => False) := by
  refine gx_ofW (cc := cX2_wholeFare) (maxL := 1) (ret := (some .int)) (by decide) rfl (Nat.le_of_ble_eq_true rfl) ?_
  intro p e s m below meth c0 hx hb hr hml hts hown hlocks hin hG hZ hS ls hl
  have hown : s.vm.findClass RX2 = some m.cls := hown
  have hl : lv_has ls 1 [(0, .ref (gad g 7 o))] := hl
  have k1 := hts (.fieldLink RX2 310 "TaxiRank$Order" "base" "I") (by decide +kernel)
  have k2 := hts (.fieldLink RX2 313 "TaxiRank$Order" "way" "I") (by decide +kernel)
  have k3 := hts (.fieldLink RX2 316 "TaxiRank$Order" "waiting" "I") (by decide +kernel)
  have k4 := hts (.fieldLink RX2 319 "TaxiRank$Order" "night" "I") (by decide +kernel)
  refine lv_aload_n hx hb dX2_wholeFare_0 rfl (lv_at hl 0 rfl) ?_
  refine gx_get hx hb hown hZ hG 7 o 11 ho rfl (by decide) k1 (fun _ h => h) (v := .int (σ 7 o 11)) rfl dX2_wholeFare_1 ?_
  refine lv_aload_n hx hb dX2_wholeFare_4 rfl (lv_at hl 0 rfl) ?_
  refine gx_get hx hb hown hZ hG 7 o 12 ho rfl (by decide) k2 (fun _ h => h) (v := .int (σ 7 o 12)) rfl dX2_wholeFare_5 ?_
  refine lv_iadd hx hb dX2_wholeFare_8 ?_
  refine lv_aload_n hx hb dX2_wholeFare_9 rfl (lv_at hl 0 rfl) ?_
  refine gx_get hx hb hown hZ hG 7 o 13 ho rfl (by decide) k3 (fun _ h => h) (v := .int (σ 7 o 13)) rfl dX2_wholeFare_10 ?_
  refine lv_iadd hx hb dX2_wholeFare_13 ?_
  refine lv_aload_n hx hb dX2_wholeFare_14 rfl (lv_at hl 0 rfl) ?_
  refine gx_get hx hb hown hZ hG 7 o 14 ho rfl (by decide) k4 (fun _ h => h) (v := .int (σ 7 o 14)) rfl dX2_wholeFare_15 ?_
  refine lv_iadd hx hb dX2_wholeFare_18 ?_
  exact gx_iretR hx hb hr hlocks rfl (Nat.le_of_ble_eq_true rfl) (Nat.le_of_ble_eq_true rfl) dX2_wholeFare_19
set_option maxHeartbeats 4000000 in
set_option maxRecDepth 100000 in
theorem c_X2_meterFare (l : Launch) (g : gG) (σ : Mem) (w : Int64) (o : Nat) (mi : Int32) (hX : Xok g σ) (ho : o < gcn g 7) : Met l yX2_meterFare wsX2_meterFare ({ frames := 1, cells := 0, slots := 0, locals := 21 } : Room) (gPc g σ w [.ref (gad g 0 0), .ref (gad g 7 o), .int (mi)]) (gM g g (xMeter σ o mi) w (none)) 0 0 (gA g) := by
  refine gx_ofW (cc := cX2_meterFare) (maxL := 3) (ret := none) (by decide) rfl (Nat.le_of_ble_eq_true rfl) ?_
  intro p e s m below meth c0 hx hb hr hml hts hown hlocks hin hG hZ hS ls hl
  have hown : s.vm.findClass RX2 = some m.cls := hown
  have hl : lv_has ls 3 [(0, .ref (gad g 0 0)), (1, .ref (gad g 7 o)), (2, .int (mi))] := hl
  have k1 := hts (.fieldLink RX2 23 "TaxiRank" "baseRate" "I") (by decide +kernel)
  have k2 := hts (.fieldLink RX2 310 "TaxiRank$Order" "base" "I") (by decide +kernel)
  have k3 := hts (.fieldLink RX2 27 "TaxiRank" "wayRate" "I") (by decide +kernel)
  have k4 := hts (.fieldLink RX2 313 "TaxiRank$Order" "way" "I") (by decide +kernel)
  have k5 := hts (.fieldLink RX2 120 "TaxiRank" "time" "I") (by decide +kernel)
  have k6 := hts (.fieldLink RX2 141 "TaxiRank$Order" "due" "I") (by decide +kernel)
  have k7 := hts (.methodLink RX2 211 Lib.Math.min.name) (by decide +kernel)
  have k8 := hts (.static Lib.Math.min.name) (by decide +kernel)
  have k9 := hts (.initialized "java/lang/Math") (by decide +kernel)
  have k10 := hts (.code Lib.Math.min.name Lib.Math.min.code 2 (some .int)) (by decide +kernel)
  have k11 := hts (.fieldLink RX2 316 "TaxiRank$Order" "waiting" "I") (by decide +kernel)
  have k12 := hts (.fieldLink RX2 319 "TaxiRank$Order" "night" "I") (by decide +kernel)
  refine lv_aload_n hx hb dX2_meterFare_0 rfl (lv_at hl 1 rfl) ?_
  refine lv_aload_n hx hb dX2_meterFare_1 rfl (lv_at hl 0 rfl) ?_
  refine gx_get hx hb hown hZ hG 0 0 4 hX.k0 rfl (by decide) k1 (fun _ h => h) (v := .int (σ 0 0 4)) rfl dX2_meterFare_2 ?_
  refine gx_put hx hb hown hZ hG hS 7 o 11 (σ 0 0 4) ho rfl (by decide) k2 (fun _ h => h) rfl rfl trivial rfl rfl dX2_meterFare_5 (fun H locs hG hS => ?_)
  have hX := hX.st (k := 7) (i := o) (f := 11) (v := σ 0 0 4) rfl
  refine lv_aload_n hx hb dX2_meterFare_8 rfl (lv_at hl 1 rfl) ?_
  refine lv_aload_n hx hb dX2_meterFare_9 rfl (lv_at hl 0 rfl) ?_
  refine gx_get hx hb hown hZ hG 0 0 5 hX.k0 rfl (by decide) k3 (fun _ h => h) (v := .int (σ 0 0 5)) (congrArg Value.int (by simp [gst_app])) dX2_meterFare_10 ?_
  refine lv_iload_n hx hb dX2_meterFare_13 rfl (lv_at hl 2 rfl) ?_
  refine lv_imul hx hb dX2_meterFare_14 ?_
  refine gx_put hx hb hown hZ hG hS 7 o 12 ((σ 0 0 5) * mi) ho rfl (by decide) k4 (fun _ h => h) rfl rfl trivial rfl rfl dX2_meterFare_15 (fun H locs hG hS => ?_)
  have hX := hX.st (k := 7) (i := o) (f := 12) (v := (σ 0 0 5) * mi) rfl
  refine lv_aload_n hx hb dX2_meterFare_18 rfl (lv_at hl 1 rfl) ?_
  refine lv_aload_n hx hb dX2_meterFare_19 rfl (lv_at hl 0 rfl) ?_
  refine gx_get hx hb hown hZ hG 0 0 3 hX.k0 rfl (by decide) k5 (fun _ h => h) (v := .int (σ 0 0 3)) (congrArg Value.int (by simp [gst_app])) dX2_meterFare_20 ?_
  refine lv_aload_n hx hb dX2_meterFare_23 rfl (lv_at hl 1 rfl) ?_
  refine gx_get hx hb hown hZ hG 7 o 4 ho rfl (by decide) k6 (fun _ h => h) (v := .int (σ 7 o 4)) (congrArg Value.int (by simp [gst_app])) dX2_meterFare_24 ?_
  refine lv_isub hx hb dX2_meterFare_27 ?_
  refine lv_iconst (v := 5) hx hb dX2_meterFare_28 (by decide) ?_
  refine va_mmin hx hb (hml.trans hl.1.symm) hown k7 k8 k9 k10 (Nat.le_of_ble_eq_true rfl) (Nat.le_of_ble_eq_true rfl) (Nat.le_of_ble_eq_true rfl) (Nat.le_of_ble_eq_true rfl) dX2_meterFare_29 ?_
  refine lv_ineg hx hb dX2_meterFare_32 ?_
  refine gx_put hx hb hown hZ hG hS 7 o 13 (-(if 5 < ((σ 0 0 3) - (σ 7 o 4)) then 5 else ((σ 0 0 3) - (σ 7 o 4)))) ho rfl (by decide) k11 (fun _ h => h) rfl rfl trivial rfl rfl dX2_meterFare_33 (fun H locs hG hS => ?_)
  have hX := hX.st (k := 7) (i := o) (f := 13) (v := -(if 5 < ((σ 0 0 3) - (σ 7 o 4)) then 5 else ((σ 0 0 3) - (σ 7 o 4)))) rfl
  refine lv_aload_n hx hb dX2_meterFare_36 rfl (lv_at hl 1 rfl) ?_
  refine lv_aload_n hx hb dX2_meterFare_37 rfl (lv_at hl 0 rfl) ?_
  refine gx_get hx hb hown hZ hG 0 0 3 hX.k0 rfl (by decide) k5 (fun _ h => h) (v := .int (σ 0 0 3)) (congrArg Value.int (by simp [gst_app])) dX2_meterFare_38 ?_
  refine lv_sipush (v := 1440) hx hb dX2_meterFare_41 (by decide) ?_
  refine lv_irem hx hb dX2_meterFare_44 (by decide) ?_
  refine lv_sipush (v := 360) hx hb dX2_meterFare_45 (by decide) ?_
  refine lv_icmp_ge (tgt := 65) hx hb dX2_meterFare_48 (by decide) (fun c_1 => ?_) (fun c_1 => ?_)
  · skip
    refine lv_iconst (v := 0) hx hb dX2_meterFare_65 (by decide) ?_
    refine gx_put hx hb hown hZ hG hS 7 o 14 (0) ho rfl (by decide) k12 (fun _ h => h) rfl rfl trivial rfl rfl dX2_meterFare_66 (fun H locs hG hS => ?_)
    have hX := hX.st (k := 7) (i := o) (f := 14) (v := 0) rfl
    exact gx_vretM hx hb hr hlocks hG hS (by first | (simp only [xMeter, xMin5, c_1, reduceIte, eq_self, Bool.false_eq_true]; done) | simp [xMeter, xMin5, c_1]) (Nat.le_of_ble_eq_true rfl) (Nat.le_of_ble_eq_true rfl) dX2_meterFare_69
  · skip
    refine lv_aload_n hx hb dX2_meterFare_51 rfl (lv_at hl 1 rfl) ?_
    refine gx_get hx hb hown hZ hG 7 o 11 ho rfl (by decide) k2 (fun _ h => h) (v := .int (σ 0 0 4)) (congrArg Value.int (by simp [gst_app])) dX2_meterFare_52 ?_
    refine lv_aload_n hx hb dX2_meterFare_55 rfl (lv_at hl 1 rfl) ?_
    refine gx_get hx hb hown hZ hG 7 o 12 ho rfl (by decide) k4 (fun _ h => h) (v := .int ((σ 0 0 5) * mi)) (congrArg Value.int (by simp [gst_app])) dX2_meterFare_56 ?_
    refine lv_iadd hx hb dX2_meterFare_59 ?_
    refine lv_iconst (v := 2) hx hb dX2_meterFare_60 (by decide) ?_
    refine lv_idiv hx hb dX2_meterFare_61 (by decide) ?_
    refine lv_goto (tgt := 66) hx hb dX2_meterFare_62 (by decide) ?_
    refine gx_put hx hb hown hZ hG hS 7 o 14 (((σ 0 0 4) + ((σ 0 0 5) * mi)) / 2) ho rfl (by decide) k12 (fun _ h => h) rfl rfl trivial rfl rfl dX2_meterFare_66 (fun H locs hG hS => ?_)
    have hX := hX.st (k := 7) (i := o) (f := 14) (v := ((σ 0 0 4) + ((σ 0 0 5) * mi)) / 2) rfl
    exact gx_vretM hx hb hr hlocks hG hS (by first | (simp only [xMeter, xMin5, c_1, reduceIte, eq_self, Bool.false_eq_true]; done) | simp [xMeter, xMin5, c_1]) (Nat.le_of_ble_eq_true rfl) (Nat.le_of_ble_eq_true rfl) dX2_meterFare_69
set_option maxHeartbeats 4000000 in
set_option maxRecDepth 100000 in
theorem c_X2_beginRide (l : Launch) (g : gG) (σ : Mem) (w : Int64) (c o : Nat) (hX : Xok g σ) (hc : c < gcn g 6) (ho : o < gcn g 7) : Met l yX2_beginRide wsX2_beginRide ({ frames := 2, cells := 0, slots := 0, locals := 43 } : Room) (gPc g σ w [.ref (gad g 0 0), .ref (gad g 6 c), .ref (gad g 7 o)]) (gM g g (xBegin σ c o) w (none)) 0 0 (gA g) := by
  refine gx_ofW (cc := cX2_beginRide) (maxL := 4) (ret := none) (by decide) rfl (Nat.le_of_ble_eq_true rfl) ?_
  intro p e s m below meth c0 hx hb hr hml hts hown hlocks hin hG hZ hS ls hl
  have hown : s.vm.findClass RX2 = some m.cls := hown
  have hl : lv_has ls 4 [(0, .ref (gad g 0 0)), (1, .ref (gad g 6 c)), (2, .ref (gad g 7 o))] := hl
  have k1 := hts (.fieldLink RX2 138 "TaxiRank$Order" "from" "I") (by decide +kernel)
  have k2 := hts (.fieldLink RX2 303 "TaxiRank$Order" "to" "I") (by decide +kernel)
  have k3 := hts (.fieldLink RX2 80 "TaxiRank$Cab" "state" "I") (by decide +kernel)
  have k4 := hts (.fieldLink RX2 101 "TaxiRank$Cab" "zone" "I") (by decide +kernel)
  have k5 := hts (.fieldLink RX2 120 "TaxiRank" "time" "I") (by decide +kernel)
  have k6 := hts (.fieldLink RX2 149 "TaxiRank$Cab" "arrival" "I") (by decide +kernel)
  have k7 := hts (.fieldLink RX2 152 "TaxiRank$Order" "state" "I") (by decide +kernel)
  have k8 := hts (.fieldLink RX2 201 "TaxiRank$Order" "begunAt" "I") (by decide +kernel)
  refine lv_aload_n hx hb dX2_beginRide_0 rfl (lv_at hl 0 rfl) ?_
  refine lv_aload_n hx hb dX2_beginRide_1 rfl (lv_at hl 2 rfl) ?_
  refine gx_get hx hb hown hZ hG 7 o 1 ho rfl (by decide) k1 (fun _ h => h) (v := .int (σ 7 o 1)) rfl dX2_beginRide_2 ?_
  refine lv_aload_n hx hb dX2_beginRide_5 rfl (lv_at hl 2 rfl) ?_
  refine gx_get hx hb hown hZ hG 7 o 2 ho rfl (by decide) k2 (fun _ h => h) (v := .int (σ 7 o 2)) rfl dX2_beginRide_6 ?_
  refine gx_cR (gx_runV (As := [.int (σ 7 o 1), .int (σ 7 o 2)]) (rest := []) ⟨hx, hb, hml, hown, hts⟩ (c_X2_wayBetween l g σ w (σ 7 o 1) (σ 7 o 2) hX) (cwV 2 hts gX2_beginRide_X2_wayBetween rfl rfl rfl (by decide +kernel) ⟨Nat.le_of_ble_eq_true rfl, Nat.le_of_ble_eq_true rfl⟩) (gx_obj hZ hG 0 0 hX.k0 rfl) hZ hG hS rfl hl.1 rfl (Nat.le_of_ble_eq_true rfl) dX2_beginRide_9 ⟨Nat.le_of_ble_eq_true rfl, Nat.le_of_ble_eq_true rfl⟩) ?_
  refine lv_istore_n (lv' := [(3, .int (xWay σ (σ 7 o 1) (σ 7 o 2))), (0, .ref (gad g 0 0)), (1, .ref (gad g 6 c)), (2, .ref (gad g 7 o))]) hx hb dX2_beginRide_12 rfl hl (by decide) rfl (fun ls hl => ?_)
  refine lv_aload_n hx hb dX2_beginRide_13 rfl (lv_at hl 2 rfl) ?_
  refine lv_iconst (v := 3) hx hb dX2_beginRide_14 (by decide) ?_
  refine gx_put hx hb hown hZ hG hS 6 c 3 (3) hc rfl (by decide) k3 (fun _ h => h) rfl rfl trivial rfl rfl dX2_beginRide_15 (fun H locs hG hS => ?_)
  have hX := hX.st (k := 6) (i := c) (f := 3) (v := 3) rfl
  refine lv_aload_n hx hb dX2_beginRide_18 rfl (lv_at hl 2 rfl) ?_
  refine lv_aload_n hx hb dX2_beginRide_19 rfl (lv_at hl 3 rfl) ?_
  refine gx_get hx hb hown hZ hG 7 o 1 ho rfl (by decide) k1 (fun _ h => h) (v := .int (σ 7 o 1)) (congrArg Value.int (by simp [gst_app])) dX2_beginRide_20 ?_
  refine gx_put hx hb hown hZ hG hS 6 c 2 (σ 7 o 1) hc rfl (by decide) k4 (fun _ h => h) rfl rfl trivial rfl rfl dX2_beginRide_23 (fun H locs hG hS => ?_)
  have hX := hX.st (k := 6) (i := c) (f := 2) (v := σ 7 o 1) rfl
  refine lv_aload_n hx hb dX2_beginRide_26 rfl (lv_at hl 2 rfl) ?_
  refine lv_aload_n hx hb dX2_beginRide_27 rfl (lv_at hl 1 rfl) ?_
  refine gx_get hx hb hown hZ hG 0 0 3 hX.k0 rfl (by decide) k5 (fun _ h => h) (v := .int (σ 0 0 3)) (congrArg Value.int (by simp [gst_app])) dX2_beginRide_28 ?_
  refine lv_iload_n hx hb dX2_beginRide_31 rfl (lv_at hl 0 rfl) ?_
  refine lv_iadd hx hb dX2_beginRide_32 ?_
  refine gx_put hx hb hown hZ hG hS 6 c 5 ((σ 0 0 3) + (xWay σ (σ 7 o 1) (σ 7 o 2))) hc rfl (by decide) k6 (fun _ h => h) rfl rfl trivial rfl rfl dX2_beginRide_33 (fun H locs hG hS => ?_)
  have hX := hX.st (k := 6) (i := c) (f := 5) (v := (σ 0 0 3) + (xWay σ (σ 7 o 1) (σ 7 o 2))) rfl
  refine lv_aload_n hx hb dX2_beginRide_36 rfl (lv_at hl 3 rfl) ?_
  refine lv_iconst (v := 3) hx hb dX2_beginRide_37 (by decide) ?_
  refine gx_put hx hb hown hZ hG hS 7 o 5 (3) ho rfl (by decide) k7 (fun _ h => h) rfl rfl trivial rfl rfl dX2_beginRide_38 (fun H locs hG hS => ?_)
  have hX := hX.st (k := 7) (i := o) (f := 5) (v := 3) rfl
  refine lv_aload_n hx hb dX2_beginRide_41 rfl (lv_at hl 3 rfl) ?_
  refine lv_aload_n hx hb dX2_beginRide_42 rfl (lv_at hl 1 rfl) ?_
  refine gx_get hx hb hown hZ hG 0 0 3 hX.k0 rfl (by decide) k5 (fun _ h => h) (v := .int (σ 0 0 3)) (congrArg Value.int (by simp [gst_app])) dX2_beginRide_43 ?_
  refine gx_put hx hb hown hZ hG hS 7 o 9 (σ 0 0 3) ho rfl (by decide) k8 (fun _ h => h) rfl rfl trivial rfl rfl dX2_beginRide_46 (fun H locs hG hS => ?_)
  have hX := hX.st (k := 7) (i := o) (f := 9) (v := σ 0 0 3) rfl
  refine lv_aload_n hx hb dX2_beginRide_49 rfl (lv_at hl 1 rfl) ?_
  refine lv_aload_n hx hb dX2_beginRide_50 rfl (lv_at hl 3 rfl) ?_
  refine lv_iload_n hx hb dX2_beginRide_51 rfl (lv_at hl 0 rfl) ?_
  refine gx_cM (gx_runV (As := [.ref (gad g 7 o), .int (xWay σ (σ 7 o 1) (σ 7 o 2))]) (rest := []) ⟨hx, hb, hml, hown, hts⟩ (c_X2_meterFare l g (gst (gst (gst (gst (gst σ 6 c 3 3) 6 c 2 (σ 7 o 1)) 6 c 5 ((σ 0 0 3) + (xWay σ (σ 7 o 1) (σ 7 o 2)))) 7 o 5 3) 7 o 9 (σ 0 0 3)) w o (xWay σ (σ 7 o 1) (σ 7 o 2)) hX ho) (cwV 2 hts gX2_beginRide_X2_meterFare rfl rfl rfl (by decide +kernel) ⟨Nat.le_of_ble_eq_true rfl, Nat.le_of_ble_eq_true rfl⟩) (gx_obj hZ hG 0 0 hX.k0 rfl) hZ hG hS rfl hl.1 rfl (Nat.le_of_ble_eq_true rfl) dX2_beginRide_52 ⟨Nat.le_of_ble_eq_true rfl, Nat.le_of_ble_eq_true rfl⟩) hS (fun H locs hG hS hsz => ?_)
  exact gx_vretM hx hb hr hlocks hG hS rfl (Nat.le_of_ble_eq_true rfl) (Nat.le_of_ble_eq_true rfl) dX2_beginRide_55
set_option maxHeartbeats 4000000 in
set_option maxRecDepth 100000 in
theorem c_X2_endRide (l : Launch) (g : gG) (σ : Mem) (w : Int64) (c o : Nat) (hX : Xok g σ) (hc : c < gcn g 6) (ho : o < gcn g 7) : Met l yX2_endRide wsX2_endRide ({ frames := 1, cells := 0, slots := 0, locals := 21 } : Room) (gPc g σ w [.ref (gad g 0 0), .ref (gad g 6 c), .ref (gad g 7 o)]) (gM g g (xEnd σ c o) w (none)) 0 0 (gA g) := by
  refine gx_ofW (cc := cX2_endRide) (maxL := 5) (ret := none) (by decide) rfl (Nat.le_of_ble_eq_true rfl) ?_
  intro p e s m below meth c0 hx hb hr hml hts hown hlocks hin hG hZ hS ls hl
  have hown : s.vm.findClass RX2 = some m.cls := hown
  have hl : lv_has ls 5 [(0, .ref (gad g 0 0)), (1, .ref (gad g 6 c)), (2, .ref (gad g 7 o))] := hl
  have k1 := hts (.fieldLink RX2 194 "TaxiRank$Cab" "kept" "I") (by decide +kernel)
  have k2 := hts (.fieldLink RX2 193 "TaxiRank$Cab" "due" "I") (by decide +kernel)
  have k3 := hts (.fieldLink RX2 303 "TaxiRank$Order" "to" "I") (by decide +kernel)
  have k4 := hts (.fieldLink RX2 101 "TaxiRank$Cab" "zone" "I") (by decide +kernel)
  have k5 := hts (.fieldLink RX2 251 "TaxiRank$Cab" "order" "LTaxiRank$Order;") (by decide +kernel)
  have k6 := hts (.fieldLink RX2 152 "TaxiRank$Order" "state" "I") (by decide +kernel)
  have k7 := hts (.fieldLink RX2 120 "TaxiRank" "time" "I") (by decide +kernel)
  have k8 := hts (.fieldLink RX2 326 "TaxiRank$Order" "doneAt" "I") (by decide +kernel)
  refine lv_aload_n hx hb dX2_endRide_0 rfl (lv_at hl 2 rfl) ?_
  refine gx_cR (gx_runS (As := [.ref (gad g 7 o)]) (rest := []) ⟨hx, hb, hml, hown, hts⟩ (c_X2_wholeFare l g σ w o ho) (va_cwS 1 hts gX2_endRide_X2_wholeFare rfl rfl rfl (by decide +kernel) ⟨Nat.le_of_ble_eq_true rfl, Nat.le_of_ble_eq_true rfl⟩) hZ hG hS rfl hl.1 rfl (Nat.le_of_ble_eq_true rfl) dX2_endRide_1 ⟨Nat.le_of_ble_eq_true rfl, Nat.le_of_ble_eq_true rfl⟩) ?_
  refine lv_istore_n (lv' := [(3, .int (xWhole σ o)), (0, .ref (gad g 0 0)), (1, .ref (gad g 6 c)), (2, .ref (gad g 7 o))]) hx hb dX2_endRide_4 rfl hl (by decide) rfl (fun ls hl => ?_)
  refine lv_iload_n hx hb dX2_endRide_5 rfl (lv_at hl 0 rfl) ?_
  refine lv_bipush (v := 80) hx hb dX2_endRide_6 (by decide) ?_
  refine lv_imul hx hb dX2_endRide_8 ?_
  refine lv_bipush (v := 100) hx hb dX2_endRide_9 (by decide) ?_
  refine lv_idiv hx hb dX2_endRide_11 (by decide) ?_
  refine lv_istore (lv' := [(4, .int (((xWhole σ o) * 80) / 100)), (3, .int (xWhole σ o)), (0, .ref (gad g 0 0)), (1, .ref (gad g 6 c)), (2, .ref (gad g 7 o))]) hx hb dX2_endRide_12 hl (by decide) rfl (fun ls hl => ?_)
  refine lv_aload_n hx hb dX2_endRide_14 rfl (lv_at hl 3 rfl) ?_
  refine lv_dup hx hb dX2_endRide_15 rfl ?_
  refine gx_get hx hb hown hZ hG 6 c 7 hc rfl (by decide) k1 (fun _ h => h) (v := .int (σ 6 c 7)) rfl dX2_endRide_16 ?_
  refine lv_iload hx hb dX2_endRide_19 (lv_at hl 0 rfl) ?_
  refine lv_iadd hx hb dX2_endRide_21 ?_
  refine gx_put hx hb hown hZ hG hS 6 c 7 ((σ 6 c 7) + (((xWhole σ o) * 80) / 100)) hc rfl (by decide) k1 (fun _ h => h) rfl rfl trivial rfl rfl dX2_endRide_22 (fun H locs hG hS => ?_)
  have hX := hX.st (k := 6) (i := c) (f := 7) (v := (σ 6 c 7) + (((xWhole σ o) * 80) / 100)) rfl
  refine lv_aload_n hx hb dX2_endRide_25 rfl (lv_at hl 3 rfl) ?_
  refine lv_dup hx hb dX2_endRide_26 rfl ?_
  refine gx_get hx hb hown hZ hG 6 c 8 hc rfl (by decide) k2 (fun _ h => h) (v := .int (σ 6 c 8)) (congrArg Value.int (by simp [gst_app])) dX2_endRide_27 ?_
  refine lv_iload_n hx hb dX2_endRide_30 rfl (lv_at hl 1 rfl) ?_
  refine lv_iload hx hb dX2_endRide_31 (lv_at hl 0 rfl) ?_
  refine lv_isub hx hb dX2_endRide_33 ?_
  refine lv_iadd hx hb dX2_endRide_34 ?_
  refine gx_put hx hb hown hZ hG hS 6 c 8 ((σ 6 c 8) + ((xWhole σ o) - (((xWhole σ o) * 80) / 100))) hc rfl (by decide) k2 (fun _ h => h) rfl rfl trivial rfl rfl dX2_endRide_35 (fun H locs hG hS => ?_)
  have hX := hX.st (k := 6) (i := c) (f := 8) (v := (σ 6 c 8) + ((xWhole σ o) - (((xWhole σ o) * 80) / 100))) rfl
  refine lv_aload_n hx hb dX2_endRide_38 rfl (lv_at hl 3 rfl) ?_
  refine lv_aload_n hx hb dX2_endRide_39 rfl (lv_at hl 4 rfl) ?_
  refine gx_get hx hb hown hZ hG 7 o 2 ho rfl (by decide) k3 (fun _ h => h) (v := .int (σ 7 o 2)) (congrArg Value.int (by simp [gst_app])) dX2_endRide_40 ?_
  refine gx_put hx hb hown hZ hG hS 6 c 2 (σ 7 o 2) hc rfl (by decide) k4 (fun _ h => h) rfl rfl trivial rfl rfl dX2_endRide_43 (fun H locs hG hS => ?_)
  have hX := hX.st (k := 6) (i := c) (f := 2) (v := σ 7 o 2) rfl
  refine lv_aload_n hx hb dX2_endRide_46 rfl (lv_at hl 3 rfl) ?_
  refine lv_null hx hb dX2_endRide_47 ?_
  refine gx_put hx hb hown hZ hG hS 6 c 6 (-1) hc rfl (by decide) k5 (fun _ h => h) rfl rfl (Or.inl rfl) rfl rfl dX2_endRide_48 (fun H locs hG hS => ?_)
  have hX := hX.st (k := 6) (i := c) (f := 6) (v := -1) rfl
  refine lv_aload_n hx hb dX2_endRide_51 rfl (lv_at hl 2 rfl) ?_
  refine lv_aload_n hx hb dX2_endRide_52 rfl (lv_at hl 3 rfl) ?_
  refine gx_cM (gx_runV (As := [.ref (gad g 6 c)]) (rest := []) ⟨hx, hb, hml, hown, hts⟩ (c_X2_joinQueue l g (gst (gst (gst (gst σ 6 c 7 ((σ 6 c 7) + (((xWhole σ o) * 80) / 100))) 6 c 8 ((σ 6 c 8) + ((xWhole σ o) - (((xWhole σ o) * 80) / 100)))) 6 c 2 (σ 7 o 2)) 6 c 6 (-1)) w c hX hc) (cwV 1 hts gX2_endRide_X2_joinQueue rfl rfl rfl (by decide +kernel) ⟨Nat.le_of_ble_eq_true rfl, Nat.le_of_ble_eq_true rfl⟩) (gx_obj hZ hG 0 0 hX.k0 rfl) hZ hG hS rfl hl.1 rfl (Nat.le_of_ble_eq_true rfl) dX2_endRide_53 ⟨Nat.le_of_ble_eq_true rfl, Nat.le_of_ble_eq_true rfl⟩) hS (fun H locs hG hS hsz => ?_)
  have hX := hX.join (c := c)
  refine lv_aload_n hx hb dX2_endRide_56 rfl (lv_at hl 4 rfl) ?_
  refine lv_iconst (v := 4) hx hb dX2_endRide_57 (by decide) ?_
  refine gx_put hx hb hown hZ hG hS 7 o 5 (4) ho rfl (by decide) k6 (fun _ h => h) rfl rfl trivial rfl rfl dX2_endRide_58 (fun H locs hG hS => ?_)
  have hX := hX.st (k := 7) (i := o) (f := 5) (v := 4) rfl
  refine lv_aload_n hx hb dX2_endRide_61 rfl (lv_at hl 4 rfl) ?_
  refine lv_aload_n hx hb dX2_endRide_62 rfl (lv_at hl 2 rfl) ?_
  refine gx_get hx hb hown hZ hG 0 0 3 hX.k0 rfl (by decide) k7 (fun _ h => h) (v := .int ((xJoin (gst (gst (gst (gst σ 6 c 7 ((σ 6 c 7) + (((xWhole σ o) * 80) / 100))) 6 c 8 ((σ 6 c 8) + ((xWhole σ o) - (((xWhole σ o) * 80) / 100)))) 6 c 2 (σ 7 o 2)) 6 c 6 (-1)) c) 0 0 3)) (congrArg Value.int (by simp [gst_app])) dX2_endRide_63 ?_
  refine gx_put hx hb hown hZ hG hS 7 o 10 ((xJoin (gst (gst (gst (gst σ 6 c 7 ((σ 6 c 7) + (((xWhole σ o) * 80) / 100))) 6 c 8 ((σ 6 c 8) + ((xWhole σ o) - (((xWhole σ o) * 80) / 100)))) 6 c 2 (σ 7 o 2)) 6 c 6 (-1)) c) 0 0 3) ho rfl (by decide) k8 (fun _ h => h) rfl rfl trivial rfl rfl dX2_endRide_66 (fun H locs hG hS => ?_)
  have hX := hX.st (k := 7) (i := o) (f := 10) (v := (xJoin (gst (gst (gst (gst σ 6 c 7 ((σ 6 c 7) + (((xWhole σ o) * 80) / 100))) 6 c 8 ((σ 6 c 8) + ((xWhole σ o) - (((xWhole σ o) * 80) / 100)))) 6 c 2 (σ 7 o 2)) 6 c 6 (-1)) c) 0 0 3) rfl
  exact gx_vretM hx hb hr hlocks hG hS (by first | rfl | (simp only [xEnd, xKept]; done) | (simp only [xEnd, xKept]; congr 1; simp [gst_app, xJoin])) (Nat.le_of_ble_eq_true rfl) (Nat.le_of_ble_eq_true rfl) dX2_endRide_69
set_option maxHeartbeats 4000000 in
set_option maxRecDepth 100000 in
theorem c_X2_bringCabsOn (l : Launch) (g : gG) (σ : Mem) (w : Int64) (hX : Xok g σ) : Met l yX2_bringCabsOn wsX2_bringCabsOn ({ frames := 3, cells := 0, slots := 0, locals := 67 } : Room) (gPc g σ w [.ref (gad g 0 0)]) (gM g g ((xBc σ).2) w (some (.int (xBc σ).1))) 0 0 (gA g) := by
  refine gx_ofW (cc := cX2_bringCabsOn) (maxL := 5) (ret := (some .int)) (by decide) rfl (Nat.le_of_ble_eq_true rfl) ?_
  intro p e s m below meth c0 hx hb hr hml hts hown hlocks hin hG hZ hS ls hl
  have hown : s.vm.findClass RX2 = some m.cls := hown
  have hl : lv_has ls 5 [(0, .ref (gad g 0 0))] := hl
  have k1 := hts (.fieldLink RX2 16 "TaxiRank" "cabs" "Ljava/util/ArrayList;") (by decide +kernel)
  have k2 := hts (.classLink RX2 68 "TaxiRank$Cab") (by decide +kernel)
  have k3 := hts (.fieldLink RX2 251 "TaxiRank$Cab" "order" "LTaxiRank$Order;") (by decide +kernel)
  have k4 := hts (.fieldLink RX2 120 "TaxiRank" "time" "I") (by decide +kernel)
  have k5 := hts (.fieldLink RX2 149 "TaxiRank$Cab" "arrival" "I") (by decide +kernel)
  have k6 := hts (.fieldLink RX2 80 "TaxiRank$Cab" "state" "I") (by decide +kernel)
  have hn6 := hX.n6
  have hn7 := hX.n7
  refine lv_iconst (v := 0) hx hb dX2_bringCabsOn_0 (by decide) ?_
  refine lv_istore_n (lv' := [(1, .int (0)), (0, .ref (gad g 0 0))]) hx hb dX2_bringCabsOn_1 rfl hl (by decide) rfl (fun ls hl => ?_)
  refine lv_iconst (v := 0) hx hb dX2_bringCabsOn_2 (by decide) ?_
  refine lv_istore_n (lv' := [(2, .int (0)), (1, .int (0)), (0, .ref (gad g 0 0))]) hx hb dX2_bringCabsOn_3 rfl hl (by decide) rfl (fun ls hl => ?_)
  have loop_4 : ∀ (nf : Nat) (r : Nat) (k : Nat) (acc : Int32) (σ1 : Mem), r < nf → (k + r = gcn g 6) → (Xok g σ1) → (xBcGo r k acc σ1 = xBc σ) → ∀ (H : Heap) (locs : List Loc), GW g σ1 w H → va_S (gA g) s.heap H locs → ∀ ls : Array Slot, lv_has ls 5 [(0, .ref (gad g 0 0)), (1, .int (acc)), (2, .int (nI k))] → W p l e ({ frames := 3, cells := 0, slots := 0, locals := 67 } : Room) s m ([.ref (gad g 0 0)] : List Value).toArray below meth c0 H locs 0 0 (MQ below (gM g g ((xBc σ).2) w (some (.int (xBc σ).1))) ([.ref (gad g 0 0)] : List Value).toArray s 0 0 (gA g)) (F0 m 4 ls []) := by
    intro nf
    induction nf with
    | zero => intro r k acc σ1 hn; exact absurd hn (Nat.not_lt_zero _)
    | succ nf ih =>
      intro r k acc σ1 hn hk hX hres H locs hG hS ls hl
      refine lv_iload_n hx hb dX2_bringCabsOn_4 rfl (lv_at hl 2 rfl) ?_
      refine lv_aload_n hx hb dX2_bringCabsOn_5 rfl (lv_at hl 0 rfl) ?_
      refine gx_get hx hb hown hZ hG 0 0 1 hX.k0 rfl (by decide) k1 (fun _ h => h) (v := .ref (gad g 2 0)) (grf_z hX.r1) dX2_bringCabsOn_6 ?_
      refine gx_cR (gx_runV (As := []) (rest := [.int (nI k)]) ⟨hx, hb, hml, hown, hts⟩ (c_size2 l g σ1 w hX) (cwV 0 hts gX2_bringCabsOn_Jx4a65c_size_8abf5 rfl rfl rfl (by decide +kernel) ⟨Nat.le_of_ble_eq_true rfl, Nat.le_of_ble_eq_true rfl⟩) (gx_obj hZ hG 2 0 hX.k2 rfl) hZ hG hS rfl hl.1 rfl (Nat.le_of_ble_eq_true rfl) dX2_bringCabsOn_9 ⟨Nat.le_of_ble_eq_true rfl, Nat.le_of_ble_eq_true rfl⟩) ?_
      refine lv_icmp_ge (tgt := 94) hx hb dX2_bringCabsOn_12 (by decide) (fun c_1 => ?_) (fun c_1 => ?_)
      · skip
        have hge := le_of_nIle c_1 (by omega) (by omega)
        obtain rfl : r = 0 := by omega
        refine lv_iload_n hx hb dX2_bringCabsOn_94 rfl (lv_at hl 1 rfl) ?_
        exact gx_iretM hx hb hr hlocks hG hS (by rw [← hres]; rfl) (by rw [← hres]; rfl) (Nat.le_of_ble_eq_true rfl) (Nat.le_of_ble_eq_true rfl) dX2_bringCabsOn_95
      · skip
        have hkc := lt_of_nle c_1 (by omega)
        obtain ⟨r, rfl⟩ : ∃ q, r = q + 1 := ⟨r - 1, by omega⟩
        refine lv_aload_n hx hb dX2_bringCabsOn_15 rfl (lv_at hl 0 rfl) ?_
        refine gx_get hx hb hown hZ hG 0 0 1 hX.k0 rfl (by decide) k1 (fun _ h => h) (v := .ref (gad g 2 0)) (grf_z hX.r1) dX2_bringCabsOn_16 ?_
        refine lv_iload_n hx hb dX2_bringCabsOn_19 rfl (lv_at hl 2 rfl) ?_
        refine gx_cR (gx_runV (As := [.int (nI k)]) (rest := []) ⟨hx, hb, hml, hown, hts⟩ (c_get2 l g σ1 w k hX hkc) (cwV 1 hts gX2_bringCabsOn_Jx4a65c_get_915e3 rfl rfl rfl (by decide +kernel) ⟨Nat.le_of_ble_eq_true rfl, Nat.le_of_ble_eq_true rfl⟩) (gx_obj hZ hG 2 0 hX.k2 rfl) hZ hG hS rfl hl.1 rfl (Nat.le_of_ble_eq_true rfl) dX2_bringCabsOn_20 ⟨Nat.le_of_ble_eq_true rfl, Nat.le_of_ble_eq_true rfl⟩) ?_
        refine gx_cast hx hb hown hZ hG 6 k hkc rfl k2 dX2_bringCabsOn_23 ?_
        refine lv_astore_n (lv' := [(3, .ref (gad g 6 k)), (0, .ref (gad g 0 0)), (1, .int (acc)), (2, .int (nI k))]) hx hb dX2_bringCabsOn_26 rfl hl (by decide) rfl (fun ls hl => ?_)
        refine lv_aload_n hx hb dX2_bringCabsOn_27 rfl (lv_at hl 0 rfl) ?_
        have v_2 : σ1 6 k 6 = -1 ∨ ∃ j, j < gcn g 7 ∧ σ1 6 k 6 = nI j := hG.2.2.1 6 k 6 hkc
        refine gx_get hx hb hown hZ hG 6 k 6 hkc rfl (by decide) k3 (fun _ h => h) (v := grf (gad g 7) (σ1 6 k 6)) rfl dX2_bringCabsOn_28 ?_
        refine gx_astoreO (lv' := [(4, grf (gad g 7) (σ1 6 k 6)), (3, .ref (gad g 6 k)), (0, .ref (gad g 0 0)), (1, .int (acc)), (2, .int (nI k))]) hx hb dX2_bringCabsOn_31 hl (by decide) rfl (fun ls hl => ?_)
        refine gx_aloadO hx hb dX2_bringCabsOn_33 (lv_at hl 0 rfl) ?_
        refine gx_ifnull (tgt := 88) hx hb dX2_bringCabsOn_35 (by decide) (fun c_3 => ?_) (fun c_3 => ?_)
        · skip
          refine lv_iinc (v := nI (k + 1)) (lv' := [(2, .int (nI (k + 1))), (4, grf (gad g 7) (σ1 6 k 6)), (3, .ref (gad g 6 k)), (0, .ref (gad g 0 0)), (1, .int (acc))]) hx hb dX2_bringCabsOn_88 hl (k := 4) rfl (nI_1 _) (by decide) rfl (fun ls hl => ?_)
          refine lv_goto (tgt := 4) hx hb dX2_bringCabsOn_91 (by decide) ?_
          exact ih r (k + 1) (acc) (σ1) (by omega) (by omega) hX (by rw [← hres]; simp only [xBcGo, c_1, c_3, n32, reduceIte]) H locs hG hS ls (lv_sub hl [3, 4, 0] rfl)
        · skip
          refine lv_aload_n hx hb dX2_bringCabsOn_38 rfl (lv_at hl 2 rfl) ?_
          refine gx_get hx hb hown hZ hG 0 0 3 hX.k0 rfl (by decide) k4 (fun _ h => h) (v := .int (σ1 0 0 3)) rfl dX2_bringCabsOn_39 ?_
          refine lv_aload_n hx hb dX2_bringCabsOn_42 rfl (lv_at hl 1 rfl) ?_
          refine gx_get hx hb hown hZ hG 6 k 5 hkc rfl (by decide) k5 (fun _ h => h) (v := .int (σ1 6 k 5)) rfl dX2_bringCabsOn_43 ?_
          refine lv_icmp_ge (tgt := 52) hx hb dX2_bringCabsOn_46 (by decide) (fun c_4 => ?_) (fun c_4 => ?_)
          · skip
            refine lv_aload_n hx hb dX2_bringCabsOn_52 rfl (lv_at hl 1 rfl) ?_
            refine gx_get hx hb hown hZ hG 6 k 3 hkc rfl (by decide) k6 (fun _ h => h) (v := .int (σ1 6 k 3)) rfl dX2_bringCabsOn_53 ?_
            refine lv_iconst (v := 2) hx hb dX2_bringCabsOn_56 (by decide) ?_
            refine lv_icmp_ne (tgt := 70) hx hb dX2_bringCabsOn_57 (by decide) (fun c_5 => ?_) (fun c_5 => ?_)
            · skip
              refine lv_aload_n hx hb dX2_bringCabsOn_70 rfl (lv_at hl 1 rfl) ?_
              refine gx_get hx hb hown hZ hG 6 k 3 hkc rfl (by decide) k6 (fun _ h => h) (v := .int (σ1 6 k 3)) rfl dX2_bringCabsOn_71 ?_
              refine lv_iconst (v := 3) hx hb dX2_bringCabsOn_74 (by decide) ?_
              refine lv_icmp_ne (tgt := 88) hx hb dX2_bringCabsOn_75 (by decide) (fun c_6 => ?_) (fun c_6 => ?_)
              · skip
                refine lv_iinc (v := nI (k + 1)) (lv' := [(2, .int (nI (k + 1))), (4, grf (gad g 7) (σ1 6 k 6)), (3, .ref (gad g 6 k)), (0, .ref (gad g 0 0)), (1, .int (acc))]) hx hb dX2_bringCabsOn_88 hl (k := 4) rfl (nI_1 _) (by decide) rfl (fun ls hl => ?_)
                refine lv_goto (tgt := 4) hx hb dX2_bringCabsOn_91 (by decide) ?_
                exact ih r (k + 1) (acc) (σ1) (by omega) (by omega) hX (by rw [← hres]; simp only [xBcGo, c_1, c_3, c_4, c_5, c_6, n32, reduceIte]) H locs hG hS ls (lv_sub hl [3, 4, 0] rfl)
              · skip
                refine lv_aload_n hx hb dX2_bringCabsOn_78 rfl (lv_at hl 2 rfl) ?_
                refine lv_aload_n hx hb dX2_bringCabsOn_79 rfl (lv_at hl 1 rfl) ?_
                refine gx_aloadO hx hb dX2_bringCabsOn_80 (lv_at hl 0 rfl) ?_
                refine gx_topV (grf_nn c_3) ?_
                refine gx_cM (gx_runV (As := [.ref (gad g 6 k), .ref (gad g 7 (ix (σ1 6 k 6)))]) (rest := []) ⟨hx, hb, hml, hown, hts⟩ (c_X2_endRide l g σ1 w k (ix (σ1 6 k 6)) hX hkc (nn_lt v_2 c_3 (hG.2.2.2 7))) (cwV 2 hts gX2_bringCabsOn_X2_endRide rfl rfl rfl (by decide +kernel) ⟨Nat.le_of_ble_eq_true rfl, Nat.le_of_ble_eq_true rfl⟩) (gx_obj hZ hG 0 0 hX.k0 rfl) hZ hG hS rfl hl.1 rfl (Nat.le_of_ble_eq_true rfl) dX2_bringCabsOn_82 ⟨Nat.le_of_ble_eq_true rfl, Nat.le_of_ble_eq_true rfl⟩) hS (fun H locs hG hS hsz => ?_)
                have hX := hX.fin (c := k) (o := ix (σ1 6 k 6))
                refine lv_iinc (v := acc + 1) (lv' := [(1, .int (acc + 1)), (4, grf (gad g 7) (σ1 6 k 6)), (3, .ref (gad g 6 k)), (0, .ref (gad g 0 0)), (2, .int (nI k))]) hx hb dX2_bringCabsOn_85 hl (k := 3) rfl rfl (by decide) rfl (fun ls hl => ?_)
                refine lv_iinc (v := nI (k + 1)) (lv' := [(2, .int (nI (k + 1))), (1, .int (acc + 1)), (4, grf (gad g 7) (σ1 6 k 6)), (3, .ref (gad g 6 k)), (0, .ref (gad g 0 0))]) hx hb dX2_bringCabsOn_88 hl (k := 4) rfl (nI_1 _) (by decide) rfl (fun ls hl => ?_)
                refine lv_goto (tgt := 4) hx hb dX2_bringCabsOn_91 (by decide) ?_
                exact ih r (k + 1) (acc + 1) (xEnd σ1 k (ix (σ1 6 k 6))) (by omega) (by omega) hX (by rw [← hres]; simp only [xBcGo, c_1, c_3, c_4, c_5, c_6, n32, reduceIte]) H locs hG hS ls (lv_sub hl [4, 1, 0] rfl)
            · skip
              refine lv_aload_n hx hb dX2_bringCabsOn_60 rfl (lv_at hl 2 rfl) ?_
              refine lv_aload_n hx hb dX2_bringCabsOn_61 rfl (lv_at hl 1 rfl) ?_
              refine gx_aloadO hx hb dX2_bringCabsOn_62 (lv_at hl 0 rfl) ?_
              refine gx_topV (grf_nn c_3) ?_
              refine gx_cM (gx_runV (As := [.ref (gad g 6 k), .ref (gad g 7 (ix (σ1 6 k 6)))]) (rest := []) ⟨hx, hb, hml, hown, hts⟩ (c_X2_beginRide l g σ1 w k (ix (σ1 6 k 6)) hX hkc (nn_lt v_2 c_3 (hG.2.2.2 7))) (cwV 2 hts gX2_bringCabsOn_X2_beginRide rfl rfl rfl (by decide +kernel) ⟨Nat.le_of_ble_eq_true rfl, Nat.le_of_ble_eq_true rfl⟩) (gx_obj hZ hG 0 0 hX.k0 rfl) hZ hG hS rfl hl.1 rfl (Nat.le_of_ble_eq_true rfl) dX2_bringCabsOn_64 ⟨Nat.le_of_ble_eq_true rfl, Nat.le_of_ble_eq_true rfl⟩) hS (fun H locs hG hS hsz => ?_)
              have hX := hX.beg (c := k) (o := ix (σ1 6 k 6))
              refine lv_goto (tgt := 88) hx hb dX2_bringCabsOn_67 (by decide) ?_
              refine lv_iinc (v := nI (k + 1)) (lv' := [(2, .int (nI (k + 1))), (4, grf (gad g 7) (σ1 6 k 6)), (3, .ref (gad g 6 k)), (0, .ref (gad g 0 0)), (1, .int (acc))]) hx hb dX2_bringCabsOn_88 hl (k := 4) rfl (nI_1 _) (by decide) rfl (fun ls hl => ?_)
              refine lv_goto (tgt := 4) hx hb dX2_bringCabsOn_91 (by decide) ?_
              exact ih r (k + 1) (acc) (xBegin σ1 k (ix (σ1 6 k 6))) (by omega) (by omega) hX (by rw [← hres]; simp only [xBcGo, c_1, c_3, c_4, c_5, n32, reduceIte]) H locs hG hS ls (lv_sub hl [3, 4, 0] rfl)
          · skip
            refine lv_goto (tgt := 88) hx hb dX2_bringCabsOn_49 (by decide) ?_
            refine lv_iinc (v := nI (k + 1)) (lv' := [(2, .int (nI (k + 1))), (4, grf (gad g 7) (σ1 6 k 6)), (3, .ref (gad g 6 k)), (0, .ref (gad g 0 0)), (1, .int (acc))]) hx hb dX2_bringCabsOn_88 hl (k := 4) rfl (nI_1 _) (by decide) rfl (fun ls hl => ?_)
            refine lv_goto (tgt := 4) hx hb dX2_bringCabsOn_91 (by decide) ?_
            exact ih r (k + 1) (acc) (σ1) (by omega) (by omega) hX (by rw [← hres]; simp only [xBcGo, c_1, c_3, c_4, n32, reduceIte]) H locs hG hS ls (lv_sub hl [3, 4, 0] rfl)
  exact loop_4 (gcn g 6 + 1) (gcn g 6) 0 0 σ (by omega) (by omega) hX (by simp only [xBc, hX.eC]) _ _ hG hS ls (lv_sub hl [2, 1, 0] rfl)
set_option maxHeartbeats 4000000 in
set_option maxRecDepth 100000 in
theorem c_X2_passMinute (l : Launch) (g : gG) (σ : Mem) (w : Int64) (hX : Xok g σ) : Met l yX2_passMinute wsX2_passMinute ({ frames := 6, cells := 0, slots := 0, locals := 137 } : Room) (gPc g σ w [.ref (gad g 0 0)]) (gM g g ((xPm σ).2) w (some (.int (xPm σ).1))) 0 0 (gA g) := by
  refine gx_ofW (cc := cX2_passMinute) (maxL := 2) (ret := (some .int)) (by decide) rfl (Nat.le_of_ble_eq_true rfl) ?_
  intro p e s m below meth c0 hx hb hr hml hts hown hlocks hin hG hZ hS ls hl
  have hown : s.vm.findClass RX2 = some m.cls := hown
  have hl : lv_has ls 2 [(0, .ref (gad g 0 0))] := hl
  have k1 := hts (.fieldLink RX2 120 "TaxiRank" "time" "I") (by decide +kernel)
  refine lv_aload_n hx hb dX2_passMinute_0 rfl (lv_at hl 0 rfl) ?_
  refine lv_dup hx hb dX2_passMinute_1 rfl ?_
  refine gx_get hx hb hown hZ hG 0 0 3 hX.k0 rfl (by decide) k1 (fun _ h => h) (v := .int (σ 0 0 3)) rfl dX2_passMinute_2 ?_
  refine lv_iconst (v := 1) hx hb dX2_passMinute_5 (by decide) ?_
  refine lv_iadd hx hb dX2_passMinute_6 ?_
  refine gx_put hx hb hown hZ hG hS 0 0 3 ((σ 0 0 3) + 1) hX.k0 rfl (by decide) k1 (fun _ h => h) rfl rfl trivial rfl rfl dX2_passMinute_7 (fun H locs hG hS => ?_)
  have hX := hX.st (k := 0) (i := 0) (f := 3) (v := (σ 0 0 3) + 1) rfl
  refine lv_aload_n hx hb dX2_passMinute_10 rfl (lv_at hl 0 rfl) ?_
  refine gx_cM (gx_runV (As := []) (rest := []) ⟨hx, hb, hml, hown, hts⟩ (c_X2_refuseOldOffers l g (gst σ 0 0 3 ((σ 0 0 3) + 1)) w hX) (cwV 0 hts gX2_passMinute_X2_refuseOldOffers rfl rfl rfl (by decide +kernel) ⟨Nat.le_of_ble_eq_true rfl, Nat.le_of_ble_eq_true rfl⟩) (gx_obj hZ hG 0 0 hX.k0 rfl) hZ hG hS rfl hl.1 rfl (Nat.le_of_ble_eq_true rfl) dX2_passMinute_11 ⟨Nat.le_of_ble_eq_true rfl, Nat.le_of_ble_eq_true rfl⟩) hS (fun H locs hG hS hsz => ?_)
  have hX := hX.ro
  refine lv_aload_n hx hb dX2_passMinute_14 rfl (lv_at hl 0 rfl) ?_
  refine gx_cM (gx_runV (As := []) (rest := []) ⟨hx, hb, hml, hown, hts⟩ (c_X2_bringCabsOn l g (xRo (gst σ 0 0 3 (σ 0 0 3 + 1))) w hX) (cwV 0 hts gX2_passMinute_X2_bringCabsOn rfl rfl rfl (by decide +kernel) ⟨Nat.le_of_ble_eq_true rfl, Nat.le_of_ble_eq_true rfl⟩) (gx_obj hZ hG 0 0 hX.k0 rfl) hZ hG hS rfl hl.1 rfl (Nat.le_of_ble_eq_true rfl) dX2_passMinute_15 ⟨Nat.le_of_ble_eq_true rfl, Nat.le_of_ble_eq_true rfl⟩) hS (fun H locs hG hS hsz => ?_)
  have hX := hX.bc
  refine lv_istore_n (lv' := [(1, .int ((xBc (xRo (gst σ 0 0 3 (σ 0 0 3 + 1)))).1)), (0, .ref (gad g 0 0))]) hx hb dX2_passMinute_18 rfl hl (by decide) rfl (fun ls hl => ?_)
  refine lv_aload_n hx hb dX2_passMinute_19 rfl (lv_at hl 1 rfl) ?_
  refine gx_cM (gx_runV (As := []) (rest := []) ⟨hx, hb, hml, hown, hts⟩ (c_X2_makeOffers l g ((xBc (xRo (gst σ 0 0 3 (σ 0 0 3 + 1)))).2) w hX) (cwV 0 hts gX2_passMinute_X2_makeOffers rfl rfl rfl (by decide +kernel) ⟨Nat.le_of_ble_eq_true rfl, Nat.le_of_ble_eq_true rfl⟩) (gx_obj hZ hG 0 0 hX.k0 rfl) hZ hG hS rfl hl.1 rfl (Nat.le_of_ble_eq_true rfl) dX2_passMinute_20 ⟨Nat.le_of_ble_eq_true rfl, Nat.le_of_ble_eq_true rfl⟩) hS (fun H locs hG hS hsz => ?_)
  refine lv_iload_n hx hb dX2_passMinute_23 rfl (lv_at hl 0 rfl) ?_
  exact gx_iretM hx hb hr hlocks hG hS rfl rfl (Nat.le_of_ble_eq_true rfl) (Nat.le_of_ble_eq_true rfl) dX2_passMinute_24
