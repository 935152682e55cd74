def xStart (σ : Mem) (n : Int32) : Mem := xMo (xJoin σ (ix n))
def xStartE (σ : Mem) (n : Int32) : Int32 := if xOkC σ n = true then (if σ 6 (ix n) 3 = 0 then 0 else 2) else 1
def xStop (σ : Mem) (n : Int32) : Mem := xMo (gst (xTurn σ (ix n)) 6 (ix n) 3 0)
def xStopE (σ : Mem) (n : Int32) : Int32 := if xOkC σ n = true then (if σ 6 (ix n) 3 = 1 then 0 else 2) else 1
def xSetWayE (a b m : Int32) : Int32 := if xIsZone a = true then (if xIsZone b = true then (if a = b then 2 else if m < 1 then 2 else if m ≤ 120 then 0 else 2) else 1) else 1
def xSetWay (σ : Mem) (a b m : Int32) : Mem := xPutWay (xPutWay σ a b m) b a m
def xSetRatesE (a b : Int32) : Int32 := if a < 0 then 1 else if a ≤ 100 then (if b < 0 then 1 else if b ≤ 20 then 0 else 1) else 1
def xCabE (σ : Mem) (n x : Int32) : Int32 := if xOkC σ n = true then (if x < 0 then 1 else if x < 5 then 0 else 1) else 1
def xAcceptE (σ : Mem) (n : Int32) : Int32 := if xOkC σ n = true then (if xOff σ (ix n) = -1 then 2 else 0) else 1
def xMax (a b : Int32) : Int32 := if a < b then b else a
def xAcc (σ : Mem) (c o : Nat) : Mem := gst (gst (gst σ 6 c 3 2) 6 c 5 (xMax (σ 0 0 3 + xWay σ (σ 6 c 2) (σ 7 o 1)) (σ 7 o 4))) 7 o 5 2
def xAccept (σ : Mem) (n : Int32) : Mem := xMo (xAcc σ (ix n) (ix (xOff σ (ix n))))
def xRefuse (σ : Mem) (n : Int32) : Mem := xMo (xTurn σ (ix n))
def xCancelE (σ : Mem) (n : Int32) : Int32 := if xOkO σ n = true then (if σ 7 (ix n) 5 = 0 then 0 else if σ 7 (ix n) 5 = 1 then 0 else if σ 7 (ix n) 5 = 2 then 0 else 2) else 1
def xCancel (σ : Mem) (n : Int32) : Mem := xMo (gst (xRel σ (ix n)) 7 (ix n) 5 5)
def xToldE (σ : Mem) (n x : Int32) : Int32 := if xOkO σ n = true then (if x < 0 then 1 else if x < 5 then 0 else 1) else 1
def xTickE (σ : Mem) (n : Int32) : Int32 := if n < 1 then 1 else if n ≤ 300 then (if n ≤ 9999 - σ 0 0 3 then 0 else 1) else 1
def xTickGo : Nat → Int32 → Mem → Int32 × Mem
  | 0, acc, σ => (acc, σ)
  | r + 1, acc, σ => xTickGo r (acc + (xPm σ).1) (xPm σ).2
def xTick (σ : Mem) (n : Int32) : Int32 × Mem := xTickGo (ix n) 0 σ
theorem Xok.tickGo {g : gG} : ∀ (r : Nat) (acc : Int32) {σ : Mem} (_ : Xok g σ), Xok g (xTickGo r acc σ).2
  | 0, _, _, h => h
  | r + 1, acc, σ, h => Xok.tickGo r _ h.pm
def xQueueE (z p1 : Int32) : Int32 := if xIsZone z = true then (if 0 ≤ p1 then 0 else 1) else 1
def xCountE (x : Int32) : Int32 := if x < 0 then 1 else if x ≤ 7 then 0 else 1
def xCount (σ : Mem) (x : Int32) : Int32 := if x = 0 then nI (nC σ) else if x = 1 then nI (nO σ) else xOs σ (x - 2)
def xMoneyE (σ : Mem) (n : Int32) : Int32 := if xOkC σ n = true then 0 else 1
def xMoney (σ : Mem) (n b : Int32) : Int32 := if b = 0 then σ 6 (ix n) 7 else σ 6 (ix n) 8
def xNearE (z n : Int32) : Int32 := if xIsZone z = true then (if n < 1 then 2 else if n ≤ 8 then 0 else 2) else 1
def xMin (a b : Int32) : Int32 := if b < a then b else a
def xNeGo (σ : Mem) (z n : Int32) : Nat → Nat → Int32 → Int32
  | 0, _, best => best
  | r + 1, k, best => if xIdle σ k = true then (if σ 6 k 1 < n then xNeGo σ z n r (k + 1) best
      else if best = -1 then xNeGo σ z n r (k + 1) (xWay σ (σ 6 k 2) z) else xNeGo σ z n r (k + 1) (xMin best (xWay σ (σ 6 k 2) z)))
    else xNeGo σ z n r (k + 1) best
def xNear (σ : Mem) (z n : Int32) : Int32 := xNeGo σ z n (nC σ) 0 (-1)
theorem Xok.putWay {g : gG} {σ : Mem} {a b m : Int32} (h : Xok g σ) : Xok g (xPutWay σ a b m) := by
  unfold xPutWay
  repeat' split
  · exact h
  · exact h
  · exact h.st rfl
set_option maxHeartbeats 4000000 in
set_option maxRecDepth 100000 in
theorem c_X2_setWay (l : Launch) (hl0 : l.stackTraces = false) (g : gG) (σ : Mem) (w : Int64) (a b n : Int32) (hX : Xok g σ) : vx_Met l yX2_setWay wsX2_setWay ({ frames := 7, cells := 3, slots := 18, locals := 112 } : Room) (gPc g σ w [.ref (gad g 0 0), .int (a), .int (b), .int (n)]) (gMx g g (xSetWay σ a b n) w (some (.int (xWay σ a b))) (xSetWayE a b n = 0)) (gX (fun E => (E = "java/lang/IndexOutOfBoundsException" ∧ xSetWayE a b n = 1) ∨ (E = "java/lang/IllegalArgumentException" ∧ xSetWayE a b n = 2))) 3 18 (gA g) := by
  refine gx_xofW (cc := cX2_setWay) (maxL := 5) (ret := (some .int)) (by decide) rfl (Nat.le_of_ble_eq_true rfl) ?_
  intro p e s m below meth c0 hx hb hr hml hts hown hlocks hin hnt hG hZ hS ls hl
  have hown : s.vm.findClass RX2 = some m.cls := hown
  have hl : lv_has ls 5 [(0, .ref (gad g 0 0)), (1, .int (a)), (2, .int (b)), (3, .int (n))] := hl
  refine lv_iload_n hx hb dX2_setWay_0 rfl (lv_at hl 1 rfl) ?_
  refine gx_cVx (gx_xrunS (As := [.int (a)]) (rest := []) ⟨hx, hb, hml, hown, hts⟩ (c_X2_requireZone l hl0 g σ w a) (va_cwS 1 hts gX2_setWay_X2_requireZone rfl rfl rfl (by decide +kernel) ⟨Nat.le_of_ble_eq_true rfl, Nat.le_of_ble_eq_true rfl⟩) hZ hG hS rfl hl.1 rfl (Nat.le_of_ble_eq_true rfl) dX2_setWay_1 ⟨Nat.le_of_ble_eq_true rfl, Nat.le_of_ble_eq_true rfl⟩) hG hS (fun E ce q9 H1 hPE hG hS hz1 hk1 hce hcv hcl => ?_) (fun hD1 => ?_)
  · skip
    exact gx_xout hnt hlocks ((Or.inl ⟨hPE.1, by first | (simp only [xSetWayE, hPE.2, reduceIte, Bool.false_eq_true]; done) | simp [xSetWayE, hPE.2]⟩)) hk1 hz1 hce hcv hcl (fun _ h => nomatch h) (Nat.le_of_ble_eq_true rfl) (Nat.le_of_ble_eq_true rfl)
  refine lv_iload_n hx hb dX2_setWay_4 rfl (lv_at hl 2 rfl) ?_
  refine gx_cVx (gx_xrunS (As := [.int (b)]) (rest := []) ⟨hx, hb, hml, hown, hts⟩ (c_X2_requireZone l hl0 g σ w b) (va_cwS 1 hts gX2_setWay_X2_requireZone rfl rfl rfl (by decide +kernel) ⟨Nat.le_of_ble_eq_true rfl, Nat.le_of_ble_eq_true rfl⟩) hZ hG hS rfl hl.1 rfl (Nat.le_of_ble_eq_true rfl) dX2_setWay_5 ⟨Nat.le_of_ble_eq_true rfl, Nat.le_of_ble_eq_true rfl⟩) hG hS (fun E ce q9 H1 hPE hG hS hz1 hk1 hce hcv hcl => ?_) (fun hD2 => ?_)
  · skip
    exact gx_xout hnt hlocks ((Or.inl ⟨hPE.1, by first | (simp only [xSetWayE, hD1, hPE.2, reduceIte, Bool.false_eq_true]; done) | simp [xSetWayE, hD1, hPE.2]⟩)) hk1 hz1 hce hcv hcl (fun _ h => nomatch h) (Nat.le_of_ble_eq_true rfl) (Nat.le_of_ble_eq_true rfl)
  refine lv_iload_n hx hb dX2_setWay_8 rfl (lv_at hl 1 rfl) ?_
  refine lv_iload_n hx hb dX2_setWay_9 rfl (lv_at hl 2 rfl) ?_
  refine lv_icmp_ne (tgt := 23) hx hb dX2_setWay_10 (by decide) (fun c_3 => ?_) (fun c_3 => ?_)
  · skip
    refine lv_iload_n hx hb dX2_setWay_23 rfl (lv_at hl 3 rfl) ?_
    refine lv_iconst (v := 1) hx hb dX2_setWay_24 (by decide) ?_
    refine lv_icmp_lt (tgt := 34) hx hb dX2_setWay_25 (by decide) (fun c_4 => ?_) (fun c_4 => ?_)
    · skip
      exact gx_throw (text := "minutes is not 1 to 120") hx hb hl0 hown hlocks hZ hS (hl.1.trans hml.symm) hnt hts (by decide +kernel) (by decide +kernel) (by decide +kernel) (by decide +kernel) (by decide +kernel) (by first | exact fun _ h => List.mem_cons_of_mem _ (List.mem_append_right _ h) | exact fun _ h => List.mem_cons_of_mem _ (List.mem_append_left _ (List.mem_append_right _ h)) | decide +kernel) zb_ia zo_ia dX2_setWay_34 dX2_setWay_37 dX2_setWay_38 dX2_setWay_40 dX2_setWay_43 (Nat.le_of_ble_eq_true rfl) (Nat.le_of_ble_eq_true rfl) (Nat.le_of_ble_eq_true rfl) (Nat.le_of_ble_eq_true rfl) (fun _ _ => rfl) (Nat.le_refl _) ((Or.inr ⟨rfl, by first | (simp only [xSetWayE, hD1, hD2, c_3, c_4, reduceIte, Bool.false_eq_true]; done) | simp [xSetWayE, hD1, hD2, c_3, c_4]⟩)) (fun _ h => nomatch h) (Nat.le_of_ble_eq_true rfl) (Nat.le_of_ble_eq_true rfl)
    · skip
      refine lv_iload_n hx hb dX2_setWay_28 rfl (lv_at hl 3 rfl) ?_
      refine lv_bipush (v := 120) hx hb dX2_setWay_29 (by decide) ?_
      refine lv_icmp_le (tgt := 44) hx hb dX2_setWay_31 (by decide) (fun c_5 => ?_) (fun c_5 => ?_)
      · skip
        refine lv_aload_n hx hb dX2_setWay_44 rfl (lv_at hl 0 rfl) ?_
        refine lv_iload_n hx hb dX2_setWay_45 rfl (lv_at hl 1 rfl) ?_
        refine lv_iload_n hx hb dX2_setWay_46 rfl (lv_at hl 2 rfl) ?_
        refine gx_cR (gx_runV (As := [.int (a), .int (b)]) (rest := []) ⟨hx, hb, hml, hown, hts⟩ (c_X2_wayBetween l g σ w a b hX) (cwV 2 hts gX2_setWay_X2_wayBetween rfl rfl rfl (by decide +kernel) ⟨Nat.le_of_ble_eq_true rfl, Nat.le_of_ble_eq_true rfl⟩) (gx_obj hZ hG 0 0 hX.k0 rfl) hZ hG hS rfl hl.1 rfl (Nat.le_of_ble_eq_true rfl) dX2_setWay_47 ⟨Nat.le_of_ble_eq_true rfl, Nat.le_of_ble_eq_true rfl⟩) ?_
        refine lv_istore (lv' := [(4, .int (xWay σ a b)), (0, .ref (gad g 0 0)), (1, .int (a)), (2, .int (b)), (3, .int (n))]) hx hb dX2_setWay_50 hl (by decide) rfl (fun ls hl => ?_)
        refine lv_aload_n hx hb dX2_setWay_52 rfl (lv_at hl 1 rfl) ?_
        refine lv_iload_n hx hb dX2_setWay_53 rfl (lv_at hl 2 rfl) ?_
        refine lv_iload_n hx hb dX2_setWay_54 rfl (lv_at hl 3 rfl) ?_
        refine lv_iload_n hx hb dX2_setWay_55 rfl (lv_at hl 4 rfl) ?_
        refine gx_cM (gx_runV (As := [.int (a), .int (b), .int (n)]) (rest := []) ⟨hx, hb, hml, hown, hts⟩ (c_X2_putWay l g σ w a b n hX) (cwV 3 hts gX2_setWay_X2_putWay rfl rfl rfl (by decide +kernel) ⟨Nat.le_of_ble_eq_true rfl, Nat.le_of_ble_eq_true rfl⟩) (gx_obj hZ hG 0 0 hX.k0 rfl) hZ hG hS rfl hl.1 rfl (Nat.le_of_ble_eq_true rfl) dX2_setWay_56 ⟨Nat.le_of_ble_eq_true rfl, Nat.le_of_ble_eq_true rfl⟩) hS (fun H locs hG hS hsz => ?_)
        have hX := hX.putWay (a := a) (b := b) (m := n)
        refine lv_aload_n hx hb dX2_setWay_59 rfl (lv_at hl 1 rfl) ?_
        refine lv_iload_n hx hb dX2_setWay_60 rfl (lv_at hl 3 rfl) ?_
        refine lv_iload_n hx hb dX2_setWay_61 rfl (lv_at hl 2 rfl) ?_
        refine lv_iload_n hx hb dX2_setWay_62 rfl (lv_at hl 4 rfl) ?_
        refine gx_cM (gx_runV (As := [.int (b), .int (a), .int (n)]) (rest := []) ⟨hx, hb, hml, hown, hts⟩ (c_X2_putWay l g (xPutWay σ a b n) w b a n hX) (cwV 3 hts gX2_setWay_X2_putWay rfl rfl rfl (by decide +kernel) ⟨Nat.le_of_ble_eq_true rfl, Nat.le_of_ble_eq_true rfl⟩) (gx_obj hZ hG 0 0 hX.k0 rfl) hZ hG hS rfl hl.1 rfl (Nat.le_of_ble_eq_true rfl) dX2_setWay_63 ⟨Nat.le_of_ble_eq_true rfl, Nat.le_of_ble_eq_true rfl⟩) hS (fun H locs hG hS hsz => ?_)
        refine lv_iload hx hb dX2_setWay_66 (lv_at hl 0 rfl) ?_
        exact gx_iretMx hx hb hr hlocks hG hS rfl rfl (by first | (simp only [xSetWayE, hD1, hD2, c_3, c_4, c_5, reduceIte, Bool.false_eq_true]; done) | simp [xSetWayE, hD1, hD2, c_3, c_4, c_5]) (Nat.le_of_ble_eq_true rfl) (Nat.le_of_ble_eq_true rfl) dX2_setWay_68
      · skip
        exact gx_throw (text := "minutes is not 1 to 120") hx hb hl0 hown hlocks hZ hS (hl.1.trans hml.symm) hnt hts (by decide +kernel) (by decide +kernel) (by decide +kernel) (by decide +kernel) (by decide +kernel) (by first | exact fun _ h => List.mem_cons_of_mem _ (List.mem_append_right _ h) | exact fun _ h => List.mem_cons_of_mem _ (List.mem_append_left _ (List.mem_append_right _ h)) | decide +kernel) zb_ia zo_ia dX2_setWay_34 dX2_setWay_37 dX2_setWay_38 dX2_setWay_40 dX2_setWay_43 (Nat.le_of_ble_eq_true rfl) (Nat.le_of_ble_eq_true rfl) (Nat.le_of_ble_eq_true rfl) (Nat.le_of_ble_eq_true rfl) (fun _ _ => rfl) (Nat.le_refl _) ((Or.inr ⟨rfl, by first | (simp only [xSetWayE, hD1, hD2, c_3, c_4, c_5, reduceIte, Bool.false_eq_true]; done) | simp [xSetWayE, hD1, hD2, c_3, c_4, c_5]⟩)) (fun _ h => nomatch h) (Nat.le_of_ble_eq_true rfl) (Nat.le_of_ble_eq_true rfl)
  · skip
    exact gx_throw (text := "the zones are the same") hx hb hl0 hown hlocks hZ hS (hl.1.trans hml.symm) hnt hts (by decide +kernel) (by decide +kernel) (by decide +kernel) (by decide +kernel) (by decide +kernel) (by first | exact fun _ h => List.mem_cons_of_mem _ (List.mem_append_right _ h) | exact fun _ h => List.mem_cons_of_mem _ (List.mem_append_left _ (List.mem_append_right _ h)) | decide +kernel) zb_ia zo_ia dX2_setWay_13 dX2_setWay_16 dX2_setWay_17 dX2_setWay_19 dX2_setWay_22 (Nat.le_of_ble_eq_true rfl) (Nat.le_of_ble_eq_true rfl) (Nat.le_of_ble_eq_true rfl) (Nat.le_of_ble_eq_true rfl) (fun _ _ => rfl) (Nat.le_refl _) ((Or.inr ⟨rfl, by first | (simp only [xSetWayE, hD1, hD2, c_3, reduceIte, Bool.false_eq_true]; done) | simp [xSetWayE, hD1, hD2, c_3]⟩)) (fun _ h => nomatch h) (Nat.le_of_ble_eq_true rfl) (Nat.le_of_ble_eq_true rfl)
set_option maxHeartbeats 4000000 in
set_option maxRecDepth 100000 in
theorem c_X2_start (l : Launch) (hl0 : l.stackTraces = false) (g : gG) (σ : Mem) (w : Int64) (n : Int32) (hX : Xok g σ) : vx_Met l yX2_start wsX2_start ({ frames := 7, cells := 2, slots := 12, locals := 137 } : Room) (gPc g σ w [.ref (gad g 0 0), .int (n)]) (gMx g g (xStart σ n) w (some (.int (xPlace (xStart σ n) (ix n)))) (xStartE σ n = 0)) (gX (fun E => (E = "java/lang/IndexOutOfBoundsException" ∧ xStartE σ n = 1) ∨ (E = "java/lang/IllegalStateException" ∧ xStartE σ n = 2))) 2 12 (gA g) := by
  refine gx_xofW (cc := cX2_start) (maxL := 3) (ret := (some .int)) (by decide) rfl (Nat.le_of_ble_eq_true rfl) ?_
  intro p e s m below meth c0 hx hb hr hml hts hown hlocks hin hnt hG hZ hS ls hl
  have hown : s.vm.findClass RX2 = some m.cls := hown
  have hl : lv_has ls 3 [(0, .ref (gad g 0 0)), (1, .int (n))] := hl
  have k1 := hts (.fieldLink RX2 80 "TaxiRank$Cab" "state" "I") (by decide +kernel)
  refine lv_aload_n hx hb dX2_start_0 rfl (lv_at hl 0 rfl) ?_
  refine lv_iload_n hx hb dX2_start_1 rfl (lv_at hl 1 rfl) ?_
  refine gx_cRx (gx_xrunV (As := [.int (n)]) (rest := []) ⟨hx, hb, hml, hown, hts⟩ (c_X2_cabNumbered l hl0 g σ w n hX) (cwV 1 hts gX2_start_X2_cabNumbered rfl rfl rfl (by decide +kernel) ⟨Nat.le_of_ble_eq_true rfl, Nat.le_of_ble_eq_true rfl⟩) (gx_obj hZ hG 0 0 hX.k0 rfl) hZ hG hS rfl hl.1 rfl (Nat.le_of_ble_eq_true rfl) dX2_start_2 ⟨Nat.le_of_ble_eq_true rfl, Nat.le_of_ble_eq_true rfl⟩) hG hS (fun E ce q9 H1 hPE hG hS hz1 hk1 hce hcv hcl => ?_) (fun hD1 => ?_)
  · skip
    exact gx_xout hnt hlocks ((Or.inl ⟨hPE.1, by first | (simp only [xStartE, hPE.2, reduceIte, Bool.false_eq_true]; done) | simp [xStartE, hPE.2]⟩)) hk1 hz1 hce hcv hcl (fun _ h => nomatch h) (Nat.le_of_ble_eq_true rfl) (Nat.le_of_ble_eq_true rfl)
  have hcn := (hX.okC hD1).1
  refine lv_astore_n (lv' := [(2, .ref (gad g 6 (ix n))), (0, .ref (gad g 0 0)), (1, .int (n))]) hx hb dX2_start_5 rfl hl (by decide) rfl (fun ls hl => ?_)
  refine lv_aload_n hx hb dX2_start_6 rfl (lv_at hl 0 rfl) ?_
  refine gx_get hx hb hown hZ hG 6 (ix n) 3 hcn rfl (by decide) k1 (fun _ h => h) (v := .int (σ 6 (ix n) 3)) rfl dX2_start_7 ?_
  refine lv_if_eq (tgt := 23) hx hb dX2_start_10 (by decide) (fun c_2 => ?_) (fun c_2 => ?_)
  · skip
    refine lv_aload_n hx hb dX2_start_23 rfl (lv_at hl 1 rfl) ?_
    refine lv_aload_n hx hb dX2_start_24 rfl (lv_at hl 0 rfl) ?_
    refine gx_cM (gx_runV (As := [.ref (gad g 6 (ix n))]) (rest := []) ⟨hx, hb, hml, hown, hts⟩ (c_X2_joinQueue l g σ w (ix n) hX hcn) (cwV 1 hts gX2_start_X2_joinQueue rfl rfl rfl (by decide +kernel) ⟨Nat.le_of_ble_eq_true rfl, Nat.le_of_ble_eq_true rfl⟩) (gx_obj hZ hG 0 0 hX.k0 rfl) hZ hG hS rfl hl.1 rfl (Nat.le_of_ble_eq_true rfl) dX2_start_25 ⟨Nat.le_of_ble_eq_true rfl, Nat.le_of_ble_eq_true rfl⟩) hS (fun H locs hG hS hsz => ?_)
    have hX := hX.join (c := ix n)
    refine lv_aload_n hx hb dX2_start_28 rfl (lv_at hl 1 rfl) ?_
    refine gx_cM (gx_runV (As := []) (rest := []) ⟨hx, hb, hml, hown, hts⟩ (c_X2_makeOffers l g (xJoin σ (ix n)) w hX) (cwV 0 hts gX2_start_X2_makeOffers rfl rfl rfl (by decide +kernel) ⟨Nat.le_of_ble_eq_true rfl, Nat.le_of_ble_eq_true rfl⟩) (gx_obj hZ hG 0 0 hX.k0 rfl) hZ hG hS rfl hl.1 rfl (Nat.le_of_ble_eq_true rfl) dX2_start_29 ⟨Nat.le_of_ble_eq_true rfl, Nat.le_of_ble_eq_true rfl⟩) hS (fun H locs hG hS hsz => ?_)
    have hX := hX.mo
    refine lv_aload_n hx hb dX2_start_32 rfl (lv_at hl 1 rfl) ?_
    refine lv_aload_n hx hb dX2_start_33 rfl (lv_at hl 0 rfl) ?_
    refine gx_cR (gx_runV (As := [.ref (gad g 6 (ix n))]) (rest := []) ⟨hx, hb, hml, hown, hts⟩ (c_X2_placeOf l g (xMo (xJoin σ (ix n))) w (ix n) hX hcn) (cwV 1 hts gX2_start_X2_placeOf rfl rfl rfl (by decide +kernel) ⟨Nat.le_of_ble_eq_true rfl, Nat.le_of_ble_eq_true rfl⟩) (gx_obj hZ hG 0 0 hX.k0 rfl) hZ hG hS rfl hl.1 rfl (Nat.le_of_ble_eq_true rfl) dX2_start_34 ⟨Nat.le_of_ble_eq_true rfl, Nat.le_of_ble_eq_true rfl⟩) ?_
    exact gx_iretMx hx hb hr hlocks hG hS rfl rfl (by first | (simp only [xStartE, hD1, c_2, reduceIte, Bool.false_eq_true]; done) | simp [xStartE, hD1, c_2]) (Nat.le_of_ble_eq_true rfl) (Nat.le_of_ble_eq_true rfl) dX2_start_37
  · skip
    exact gx_throw (text := "the cab is not OFF") hx hb hl0 hown hlocks hZ hS (hl.1.trans hml.symm) hnt hts (by decide +kernel) (by decide +kernel) (by decide +kernel) (by decide +kernel) (by decide +kernel) (by first | exact fun _ h => List.mem_cons_of_mem _ (List.mem_append_right _ h) | exact fun _ h => List.mem_cons_of_mem _ (List.mem_append_left _ (List.mem_append_right _ h)) | decide +kernel) zb_is zo_is dX2_start_13 dX2_start_16 dX2_start_17 dX2_start_19 dX2_start_22 (Nat.le_of_ble_eq_true rfl) (Nat.le_of_ble_eq_true rfl) (Nat.le_of_ble_eq_true rfl) (Nat.le_of_ble_eq_true rfl) (fun _ _ => rfl) (Nat.le_refl _) ((Or.inr ⟨rfl, by first | (simp only [xStartE, hD1, c_2, reduceIte, Bool.false_eq_true]; done) | simp [xStartE, hD1, c_2]⟩)) (fun _ h => nomatch h) (Nat.le_of_ble_eq_true rfl) (Nat.le_of_ble_eq_true rfl)
set_option maxHeartbeats 4000000 in
set_option maxRecDepth 100000 in
theorem c_X2_stop (l : Launch) (hl0 : l.stackTraces = false) (g : gG) (σ : Mem) (w : Int64) (n : Int32) (hX : Xok g σ) : vx_Met l yX2_stop wsX2_stop ({ frames := 7, cells := 2, slots := 12, locals := 137 } : Room) (gPc g σ w [.ref (gad g 0 0), .int (n)]) (gMx g g (xStop σ n) w (some (.int (xStop σ n 6 (ix n) 2))) (xStopE σ n = 0)) (gX (fun E => (E = "java/lang/IndexOutOfBoundsException" ∧ xStopE σ n = 1) ∨ (E = "java/lang/IllegalStateException" ∧ xStopE σ n = 2))) 2 12 (gA g) := by
  refine gx_xofW (cc := cX2_stop) (maxL := 3) (ret := (some .int)) (by decide) rfl (Nat.le_of_ble_eq_true rfl) ?_
  intro p e s m below meth c0 hx hb hr hml hts hown hlocks hin hnt hG hZ hS ls hl
  have hown : s.vm.findClass RX2 = some m.cls := hown
  have hl : lv_has ls 3 [(0, .ref (gad g 0 0)), (1, .int (n))] := hl
  have k1 := hts (.fieldLink RX2 80 "TaxiRank$Cab" "state" "I") (by decide +kernel)
  have k2 := hts (.fieldLink RX2 101 "TaxiRank$Cab" "zone" "I") (by decide +kernel)
  refine lv_aload_n hx hb dX2_stop_0 rfl (lv_at hl 0 rfl) ?_
  refine lv_iload_n hx hb dX2_stop_1 rfl (lv_at hl 1 rfl) ?_
  refine gx_cRx (gx_xrunV (As := [.int (n)]) (rest := []) ⟨hx, hb, hml, hown, hts⟩ (c_X2_cabNumbered l hl0 g σ w n hX) (cwV 1 hts gX2_stop_X2_cabNumbered rfl rfl rfl (by decide +kernel) ⟨Nat.le_of_ble_eq_true rfl, Nat.le_of_ble_eq_true rfl⟩) (gx_obj hZ hG 0 0 hX.k0 rfl) hZ hG hS rfl hl.1 rfl (Nat.le_of_ble_eq_true rfl) dX2_stop_2 ⟨Nat.le_of_ble_eq_true rfl, Nat.le_of_ble_eq_true rfl⟩) hG hS (fun E ce q9 H1 hPE hG hS hz1 hk1 hce hcv hcl => ?_) (fun hD1 => ?_)
  · skip
    exact gx_xout hnt hlocks ((Or.inl ⟨hPE.1, by first | (simp only [xStopE, hPE.2, reduceIte, Bool.false_eq_true]; done) | simp [xStopE, hPE.2]⟩)) hk1 hz1 hce hcv hcl (fun _ h => nomatch h) (Nat.le_of_ble_eq_true rfl) (Nat.le_of_ble_eq_true rfl)
  have hcn := (hX.okC hD1).1
  refine lv_astore_n (lv' := [(2, .ref (gad g 6 (ix n))), (0, .ref (gad g 0 0)), (1, .int (n))]) hx hb dX2_stop_5 rfl hl (by decide) rfl (fun ls hl => ?_)
  refine lv_aload_n hx hb dX2_stop_6 rfl (lv_at hl 0 rfl) ?_
  refine gx_get hx hb hown hZ hG 6 (ix n) 3 hcn rfl (by decide) k1 (fun _ h => h) (v := .int (σ 6 (ix n) 3)) rfl dX2_stop_7 ?_
  refine lv_iconst (v := 1) hx hb dX2_stop_10 (by decide) ?_
  refine lv_icmp_eq (tgt := 24) hx hb dX2_stop_11 (by decide) (fun c_2 => ?_) (fun c_2 => ?_)
  · skip
    refine lv_aload_n hx hb dX2_stop_24 rfl (lv_at hl 1 rfl) ?_
    refine lv_aload_n hx hb dX2_stop_25 rfl (lv_at hl 0 rfl) ?_
    refine gx_cM (gx_runV (As := [.ref (gad g 6 (ix n))]) (rest := []) ⟨hx, hb, hml, hown, hts⟩ (c_X2_turnDown l g σ w (ix n) hX hcn) (cwV 1 hts gX2_stop_X2_turnDown rfl rfl rfl (by decide +kernel) ⟨Nat.le_of_ble_eq_true rfl, Nat.le_of_ble_eq_true rfl⟩) (gx_obj hZ hG 0 0 hX.k0 rfl) hZ hG hS rfl hl.1 rfl (Nat.le_of_ble_eq_true rfl) dX2_stop_26 ⟨Nat.le_of_ble_eq_true rfl, Nat.le_of_ble_eq_true rfl⟩) hS (fun H locs hG hS hsz => ?_)
    have hX := hX.turn (c := ix n)
    refine lv_aload_n hx hb dX2_stop_29 rfl (lv_at hl 0 rfl) ?_
    refine lv_iconst (v := 0) hx hb dX2_stop_30 (by decide) ?_
    refine gx_put hx hb hown hZ hG hS 6 (ix n) 3 (0) hcn rfl (by decide) k1 (fun _ h => h) rfl rfl trivial rfl rfl dX2_stop_31 (fun H locs hG hS => ?_)
    have hX := hX.st (k := 6) (i := ix n) (f := 3) (v := 0) rfl
    refine lv_aload_n hx hb dX2_stop_34 rfl (lv_at hl 1 rfl) ?_
    refine gx_cM (gx_runV (As := []) (rest := []) ⟨hx, hb, hml, hown, hts⟩ (c_X2_makeOffers l g (gst (xTurn σ (ix n)) 6 (ix n) 3 0) w hX) (cwV 0 hts gX2_stop_X2_makeOffers rfl rfl rfl (by decide +kernel) ⟨Nat.le_of_ble_eq_true rfl, Nat.le_of_ble_eq_true rfl⟩) (gx_obj hZ hG 0 0 hX.k0 rfl) hZ hG hS rfl hl.1 rfl (Nat.le_of_ble_eq_true rfl) dX2_stop_35 ⟨Nat.le_of_ble_eq_true rfl, Nat.le_of_ble_eq_true rfl⟩) hS (fun H locs hG hS hsz => ?_)
    have hX := hX.mo
    refine lv_aload_n hx hb dX2_stop_38 rfl (lv_at hl 0 rfl) ?_
    refine gx_get hx hb hown hZ hG 6 (ix n) 2 hcn rfl (by decide) k2 (fun _ h => h) (v := .int ((xMo (gst (xTurn σ (ix n)) 6 (ix n) 3 0)) 6 (ix n) 2)) rfl dX2_stop_39 ?_
    exact gx_iretMx hx hb hr hlocks hG hS rfl rfl (by first | (simp only [xStopE, hD1, c_2, reduceIte, Bool.false_eq_true]; done) | simp [xStopE, hD1, c_2]) (Nat.le_of_ble_eq_true rfl) (Nat.le_of_ble_eq_true rfl) dX2_stop_42
  · skip
    exact gx_throw (text := "the cab is not FREE") hx hb hl0 hown hlocks hZ hS (hl.1.trans hml.symm) hnt hts (by decide +kernel) (by decide +kernel) (by decide +kernel) (by decide +kernel) (by decide +kernel) (by first | exact fun _ h => List.mem_cons_of_mem _ (List.mem_append_right _ h) | exact fun _ h => List.mem_cons_of_mem _ (List.mem_append_left _ (List.mem_append_right _ h)) | decide +kernel) zb_is zo_is dX2_stop_14 dX2_stop_17 dX2_stop_18 dX2_stop_20 dX2_stop_23 (Nat.le_of_ble_eq_true rfl) (Nat.le_of_ble_eq_true rfl) (Nat.le_of_ble_eq_true rfl) (Nat.le_of_ble_eq_true rfl) (fun _ _ => rfl) (Nat.le_refl _) ((Or.inr ⟨rfl, by first | (simp only [xStopE, hD1, c_2, reduceIte, Bool.false_eq_true]; done) | simp [xStopE, hD1, c_2]⟩)) (fun _ h => nomatch h) (Nat.le_of_ble_eq_true rfl) (Nat.le_of_ble_eq_true rfl)
set_option maxHeartbeats 4000000 in
set_option maxRecDepth 100000 in
theorem c_X2_cab (l : Launch) (hl0 : l.stackTraces = false) (g : gG) (σ : Mem) (w : Int64) (n x : Int32) (hX : Xok g σ) : vx_Met l yX2_cab wsX2_cab ({ frames := 7, cells := 2, slots := 12, locals := 113 } : Room) (gPc g σ w [.ref (gad g 0 0), .int (n), .int (x)]) (gRx (.int (xCabDet σ (ix n) x)) (xCabE σ n x = 0)) (gX (fun E => (E = "java/lang/IndexOutOfBoundsException" ∧ xCabE σ n x = 1))) 2 12 (fun _ => False) := by
  refine gx_xofW (cc := cX2_cab) (maxL := 4) (ret := (some .int)) (by decide) rfl (Nat.le_of_ble_eq_true rfl) ?_
  intro p e s m below meth c0 hx hb hr hml hts hown hlocks hin hnt hG hZ hS ls hl
  have hown : s.vm.findClass RX2 = some m.cls := hown
  have hl : lv_has ls 4 [(0, .ref (gad g 0 0)), (1, .int (n)), (2, .int (x))] := hl
  refine lv_aload_n hx hb dX2_cab_0 rfl (lv_at hl 0 rfl) ?_
  refine lv_iload_n hx hb dX2_cab_1 rfl (lv_at hl 1 rfl) ?_
  refine gx_cRx (gx_xrunV (As := [.int (n)]) (rest := []) ⟨hx, hb, hml, hown, hts⟩ (c_X2_cabNumbered l hl0 g σ w n hX) (cwV 1 hts gX2_cab_X2_cabNumbered rfl rfl rfl (by decide +kernel) ⟨Nat.le_of_ble_eq_true rfl, Nat.le_of_ble_eq_true rfl⟩) (gx_obj hZ hG 0 0 hX.k0 rfl) hZ hG hS rfl hl.1 rfl (Nat.le_of_ble_eq_true rfl) dX2_cab_2 ⟨Nat.le_of_ble_eq_true rfl, Nat.le_of_ble_eq_true rfl⟩) hG hS (fun E ce q9 H1 hPE hG hS hz1 hk1 hce hcv hcl => ?_) (fun hD1 => ?_)
  · skip
    exact gx_xout hnt hlocks (⟨hPE.1, by first | (simp only [xCabE, hPE.2, reduceIte, Bool.false_eq_true]; done) | simp [xCabE, hPE.2]⟩) hk1 hz1 hce hcv hcl (fun _ h => nomatch h) (Nat.le_of_ble_eq_true rfl) (Nat.le_of_ble_eq_true rfl)
  have hcn := (hX.okC hD1).1
  refine lv_astore_n (lv' := [(3, .ref (gad g 6 (ix n))), (0, .ref (gad g 0 0)), (1, .int (n)), (2, .int (x))]) hx hb dX2_cab_5 rfl hl (by decide) rfl (fun ls hl => ?_)
  refine lv_iload_n hx hb dX2_cab_6 rfl (lv_at hl 3 rfl) ?_
  refine lv_if_lt (tgt := 15) hx hb dX2_cab_7 (by decide) (fun c_2 => ?_) (fun c_2 => ?_)
  · skip
    exact gx_throw (text := "what is not 0 to 4") hx hb hl0 hown hlocks hZ hS (hl.1.trans hml.symm) hnt hts (by decide +kernel) (by decide +kernel) (by decide +kernel) (by decide +kernel) (by decide +kernel) (by first | exact fun _ h => List.mem_cons_of_mem _ (List.mem_append_right _ h) | exact fun _ h => List.mem_cons_of_mem _ (List.mem_append_left _ (List.mem_append_right _ h)) | decide +kernel) zb_io zo_io dX2_cab_15 dX2_cab_18 dX2_cab_19 dX2_cab_21 dX2_cab_24 (Nat.le_of_ble_eq_true rfl) (Nat.le_of_ble_eq_true rfl) (Nat.le_of_ble_eq_true rfl) (Nat.le_of_ble_eq_true rfl) (fun _ _ => rfl) (Nat.le_refl _) (⟨rfl, by first | (simp only [xCabE, hD1, c_2, reduceIte, Bool.false_eq_true]; done) | simp [xCabE, hD1, c_2]⟩) (fun _ h => nomatch h) (Nat.le_of_ble_eq_true rfl) (Nat.le_of_ble_eq_true rfl)
  · skip
    refine lv_iload_n hx hb dX2_cab_10 rfl (lv_at hl 3 rfl) ?_
    refine lv_iconst (v := 5) hx hb dX2_cab_11 (by decide) ?_
    refine lv_icmp_lt (tgt := 25) hx hb dX2_cab_12 (by decide) (fun c_3 => ?_) (fun c_3 => ?_)
    · skip
      refine lv_aload_n hx hb dX2_cab_25 rfl (lv_at hl 1 rfl) ?_
      refine lv_aload_n hx hb dX2_cab_26 rfl (lv_at hl 0 rfl) ?_
      refine lv_iload_n hx hb dX2_cab_27 rfl (lv_at hl 3 rfl) ?_
      refine gx_cR (gx_runV (As := [.ref (gad g 6 (ix n)), .int (x)]) (rest := []) ⟨hx, hb, hml, hown, hts⟩ (c_X2_cabDetail l g σ w (ix n) x hX hcn) (cwV 2 hts gX2_cab_X2_cabDetail rfl rfl rfl (by decide +kernel) ⟨Nat.le_of_ble_eq_true rfl, Nat.le_of_ble_eq_true rfl⟩) (gx_obj hZ hG 0 0 hX.k0 rfl) hZ hG hS rfl hl.1 rfl (Nat.le_of_ble_eq_true rfl) dX2_cab_28 ⟨Nat.le_of_ble_eq_true rfl, Nat.le_of_ble_eq_true rfl⟩) ?_
      exact gx_iretRx hx hb hr hlocks rfl (by first | (simp only [xCabE, hD1, c_2, c_3, reduceIte, Bool.false_eq_true]; done) | simp [xCabE, hD1, c_2, c_3]) (Nat.le_of_ble_eq_true rfl) (Nat.le_of_ble_eq_true rfl) dX2_cab_31
    · skip
      exact gx_throw (text := "what is not 0 to 4") hx hb hl0 hown hlocks hZ hS (hl.1.trans hml.symm) hnt hts (by decide +kernel) (by decide +kernel) (by decide +kernel) (by decide +kernel) (by decide +kernel) (by first | exact fun _ h => List.mem_cons_of_mem _ (List.mem_append_right _ h) | exact fun _ h => List.mem_cons_of_mem _ (List.mem_append_left _ (List.mem_append_right _ h)) | decide +kernel) zb_io zo_io dX2_cab_15 dX2_cab_18 dX2_cab_19 dX2_cab_21 dX2_cab_24 (Nat.le_of_ble_eq_true rfl) (Nat.le_of_ble_eq_true rfl) (Nat.le_of_ble_eq_true rfl) (Nat.le_of_ble_eq_true rfl) (fun _ _ => rfl) (Nat.le_refl _) (⟨rfl, by first | (simp only [xCabE, hD1, c_2, c_3, reduceIte, Bool.false_eq_true]; done) | simp [xCabE, hD1, c_2, c_3]⟩) (fun _ h => nomatch h) (Nat.le_of_ble_eq_true rfl) (Nat.le_of_ble_eq_true rfl)
set_option maxHeartbeats 4000000 in
set_option maxRecDepth 100000 in
theorem c_X2_accept (l : Launch) (hl0 : l.stackTraces = false) (g : gG) (σ : Mem) (w : Int64) (n : Int32) (hX : Xok g σ) : vx_Met l yX2_accept wsX2_accept ({ frames := 7, cells := 2, slots := 12, locals := 137 } : Room) (gPc g σ w [.ref (gad g 0 0), .int (n)]) (gMx g g (xAccept σ n) w (some (.int (xWay σ (σ 6 (ix n) 2) (σ 7 (ix (xOff σ (ix n))) 1)))) (xAcceptE σ n = 0)) (gX (fun E => (E = "java/lang/IndexOutOfBoundsException" ∧ xAcceptE σ n = 1) ∨ (E = "java/lang/IllegalStateException" ∧ xAcceptE σ n = 2))) 2 12 (gA g) := by
  refine gx_xofW (cc := cX2_accept) (maxL := 5) (ret := (some .int)) (by decide) rfl (Nat.le_of_ble_eq_true rfl) ?_
  intro p e s m below meth c0 hx hb hr hml hts hown hlocks hin hnt hG hZ hS ls hl
  have hown : s.vm.findClass RX2 = some m.cls := hown
  have hl : lv_has ls 5 [(0, .ref (gad g 0 0)), (1, .int (n))] := hl
  have k1 := hts (.fieldLink RX2 101 "TaxiRank$Cab" "zone" "I") (by decide +kernel)
  have k2 := hts (.fieldLink RX2 138 "TaxiRank$Order" "from" "I") (by decide +kernel)
  have k3 := hts (.fieldLink RX2 80 "TaxiRank$Cab" "state" "I") (by decide +kernel)
  have k4 := hts (.fieldLink RX2 120 "TaxiRank" "time" "I") (by decide +kernel)
  have k5 := hts (.fieldLink RX2 141 "TaxiRank$Order" "due" "I") (by decide +kernel)
  have k6 := hts (.methodLink RX2 144 Lib.Math.max.name) (by decide +kernel)
  have k7 := hts (.static Lib.Math.max.name) (by decide +kernel)
  have k8 := hts (.initialized "java/lang/Math") (by decide +kernel)
  have k9 := hts (.code Lib.Math.max.name Lib.Math.max.code 2 (some .int)) (by decide +kernel)
  have k10 := hts (.fieldLink RX2 149 "TaxiRank$Cab" "arrival" "I") (by decide +kernel)
  have k11 := hts (.fieldLink RX2 152 "TaxiRank$Order" "state" "I") (by decide +kernel)
  refine lv_aload_n hx hb dX2_accept_0 rfl (lv_at hl 0 rfl) ?_
  refine lv_iload_n hx hb dX2_accept_1 rfl (lv_at hl 1 rfl) ?_
  refine gx_cRx (gx_xrunV (As := [.int (n)]) (rest := []) ⟨hx, hb, hml, hown, hts⟩ (c_X2_cabNumbered l hl0 g σ w n hX) (cwV 1 hts gX2_accept_X2_cabNumbered rfl rfl rfl (by decide +kernel) ⟨Nat.le_of_ble_eq_true rfl, Nat.le_of_ble_eq_true rfl⟩) (gx_obj hZ hG 0 0 hX.k0 rfl) hZ hG hS rfl hl.1 rfl (Nat.le_of_ble_eq_true rfl) dX2_accept_2 ⟨Nat.le_of_ble_eq_true rfl, Nat.le_of_ble_eq_true rfl⟩) hG hS (fun E ce q9 H1 hPE hG hS hz1 hk1 hce hcv hcl => ?_) (fun hD1 => ?_)
  · skip
    exact gx_xout hnt hlocks ((Or.inl ⟨hPE.1, by first | (simp only [xAcceptE, hPE.2, reduceIte, Bool.false_eq_true]; done) | simp [xAcceptE, hPE.2]⟩)) hk1 hz1 hce hcv hcl (fun _ h => nomatch h) (Nat.le_of_ble_eq_true rfl) (Nat.le_of_ble_eq_true rfl)
  have hcn := (hX.okC hD1).1
  refine lv_astore_n (lv' := [(2, .ref (gad g 6 (ix n))), (0, .ref (gad g 0 0)), (1, .int (n))]) hx hb dX2_accept_5 rfl hl (by decide) rfl (fun ls hl => ?_)
  refine lv_aload_n hx hb dX2_accept_6 rfl (lv_at hl 0 rfl) ?_
  refine gx_cR (gx_runS (As := [.ref (gad g 6 (ix n))]) (rest := []) ⟨hx, hb, hml, hown, hts⟩ (c_X2_offeredTo l g σ w (ix n) hcn) (va_cwS 1 hts gX2_accept_X2_offeredTo rfl rfl rfl (by decide +kernel) ⟨Nat.le_of_ble_eq_true rfl, Nat.le_of_ble_eq_true rfl⟩) hZ hG hS rfl hl.1 rfl (Nat.le_of_ble_eq_true rfl) dX2_accept_7 ⟨Nat.le_of_ble_eq_true rfl, Nat.le_of_ble_eq_true rfl⟩) ?_
  have v_off := off_ok hG hcn
  refine gx_astore_nO (lv' := [(3, grf (gad g 7) (xOff σ (ix n))), (2, .ref (gad g 6 (ix n))), (0, .ref (gad g 0 0)), (1, .int (n))]) hx hb dX2_accept_10 rfl hl (by decide) rfl (fun ls hl => ?_)
  refine gx_aload_nO hx hb dX2_accept_11 rfl (lv_at hl 0 rfl) ?_
  refine gx_ifnonnull (tgt := 25) hx hb dX2_accept_12 (by decide) (fun c_2 => ?_) (fun c_2 => ?_)
  · skip
    refine lv_aload_n hx hb dX2_accept_25 rfl (lv_at hl 2 rfl) ?_
    refine lv_aload_n hx hb dX2_accept_26 rfl (lv_at hl 1 rfl) ?_
    refine gx_get hx hb hown hZ hG 6 (ix n) 2 hcn rfl (by decide) k1 (fun _ h => h) (v := .int (σ 6 (ix n) 2)) rfl dX2_accept_27 ?_
    refine gx_aload_nO hx hb dX2_accept_30 rfl (lv_at hl 0 rfl) ?_
    refine gx_topV (grf_nn c_2) ?_
    refine gx_get hx hb hown hZ hG 7 (ix (xOff σ (ix n))) 1 (nn_lt v_off c_2 (hG.2.2.2 7)) rfl (by decide) k2 (fun _ h => h) (v := .int (σ 7 (ix (xOff σ (ix n))) 1)) rfl dX2_accept_31 ?_
    refine gx_cR (gx_runV (As := [.int (σ 6 (ix n) 2), .int (σ 7 (ix (xOff σ (ix n))) 1)]) (rest := []) ⟨hx, hb, hml, hown, hts⟩ (c_X2_wayBetween l g σ w (σ 6 (ix n) 2) (σ 7 (ix (xOff σ (ix n))) 1) hX) (cwV 2 hts gX2_accept_X2_wayBetween rfl rfl rfl (by decide +kernel) ⟨Nat.le_of_ble_eq_true rfl, Nat.le_of_ble_eq_true rfl⟩) (gx_obj hZ hG 0 0 hX.k0 rfl) hZ hG hS rfl hl.1 rfl (Nat.le_of_ble_eq_true rfl) dX2_accept_34 ⟨Nat.le_of_ble_eq_true rfl, Nat.le_of_ble_eq_true rfl⟩) ?_
    refine lv_istore (lv' := [(4, .int (xWay σ (σ 6 (ix n) 2) (σ 7 (ix (xOff σ (ix n))) 1))), (3, grf (gad g 7) (xOff σ (ix n))), (2, .ref (gad g 6 (ix n))), (0, .ref (gad g 0 0)), (1, .int (n))]) hx hb dX2_accept_37 hl (by decide) (by simp [grf_cat, List.filter]) (fun ls hl => ?_)
    refine lv_aload_n hx hb dX2_accept_39 rfl (lv_at hl 2 rfl) ?_
    refine lv_iconst (v := 2) hx hb dX2_accept_40 (by decide) ?_
    refine gx_put hx hb hown hZ hG hS 6 (ix n) 3 (2) hcn rfl (by decide) k3 (fun _ h => h) rfl rfl trivial rfl rfl dX2_accept_41 (fun H locs hG hS => ?_)
    have hX := hX.st (k := 6) (i := ix n) (f := 3) (v := 2) rfl
    refine lv_aload_n hx hb dX2_accept_44 rfl (lv_at hl 2 rfl) ?_
    refine lv_aload_n hx hb dX2_accept_45 rfl (lv_at hl 3 rfl) ?_
    refine gx_get hx hb hown hZ hG 0 0 3 hX.k0 rfl (by decide) k4 (fun _ h => h) (v := .int (σ 0 0 3)) (congrArg Value.int (by simp [gst_app])) dX2_accept_46 ?_
    refine lv_iload hx hb dX2_accept_49 (lv_at hl 0 rfl) ?_
    refine lv_iadd hx hb dX2_accept_51 ?_
    refine gx_aload_nO hx hb dX2_accept_52 rfl (lv_at hl 1 rfl) ?_
    refine gx_topV (grf_nn c_2) ?_
    refine gx_get hx hb hown hZ hG 7 (ix (xOff σ (ix n))) 4 (nn_lt v_off c_2 (hG.2.2.2 7)) rfl (by decide) k5 (fun _ h => h) (v := .int (σ 7 (ix (xOff σ (ix n))) 4)) (congrArg Value.int (by simp [gst_app])) dX2_accept_53 ?_
    refine va_mmax hx hb (hml.trans hl.1.symm) hown k6 k7 k8 k9 (Nat.le_of_ble_eq_true rfl) (Nat.le_of_ble_eq_true rfl) (Nat.le_of_ble_eq_true rfl) (Nat.le_of_ble_eq_true rfl) dX2_accept_56 ?_
    refine gx_put hx hb hown hZ hG hS 6 (ix n) 5 (if ((σ 0 0 3) + (xWay σ (σ 6 (ix n) 2) (σ 7 (ix (xOff σ (ix n))) 1))) < (σ 7 (ix (xOff σ (ix n))) 4) then (σ 7 (ix (xOff σ (ix n))) 4) else ((σ 0 0 3) + (xWay σ (σ 6 (ix n) 2) (σ 7 (ix (xOff σ (ix n))) 1)))) hcn rfl (by decide) k10 (fun _ h => h) rfl rfl trivial rfl rfl dX2_accept_59 (fun H locs hG hS => ?_)
    have hX := hX.st (k := 6) (i := ix n) (f := 5) (v := if ((σ 0 0 3) + (xWay σ (σ 6 (ix n) 2) (σ 7 (ix (xOff σ (ix n))) 1))) < (σ 7 (ix (xOff σ (ix n))) 4) then (σ 7 (ix (xOff σ (ix n))) 4) else ((σ 0 0 3) + (xWay σ (σ 6 (ix n) 2) (σ 7 (ix (xOff σ (ix n))) 1)))) rfl
    refine gx_aload_nO hx hb dX2_accept_62 rfl (lv_at hl 1 rfl) ?_
    refine lv_iconst (v := 2) hx hb dX2_accept_63 (by decide) ?_
    refine gx_topV2 (grf_nn c_2) ?_
    refine gx_put hx hb hown hZ hG hS 7 (ix (xOff σ (ix n))) 5 (2) (nn_lt v_off c_2 (hG.2.2.2 7)) rfl (by decide) k11 (fun _ h => h) rfl rfl trivial rfl rfl dX2_accept_64 (fun H locs hG hS => ?_)
    have hX := hX.st (k := 7) (i := ix (xOff σ (ix n))) (f := 5) (v := 2) rfl
    refine lv_aload_n hx hb dX2_accept_67 rfl (lv_at hl 3 rfl) ?_
    refine gx_cM (gx_runV (As := []) (rest := []) ⟨hx, hb, hml, hown, hts⟩ (c_X2_makeOffers l g (gst (gst (gst σ 6 (ix n) 3 2) 6 (ix n) 5 (if ((σ 0 0 3) + (xWay σ (σ 6 (ix n) 2) (σ 7 (ix (xOff σ (ix n))) 1))) < (σ 7 (ix (xOff σ (ix n))) 4) then (σ 7 (ix (xOff σ (ix n))) 4) else ((σ 0 0 3) + (xWay σ (σ 6 (ix n) 2) (σ 7 (ix (xOff σ (ix n))) 1))))) 7 (ix (xOff σ (ix n))) 5 2) w hX) (cwV 0 hts gX2_accept_X2_makeOffers rfl rfl rfl (by decide +kernel) ⟨Nat.le_of_ble_eq_true rfl, Nat.le_of_ble_eq_true rfl⟩) (gx_obj hZ hG 0 0 hX.k0 rfl) hZ hG hS rfl hl.1 rfl (Nat.le_of_ble_eq_true rfl) dX2_accept_68 ⟨Nat.le_of_ble_eq_true rfl, Nat.le_of_ble_eq_true rfl⟩) hS (fun H locs hG hS hsz => ?_)
    refine lv_iload hx hb dX2_accept_71 (lv_at hl 0 rfl) ?_
    exact gx_iretMx hx hb hr hlocks hG hS rfl rfl (by first | (simp only [xAcceptE, hD1, c_2, reduceIte, Bool.false_eq_true]; done) | simp [xAcceptE, hD1, c_2]) (Nat.le_of_ble_eq_true rfl) (Nat.le_of_ble_eq_true rfl) dX2_accept_73
  · skip
    exact gx_throw (text := "nothing is offered to the cab") hx hb hl0 hown hlocks hZ hS (hl.1.trans hml.symm) hnt hts (by decide +kernel) (by decide +kernel) (by decide +kernel) (by decide +kernel) (by decide +kernel) (by first | exact fun _ h => List.mem_cons_of_mem _ (List.mem_append_right _ h) | exact fun _ h => List.mem_cons_of_mem _ (List.mem_append_left _ (List.mem_append_right _ h)) | decide +kernel) zb_is zo_is dX2_accept_15 dX2_accept_18 dX2_accept_19 dX2_accept_21 dX2_accept_24 (Nat.le_of_ble_eq_true rfl) (Nat.le_of_ble_eq_true rfl) (Nat.le_of_ble_eq_true rfl) (Nat.le_of_ble_eq_true rfl) (fun _ _ => rfl) (Nat.le_refl _) ((Or.inr ⟨rfl, by first | (simp only [xAcceptE, hD1, c_2, reduceIte, Bool.false_eq_true]; done) | simp [xAcceptE, hD1, c_2]⟩)) (fun _ h => nomatch h) (Nat.le_of_ble_eq_true rfl) (Nat.le_of_ble_eq_true rfl)
set_option maxHeartbeats 4000000 in
set_option maxRecDepth 100000 in
theorem c_X2_refuse (l : Launch) (hl0 : l.stackTraces = false) (g : gG) (σ : Mem) (w : Int64) (n : Int32) (hX : Xok g σ) : vx_Met l yX2_refuse wsX2_refuse ({ frames := 7, cells := 2, slots := 12, locals := 137 } : Room) (gPc g σ w [.ref (gad g 0 0), .int (n)]) (gMx g g (xRefuse σ n) w (some (.int (xRefuse σ n 7 (ix (xOff σ (ix n))) 0))) (xAcceptE σ n = 0)) (gX (fun E => (E = "java/lang/IndexOutOfBoundsException" ∧ xAcceptE σ n = 1) ∨ (E = "java/lang/IllegalStateException" ∧ xAcceptE σ n = 2))) 2 12 (gA g) := by
  refine gx_xofW (cc := cX2_refuse) (maxL := 4) (ret := (some .int)) (by decide) rfl (Nat.le_of_ble_eq_true rfl) ?_
  intro p e s m below meth c0 hx hb hr hml hts hown hlocks hin hnt hG hZ hS ls hl
  have hown : s.vm.findClass RX2 = some m.cls := hown
  have hl : lv_has ls 4 [(0, .ref (gad g 0 0)), (1, .int (n))] := hl
  have k1 := hts (.fieldLink RX2 153 "TaxiRank$Order" "number" "I") (by decide +kernel)
  refine lv_aload_n hx hb dX2_refuse_0 rfl (lv_at hl 0 rfl) ?_
  refine lv_iload_n hx hb dX2_refuse_1 rfl (lv_at hl 1 rfl) ?_
  refine gx_cRx (gx_xrunV (As := [.int (n)]) (rest := []) ⟨hx, hb, hml, hown, hts⟩ (c_X2_cabNumbered l hl0 g σ w n hX) (cwV 1 hts gX2_refuse_X2_cabNumbered rfl rfl rfl (by decide +kernel) ⟨Nat.le_of_ble_eq_true rfl, Nat.le_of_ble_eq_true rfl⟩) (gx_obj hZ hG 0 0 hX.k0 rfl) hZ hG hS rfl hl.1 rfl (Nat.le_of_ble_eq_true rfl) dX2_refuse_2 ⟨Nat.le_of_ble_eq_true rfl, Nat.le_of_ble_eq_true rfl⟩) hG hS (fun E ce q9 H1 hPE hG hS hz1 hk1 hce hcv hcl => ?_) (fun hD1 => ?_)
  · skip
    exact gx_xout hnt hlocks ((Or.inl ⟨hPE.1, by first | (simp only [xAcceptE, hPE.2, reduceIte, Bool.false_eq_true]; done) | simp [xAcceptE, hPE.2]⟩)) hk1 hz1 hce hcv hcl (fun _ h => nomatch h) (Nat.le_of_ble_eq_true rfl) (Nat.le_of_ble_eq_true rfl)
  have hcn := (hX.okC hD1).1
  refine lv_astore_n (lv' := [(2, .ref (gad g 6 (ix n))), (0, .ref (gad g 0 0)), (1, .int (n))]) hx hb dX2_refuse_5 rfl hl (by decide) rfl (fun ls hl => ?_)
  refine lv_aload_n hx hb dX2_refuse_6 rfl (lv_at hl 0 rfl) ?_
  refine gx_cR (gx_runS (As := [.ref (gad g 6 (ix n))]) (rest := []) ⟨hx, hb, hml, hown, hts⟩ (c_X2_offeredTo l g σ w (ix n) hcn) (va_cwS 1 hts gX2_refuse_X2_offeredTo rfl rfl rfl (by decide +kernel) ⟨Nat.le_of_ble_eq_true rfl, Nat.le_of_ble_eq_true rfl⟩) hZ hG hS rfl hl.1 rfl (Nat.le_of_ble_eq_true rfl) dX2_refuse_7 ⟨Nat.le_of_ble_eq_true rfl, Nat.le_of_ble_eq_true rfl⟩) ?_
  have v_off := off_ok hG hcn
  refine gx_astore_nO (lv' := [(3, grf (gad g 7) (xOff σ (ix n))), (2, .ref (gad g 6 (ix n))), (0, .ref (gad g 0 0)), (1, .int (n))]) hx hb dX2_refuse_10 rfl hl (by decide) rfl (fun ls hl => ?_)
  refine gx_aload_nO hx hb dX2_refuse_11 rfl (lv_at hl 0 rfl) ?_
  refine gx_ifnonnull (tgt := 25) hx hb dX2_refuse_12 (by decide) (fun c_2 => ?_) (fun c_2 => ?_)
  · skip
    refine lv_aload_n hx hb dX2_refuse_25 rfl (lv_at hl 2 rfl) ?_
    refine lv_aload_n hx hb dX2_refuse_26 rfl (lv_at hl 1 rfl) ?_
    refine gx_cM (gx_runV (As := [.ref (gad g 6 (ix n))]) (rest := []) ⟨hx, hb, hml, hown, hts⟩ (c_X2_turnDown l g σ w (ix n) hX hcn) (cwV 1 hts gX2_refuse_X2_turnDown rfl rfl rfl (by decide +kernel) ⟨Nat.le_of_ble_eq_true rfl, Nat.le_of_ble_eq_true rfl⟩) (gx_obj hZ hG 0 0 hX.k0 rfl) hZ hG hS rfl hl.1 rfl (Nat.le_of_ble_eq_true rfl) dX2_refuse_27 ⟨Nat.le_of_ble_eq_true rfl, Nat.le_of_ble_eq_true rfl⟩) hS (fun H locs hG hS hsz => ?_)
    have hX := hX.turn (c := ix n)
    refine lv_aload_n hx hb dX2_refuse_30 rfl (lv_at hl 2 rfl) ?_
    refine gx_cM (gx_runV (As := []) (rest := []) ⟨hx, hb, hml, hown, hts⟩ (c_X2_makeOffers l g (xTurn σ (ix n)) w hX) (cwV 0 hts gX2_refuse_X2_makeOffers rfl rfl rfl (by decide +kernel) ⟨Nat.le_of_ble_eq_true rfl, Nat.le_of_ble_eq_true rfl⟩) (gx_obj hZ hG 0 0 hX.k0 rfl) hZ hG hS rfl hl.1 rfl (Nat.le_of_ble_eq_true rfl) dX2_refuse_31 ⟨Nat.le_of_ble_eq_true rfl, Nat.le_of_ble_eq_true rfl⟩) hS (fun H locs hG hS hsz => ?_)
    refine gx_aload_nO hx hb dX2_refuse_34 rfl (lv_at hl 0 rfl) ?_
    refine gx_topV (grf_nn c_2) ?_
    refine gx_get hx hb hown hZ hG 7 (ix (xOff σ (ix n))) 0 (nn_lt v_off c_2 (hG.2.2.2 7)) rfl (by decide) k1 (fun _ h => h) (v := .int ((xMo (xTurn σ (ix n))) 7 (ix (xOff σ (ix n))) 0)) rfl dX2_refuse_35 ?_
    exact gx_iretMx hx hb hr hlocks hG hS rfl rfl (by first | (simp only [xAcceptE, hD1, c_2, reduceIte, Bool.false_eq_true]; done) | simp [xAcceptE, hD1, c_2]) (Nat.le_of_ble_eq_true rfl) (Nat.le_of_ble_eq_true rfl) dX2_refuse_38
  · skip
    exact gx_throw (text := "nothing is offered to the cab") hx hb hl0 hown hlocks hZ hS (hl.1.trans hml.symm) hnt hts (by decide +kernel) (by decide +kernel) (by decide +kernel) (by decide +kernel) (by decide +kernel) (by first | exact fun _ h => List.mem_cons_of_mem _ (List.mem_append_right _ h) | exact fun _ h => List.mem_cons_of_mem _ (List.mem_append_left _ (List.mem_append_right _ h)) | decide +kernel) zb_is zo_is dX2_refuse_15 dX2_refuse_18 dX2_refuse_19 dX2_refuse_21 dX2_refuse_24 (Nat.le_of_ble_eq_true rfl) (Nat.le_of_ble_eq_true rfl) (Nat.le_of_ble_eq_true rfl) (Nat.le_of_ble_eq_true rfl) (fun _ _ => rfl) (Nat.le_refl _) ((Or.inr ⟨rfl, by first | (simp only [xAcceptE, hD1, c_2, reduceIte, Bool.false_eq_true]; done) | simp [xAcceptE, hD1, c_2]⟩)) (fun _ h => nomatch h) (Nat.le_of_ble_eq_true rfl) (Nat.le_of_ble_eq_true rfl)
set_option maxHeartbeats 4000000 in
set_option maxRecDepth 100000 in
theorem c_X2_cancel (l : Launch) (hl0 : l.stackTraces = false) (g : gG) (σ : Mem) (w : Int64) (n : Int32) (hX : Xok g σ) : vx_Met l yX2_cancel wsX2_cancel ({ frames := 7, cells := 2, slots := 12, locals := 137 } : Room) (gPc g σ w [.ref (gad g 0 0), .int (n)]) (gMx g g (xCancel σ n) w (some (.int (σ 7 (ix n) 5))) (xCancelE σ n = 0)) (gX (fun E => (E = "java/lang/IndexOutOfBoundsException" ∧ xCancelE σ n = 1) ∨ (E = "java/lang/IllegalStateException" ∧ xCancelE σ n = 2))) 2 12 (gA g) := by
  refine gx_xofW (cc := cX2_cancel) (maxL := 4) (ret := (some .int)) (by decide) rfl (Nat.le_of_ble_eq_true rfl) ?_
  intro p e s m below meth c0 hx hb hr hml hts hown hlocks hin hnt hG hZ hS ls hl
  have hown : s.vm.findClass RX2 = some m.cls := hown
  have hl : lv_has ls 4 [(0, .ref (gad g 0 0)), (1, .int (n))] := hl
  have k1 := hts (.fieldLink RX2 152 "TaxiRank$Order" "state" "I") (by decide +kernel)
  refine lv_aload_n hx hb dX2_cancel_0 rfl (lv_at hl 0 rfl) ?_
  refine lv_iload_n hx hb dX2_cancel_1 rfl (lv_at hl 1 rfl) ?_
  refine gx_cRx (gx_xrunV (As := [.int (n)]) (rest := []) ⟨hx, hb, hml, hown, hts⟩ (c_X2_orderNumbered l hl0 g σ w n hX) (cwV 1 hts gX2_cancel_X2_orderNumbered rfl rfl rfl (by decide +kernel) ⟨Nat.le_of_ble_eq_true rfl, Nat.le_of_ble_eq_true rfl⟩) (gx_obj hZ hG 0 0 hX.k0 rfl) hZ hG hS rfl hl.1 rfl (Nat.le_of_ble_eq_true rfl) dX2_cancel_2 ⟨Nat.le_of_ble_eq_true rfl, Nat.le_of_ble_eq_true rfl⟩) hG hS (fun E ce q9 H1 hPE hG hS hz1 hk1 hce hcv hcl => ?_) (fun hD1 => ?_)
  · skip
    exact gx_xout hnt hlocks ((Or.inl ⟨hPE.1, by first | (simp only [xCancelE, hPE.2, reduceIte, Bool.false_eq_true]; done) | simp [xCancelE, hPE.2]⟩)) hk1 hz1 hce hcv hcl (fun _ h => nomatch h) (Nat.le_of_ble_eq_true rfl) (Nat.le_of_ble_eq_true rfl)
  have hcn := (hX.okO hD1).1
  refine lv_astore_n (lv' := [(2, .ref (gad g 7 (ix n))), (0, .ref (gad g 0 0)), (1, .int (n))]) hx hb dX2_cancel_5 rfl hl (by decide) rfl (fun ls hl => ?_)
  refine lv_aload_n hx hb dX2_cancel_6 rfl (lv_at hl 0 rfl) ?_
  refine gx_get hx hb hown hZ hG 7 (ix n) 5 hcn rfl (by decide) k1 (fun _ h => h) (v := .int (σ 7 (ix n) 5)) rfl dX2_cancel_7 ?_
  refine lv_istore_n (lv' := [(3, .int (σ 7 (ix n) 5)), (2, .ref (gad g 7 (ix n))), (0, .ref (gad g 0 0)), (1, .int (n))]) hx hb dX2_cancel_10 rfl hl (by decide) rfl (fun ls hl => ?_)
  refine lv_iload_n hx hb dX2_cancel_11 rfl (lv_at hl 0 rfl) ?_
  refine lv_if_eq (tgt := 35) hx hb dX2_cancel_12 (by decide) (fun c_2 => ?_) (fun c_2 => ?_)
  · skip
    refine lv_aload_n hx hb dX2_cancel_35 rfl (lv_at hl 2 rfl) ?_
    refine lv_aload_n hx hb dX2_cancel_36 rfl (lv_at hl 1 rfl) ?_
    refine gx_cM (gx_runV (As := [.ref (gad g 7 (ix n))]) (rest := []) ⟨hx, hb, hml, hown, hts⟩ (c_X2_releaseCab l g σ w (ix n) hX hcn) (cwV 1 hts gX2_cancel_X2_releaseCab rfl rfl rfl (by decide +kernel) ⟨Nat.le_of_ble_eq_true rfl, Nat.le_of_ble_eq_true rfl⟩) (gx_obj hZ hG 0 0 hX.k0 rfl) hZ hG hS rfl hl.1 rfl (Nat.le_of_ble_eq_true rfl) dX2_cancel_37 ⟨Nat.le_of_ble_eq_true rfl, Nat.le_of_ble_eq_true rfl⟩) hS (fun H locs hG hS hsz => ?_)
    have hX := hX.rel (o := ix n)
    refine lv_aload_n hx hb dX2_cancel_40 rfl (lv_at hl 1 rfl) ?_
    refine lv_iconst (v := 5) hx hb dX2_cancel_41 (by decide) ?_
    refine gx_put hx hb hown hZ hG hS 7 (ix n) 5 (5) hcn rfl (by decide) k1 (fun _ h => h) rfl rfl trivial rfl rfl dX2_cancel_42 (fun H locs hG hS => ?_)
    have hX := hX.st (k := 7) (i := ix n) (f := 5) (v := 5) rfl
    refine lv_aload_n hx hb dX2_cancel_45 rfl (lv_at hl 2 rfl) ?_
    refine gx_cM (gx_runV (As := []) (rest := []) ⟨hx, hb, hml, hown, hts⟩ (c_X2_makeOffers l g (gst (xRel σ (ix n)) 7 (ix n) 5 5) w hX) (cwV 0 hts gX2_cancel_X2_makeOffers rfl rfl rfl (by decide +kernel) ⟨Nat.le_of_ble_eq_true rfl, Nat.le_of_ble_eq_true rfl⟩) (gx_obj hZ hG 0 0 hX.k0 rfl) hZ hG hS rfl hl.1 rfl (Nat.le_of_ble_eq_true rfl) dX2_cancel_46 ⟨Nat.le_of_ble_eq_true rfl, Nat.le_of_ble_eq_true rfl⟩) hS (fun H locs hG hS hsz => ?_)
    refine lv_iload_n hx hb dX2_cancel_49 rfl (lv_at hl 0 rfl) ?_
    exact gx_iretMx hx hb hr hlocks hG hS rfl rfl (by first | (simp only [xCancelE, hD1, c_2, reduceIte, Bool.false_eq_true]; done) | simp [xCancelE, hD1, c_2]) (Nat.le_of_ble_eq_true rfl) (Nat.le_of_ble_eq_true rfl) dX2_cancel_50
  · skip
    refine lv_iload_n hx hb dX2_cancel_15 rfl (lv_at hl 0 rfl) ?_
    refine lv_iconst (v := 1) hx hb dX2_cancel_16 (by decide) ?_
    refine lv_icmp_eq (tgt := 35) hx hb dX2_cancel_17 (by decide) (fun c_3 => ?_) (fun c_3 => ?_)
    · skip
      refine lv_aload_n hx hb dX2_cancel_35 rfl (lv_at hl 2 rfl) ?_
      refine lv_aload_n hx hb dX2_cancel_36 rfl (lv_at hl 1 rfl) ?_
      refine gx_cM (gx_runV (As := [.ref (gad g 7 (ix n))]) (rest := []) ⟨hx, hb, hml, hown, hts⟩ (c_X2_releaseCab l g σ w (ix n) hX hcn) (cwV 1 hts gX2_cancel_X2_releaseCab rfl rfl rfl (by decide +kernel) ⟨Nat.le_of_ble_eq_true rfl, Nat.le_of_ble_eq_true rfl⟩) (gx_obj hZ hG 0 0 hX.k0 rfl) hZ hG hS rfl hl.1 rfl (Nat.le_of_ble_eq_true rfl) dX2_cancel_37 ⟨Nat.le_of_ble_eq_true rfl, Nat.le_of_ble_eq_true rfl⟩) hS (fun H locs hG hS hsz => ?_)
      have hX := hX.rel (o := ix n)
      refine lv_aload_n hx hb dX2_cancel_40 rfl (lv_at hl 1 rfl) ?_
      refine lv_iconst (v := 5) hx hb dX2_cancel_41 (by decide) ?_
      refine gx_put hx hb hown hZ hG hS 7 (ix n) 5 (5) hcn rfl (by decide) k1 (fun _ h => h) rfl rfl trivial rfl rfl dX2_cancel_42 (fun H locs hG hS => ?_)
      have hX := hX.st (k := 7) (i := ix n) (f := 5) (v := 5) rfl
      refine lv_aload_n hx hb dX2_cancel_45 rfl (lv_at hl 2 rfl) ?_
      refine gx_cM (gx_runV (As := []) (rest := []) ⟨hx, hb, hml, hown, hts⟩ (c_X2_makeOffers l g (gst (xRel σ (ix n)) 7 (ix n) 5 5) w hX) (cwV 0 hts gX2_cancel_X2_makeOffers rfl rfl rfl (by decide +kernel) ⟨Nat.le_of_ble_eq_true rfl, Nat.le_of_ble_eq_true rfl⟩) (gx_obj hZ hG 0 0 hX.k0 rfl) hZ hG hS rfl hl.1 rfl (Nat.le_of_ble_eq_true rfl) dX2_cancel_46 ⟨Nat.le_of_ble_eq_true rfl, Nat.le_of_ble_eq_true rfl⟩) hS (fun H locs hG hS hsz => ?_)
      refine lv_iload_n hx hb dX2_cancel_49 rfl (lv_at hl 0 rfl) ?_
      exact gx_iretMx hx hb hr hlocks hG hS rfl rfl (by first | (simp only [xCancelE, hD1, c_2, c_3, reduceIte, Bool.false_eq_true]; done) | simp [xCancelE, hD1, c_2, c_3]) (Nat.le_of_ble_eq_true rfl) (Nat.le_of_ble_eq_true rfl) dX2_cancel_50
    · skip
      refine lv_iload_n hx hb dX2_cancel_20 rfl (lv_at hl 0 rfl) ?_
      refine lv_iconst (v := 2) hx hb dX2_cancel_21 (by decide) ?_
      refine lv_icmp_eq (tgt := 35) hx hb dX2_cancel_22 (by decide) (fun c_4 => ?_) (fun c_4 => ?_)
      · skip
        refine lv_aload_n hx hb dX2_cancel_35 rfl (lv_at hl 2 rfl) ?_
        refine lv_aload_n hx hb dX2_cancel_36 rfl (lv_at hl 1 rfl) ?_
        refine gx_cM (gx_runV (As := [.ref (gad g 7 (ix n))]) (rest := []) ⟨hx, hb, hml, hown, hts⟩ (c_X2_releaseCab l g σ w (ix n) hX hcn) (cwV 1 hts gX2_cancel_X2_releaseCab rfl rfl rfl (by decide +kernel) ⟨Nat.le_of_ble_eq_true rfl, Nat.le_of_ble_eq_true rfl⟩) (gx_obj hZ hG 0 0 hX.k0 rfl) hZ hG hS rfl hl.1 rfl (Nat.le_of_ble_eq_true rfl) dX2_cancel_37 ⟨Nat.le_of_ble_eq_true rfl, Nat.le_of_ble_eq_true rfl⟩) hS (fun H locs hG hS hsz => ?_)
        have hX := hX.rel (o := ix n)
        refine lv_aload_n hx hb dX2_cancel_40 rfl (lv_at hl 1 rfl) ?_
        refine lv_iconst (v := 5) hx hb dX2_cancel_41 (by decide) ?_
        refine gx_put hx hb hown hZ hG hS 7 (ix n) 5 (5) hcn rfl (by decide) k1 (fun _ h => h) rfl rfl trivial rfl rfl dX2_cancel_42 (fun H locs hG hS => ?_)
        have hX := hX.st (k := 7) (i := ix n) (f := 5) (v := 5) rfl
        refine lv_aload_n hx hb dX2_cancel_45 rfl (lv_at hl 2 rfl) ?_
        refine gx_cM (gx_runV (As := []) (rest := []) ⟨hx, hb, hml, hown, hts⟩ (c_X2_makeOffers l g (gst (xRel σ (ix n)) 7 (ix n) 5 5) w hX) (cwV 0 hts gX2_cancel_X2_makeOffers rfl rfl rfl (by decide +kernel) ⟨Nat.le_of_ble_eq_true rfl, Nat.le_of_ble_eq_true rfl⟩) (gx_obj hZ hG 0 0 hX.k0 rfl) hZ hG hS rfl hl.1 rfl (Nat.le_of_ble_eq_true rfl) dX2_cancel_46 ⟨Nat.le_of_ble_eq_true rfl, Nat.le_of_ble_eq_true rfl⟩) hS (fun H locs hG hS hsz => ?_)
        refine lv_iload_n hx hb dX2_cancel_49 rfl (lv_at hl 0 rfl) ?_
        exact gx_iretMx hx hb hr hlocks hG hS rfl rfl (by first | (simp only [xCancelE, hD1, c_2, c_3, c_4, reduceIte, Bool.false_eq_true]; done) | simp [xCancelE, hD1, c_2, c_3, c_4]) (Nat.le_of_ble_eq_true rfl) (Nat.le_of_ble_eq_true rfl) dX2_cancel_50
      · skip
        exact gx_throw (text := "the order is RIDING, DONE or CANCELLED") hx hb hl0 hown hlocks hZ hS (hl.1.trans hml.symm) hnt hts (by decide +kernel) (by decide +kernel) (by decide +kernel) (by decide +kernel) (by decide +kernel) (by first | exact fun _ h => List.mem_cons_of_mem _ (List.mem_append_right _ h) | exact fun _ h => List.mem_cons_of_mem _ (List.mem_append_left _ (List.mem_append_right _ h)) | decide +kernel) zb_is zo_is dX2_cancel_25 dX2_cancel_28 dX2_cancel_29 dX2_cancel_31 dX2_cancel_34 (Nat.le_of_ble_eq_true rfl) (Nat.le_of_ble_eq_true rfl) (Nat.le_of_ble_eq_true rfl) (Nat.le_of_ble_eq_true rfl) (fun _ _ => rfl) (Nat.le_refl _) ((Or.inr ⟨rfl, by first | (simp only [xCancelE, hD1, c_2, c_3, c_4, reduceIte, Bool.false_eq_true]; done) | simp [xCancelE, hD1, c_2, c_3, c_4]⟩)) (fun _ h => nomatch h) (Nat.le_of_ble_eq_true rfl) (Nat.le_of_ble_eq_true rfl)
set_option maxHeartbeats 4000000 in
set_option maxRecDepth 100000 in
theorem c_X2_told (l : Launch) (hl0 : l.stackTraces = false) (g : gG) (σ : Mem) (w : Int64) (n x : Int32) (hX : Xok g σ) : vx_Met l yX2_told wsX2_told ({ frames := 7, cells := 2, slots := 12, locals := 113 } : Room) (gPc g σ w [.ref (gad g 0 0), .int (n), .int (x)]) (gRx (.int (xOrdDet σ (ix n) x)) (xToldE σ n x = 0)) (gX (fun E => (E = "java/lang/IndexOutOfBoundsException" ∧ xToldE σ n x = 1))) 2 12 (fun _ => False) := by
  refine gx_xofW (cc := cX2_told) (maxL := 4) (ret := (some .int)) (by decide) rfl (Nat.le_of_ble_eq_true rfl) ?_
  intro p e s m below meth c0 hx hb hr hml hts hown hlocks hin hnt hG hZ hS ls hl
  have hown : s.vm.findClass RX2 = some m.cls := hown
  have hl : lv_has ls 4 [(0, .ref (gad g 0 0)), (1, .int (n)), (2, .int (x))] := hl
  refine lv_aload_n hx hb dX2_told_0 rfl (lv_at hl 0 rfl) ?_
  refine lv_iload_n hx hb dX2_told_1 rfl (lv_at hl 1 rfl) ?_
  refine gx_cRx (gx_xrunV (As := [.int (n)]) (rest := []) ⟨hx, hb, hml, hown, hts⟩ (c_X2_orderNumbered l hl0 g σ w n hX) (cwV 1 hts gX2_told_X2_orderNumbered rfl rfl rfl (by decide +kernel) ⟨Nat.le_of_ble_eq_true rfl, Nat.le_of_ble_eq_true rfl⟩) (gx_obj hZ hG 0 0 hX.k0 rfl) hZ hG hS rfl hl.1 rfl (Nat.le_of_ble_eq_true rfl) dX2_told_2 ⟨Nat.le_of_ble_eq_true rfl, Nat.le_of_ble_eq_true rfl⟩) hG hS (fun E ce q9 H1 hPE hG hS hz1 hk1 hce hcv hcl => ?_) (fun hD1 => ?_)
  · skip
    exact gx_xout hnt hlocks (⟨hPE.1, by first | (simp only [xToldE, hPE.2, reduceIte, Bool.false_eq_true]; done) | simp [xToldE, hPE.2]⟩) hk1 hz1 hce hcv hcl (fun _ h => nomatch h) (Nat.le_of_ble_eq_true rfl) (Nat.le_of_ble_eq_true rfl)
  have hcn := (hX.okO hD1).1
  refine lv_astore_n (lv' := [(3, .ref (gad g 7 (ix n))), (0, .ref (gad g 0 0)), (1, .int (n)), (2, .int (x))]) hx hb dX2_told_5 rfl hl (by decide) rfl (fun ls hl => ?_)
  refine lv_iload_n hx hb dX2_told_6 rfl (lv_at hl 3 rfl) ?_
  refine lv_if_lt (tgt := 15) hx hb dX2_told_7 (by decide) (fun c_2 => ?_) (fun c_2 => ?_)
  · skip
    exact gx_throw (text := "what is not 0 to 4") hx hb hl0 hown hlocks hZ hS (hl.1.trans hml.symm) hnt hts (by decide +kernel) (by decide +kernel) (by decide +kernel) (by decide +kernel) (by decide +kernel) (by first | exact fun _ h => List.mem_cons_of_mem _ (List.mem_append_right _ h) | exact fun _ h => List.mem_cons_of_mem _ (List.mem_append_left _ (List.mem_append_right _ h)) | decide +kernel) zb_io zo_io dX2_told_15 dX2_told_18 dX2_told_19 dX2_told_21 dX2_told_24 (Nat.le_of_ble_eq_true rfl) (Nat.le_of_ble_eq_true rfl) (Nat.le_of_ble_eq_true rfl) (Nat.le_of_ble_eq_true rfl) (fun _ _ => rfl) (Nat.le_refl _) (⟨rfl, by first | (simp only [xToldE, hD1, c_2, reduceIte, Bool.false_eq_true]; done) | simp [xToldE, hD1, c_2]⟩) (fun _ h => nomatch h) (Nat.le_of_ble_eq_true rfl) (Nat.le_of_ble_eq_true rfl)
  · skip
    refine lv_iload_n hx hb dX2_told_10 rfl (lv_at hl 3 rfl) ?_
    refine lv_iconst (v := 5) hx hb dX2_told_11 (by decide) ?_
    refine lv_icmp_lt (tgt := 25) hx hb dX2_told_12 (by decide) (fun c_3 => ?_) (fun c_3 => ?_)
    · skip
      refine lv_aload_n hx hb dX2_told_25 rfl (lv_at hl 0 rfl) ?_
      refine lv_iload_n hx hb dX2_told_26 rfl (lv_at hl 3 rfl) ?_
      refine gx_cR (gx_runS (As := [.ref (gad g 7 (ix n)), .int (x)]) (rest := []) ⟨hx, hb, hml, hown, hts⟩ (c_X2_orderDetail l g σ w (ix n) x hcn) (va_cwS 2 hts gX2_told_X2_orderDetail rfl rfl rfl (by decide +kernel) ⟨Nat.le_of_ble_eq_true rfl, Nat.le_of_ble_eq_true rfl⟩) hZ hG hS rfl hl.1 rfl (Nat.le_of_ble_eq_true rfl) dX2_told_27 ⟨Nat.le_of_ble_eq_true rfl, Nat.le_of_ble_eq_true rfl⟩) ?_
      exact gx_iretRx hx hb hr hlocks rfl (by first | (simp only [xToldE, hD1, c_2, c_3, reduceIte, Bool.false_eq_true]; done) | simp [xToldE, hD1, c_2, c_3]) (Nat.le_of_ble_eq_true rfl) (Nat.le_of_ble_eq_true rfl) dX2_told_30
    · skip
      exact gx_throw (text := "what is not 0 to 4") hx hb hl0 hown hlocks hZ hS (hl.1.trans hml.symm) hnt hts (by decide +kernel) (by decide +kernel) (by decide +kernel) (by decide +kernel) (by decide +kernel) (by first | exact fun _ h => List.mem_cons_of_mem _ (List.mem_append_right _ h) | exact fun _ h => List.mem_cons_of_mem _ (List.mem_append_left _ (List.mem_append_right _ h)) | decide +kernel) zb_io zo_io dX2_told_15 dX2_told_18 dX2_told_19 dX2_told_21 dX2_told_24 (Nat.le_of_ble_eq_true rfl) (Nat.le_of_ble_eq_true rfl) (Nat.le_of_ble_eq_true rfl) (Nat.le_of_ble_eq_true rfl) (fun _ _ => rfl) (Nat.le_refl _) (⟨rfl, by first | (simp only [xToldE, hD1, c_2, c_3, reduceIte, Bool.false_eq_true]; done) | simp [xToldE, hD1, c_2, c_3]⟩) (fun _ h => nomatch h) (Nat.le_of_ble_eq_true rfl) (Nat.le_of_ble_eq_true rfl)
set_option maxHeartbeats 4000000 in
set_option maxRecDepth 100000 in
theorem c_X2_tick (l : Launch) (hl0 : l.stackTraces = false) (g : gG) (σ : Mem) (w : Int64) (n : Int32) (hX : Xok g σ) : vx_Met l yX2_tick wsX2_tick ({ frames := 7, cells := 1, slots := 6, locals := 158 } : Room) (gPc g σ w [.ref (gad g 0 0), .int (n)]) (gMx g g ((xTick σ n).2) w (some (.int (xTick σ n).1)) (xTickE σ n = 0)) (gX (fun E => (E = "java/lang/IllegalArgumentException" ∧ xTickE σ n = 1))) 1 6 (gA g) := by
  refine gx_xofW (cc := cX2_tick) (maxL := 4) (ret := (some .int)) (by decide) rfl (Nat.le_of_ble_eq_true rfl) ?_
  intro p e s m below meth c0 hx hb hr hml hts hown hlocks hin hnt hG hZ hS ls hl
  have hown : s.vm.findClass RX2 = some m.cls := hown
  have hl : lv_has ls 4 [(0, .ref (gad g 0 0)), (1, .int (n))] := hl
  have k1 := hts (.fieldLink RX2 120 "TaxiRank" "time" "I") (by decide +kernel)
  refine lv_iload_n hx hb dX2_tick_0 rfl (lv_at hl 1 rfl) ?_
  refine lv_iconst (v := 1) hx hb dX2_tick_1 (by decide) ?_
  refine lv_icmp_lt (tgt := 12) hx hb dX2_tick_2 (by decide) (fun c_1 => ?_) (fun c_1 => ?_)
  · skip
    exact gx_throw (text := "minutes is not 1 to 300") hx hb hl0 hown hlocks hZ hS (hl.1.trans hml.symm) hnt hts (by decide +kernel) (by decide +kernel) (by decide +kernel) (by decide +kernel) (by decide +kernel) (by first | exact fun _ h => List.mem_cons_of_mem _ (List.mem_append_right _ h) | exact fun _ h => List.mem_cons_of_mem _ (List.mem_append_left _ (List.mem_append_right _ h)) | decide +kernel) zb_ia zo_ia dX2_tick_12 dX2_tick_15 dX2_tick_16 dX2_tick_18 dX2_tick_21 (Nat.le_of_ble_eq_true rfl) (Nat.le_of_ble_eq_true rfl) (Nat.le_of_ble_eq_true rfl) (Nat.le_of_ble_eq_true rfl) (fun _ _ => rfl) (Nat.le_refl _) (⟨rfl, by first | (simp only [xTickE, c_1, reduceIte, Bool.false_eq_true]; done) | simp [xTickE, c_1]⟩) (fun _ h => nomatch h) (Nat.le_of_ble_eq_true rfl) (Nat.le_of_ble_eq_true rfl)
  · skip
    refine lv_iload_n hx hb dX2_tick_5 rfl (lv_at hl 1 rfl) ?_
    refine lv_sipush (v := 300) hx hb dX2_tick_6 (by decide) ?_
    refine lv_icmp_le (tgt := 22) hx hb dX2_tick_9 (by decide) (fun c_2 => ?_) (fun c_2 => ?_)
    · skip
      refine lv_iload_n hx hb dX2_tick_22 rfl (lv_at hl 1 rfl) ?_
      refine lv_sipush (v := 9999) hx hb dX2_tick_23 (by decide) ?_
      refine lv_aload_n hx hb dX2_tick_26 rfl (lv_at hl 0 rfl) ?_
      refine gx_get hx hb hown hZ hG 0 0 3 hX.k0 rfl (by decide) k1 (fun _ h => h) (v := .int (σ 0 0 3)) rfl dX2_tick_27 ?_
      refine lv_isub hx hb dX2_tick_30 ?_
      refine lv_icmp_le (tgt := 44) hx hb dX2_tick_31 (by decide) (fun c_3 => ?_) (fun c_3 => ?_)
      · skip
        have hD9 : xTickE σ n = 0 := by simp [xTickE, c_1, c_2, c_3]
        obtain ⟨hn1, hn2⟩ := tick_n c_1 c_2
        refine lv_iconst (v := 0) hx hb dX2_tick_44 (by decide) ?_
        refine lv_istore_n (lv' := [(2, .int (0)), (0, .ref (gad g 0 0)), (1, .int (n))]) hx hb dX2_tick_45 rfl hl (by decide) rfl (fun ls hl => ?_)
        refine lv_iconst (v := 0) hx hb dX2_tick_46 (by decide) ?_
        refine lv_istore_n (lv' := [(3, .int (0)), (2, .int (0)), (0, .ref (gad g 0 0)), (1, .int (n))]) hx hb dX2_tick_47 rfl hl (by decide) rfl (fun ls hl => ?_)
        have loop_48 : ∀ (nf : Nat) (r : Nat) (k : Nat) (acc : Int32) (σ1 : Mem), r < nf → (k + r = ix n) → (Xok g σ1) → (xTickGo r acc σ1 = xTick σ n) → ∀ (H : Heap) (locs : List Loc), GW g σ1 w H → va_S (gA g) s.heap H locs → ∀ ls : Array Slot, lv_has ls 4 [(0, .ref (gad g 0 0)), (1, .int (n)), (2, .int (acc)), (3, .int (nI k))] → W p l e ({ frames := 7, cells := 1, slots := 6, locals := 158 } : Room) s m ([.ref (gad g 0 0), .int (n)] : List Value).toArray below meth c0 H locs 0 0 (vx_MQ below (gMx g g ((xTick σ n).2) w (some (.int (xTick σ n).1)) (xTickE σ n = 0)) (gX (fun E => (E = "java/lang/IllegalArgumentException" ∧ xTickE σ n = 1))) ([.ref (gad g 0 0), .int (n)] : List Value).toArray s 1 6 (gA g)) (F0 m 48 ls []) := by
          intro nf
          induction nf with
          | zero => intro r k acc σ1 hn; exact absurd hn (Nat.not_lt_zero _)
          | succ nf ih =>
            intro r k acc σ1 hn hk hX hres H locs hG hS ls hl
            refine lv_iload_n hx hb dX2_tick_48 rfl (lv_at hl 3 rfl) ?_
            refine lv_iload_n hx hb dX2_tick_49 rfl (lv_at hl 1 rfl) ?_
            refine lv_icmp_ge (tgt := 66) hx hb dX2_tick_50 (by decide) (fun c_4 => ?_) (fun c_4 => ?_)
            · skip
              rw [hn1] at c_4
              have hge := le_of_nIle c_4 (by omega) (by omega)
              obtain rfl : r = 0 := by omega
              refine lv_iload_n hx hb dX2_tick_66 rfl (lv_at hl 2 rfl) ?_
              exact gx_iretMx hx hb hr hlocks hG hS (by rw [← hres]; rfl) (by rw [← hres]; rfl) hD9 (Nat.le_of_ble_eq_true rfl) (Nat.le_of_ble_eq_true rfl) dX2_tick_67
            · skip
              rw [hn1] at c_4
              have hkc := lt_of_nle c_4 (by omega)
              obtain ⟨r, rfl⟩ : ∃ q, r = q + 1 := ⟨r - 1, by omega⟩
              refine lv_iload_n hx hb dX2_tick_53 rfl (lv_at hl 2 rfl) ?_
              refine lv_aload_n hx hb dX2_tick_54 rfl (lv_at hl 0 rfl) ?_
              refine gx_cM (gx_runV (As := []) (rest := [.int (acc)]) ⟨hx, hb, hml, hown, hts⟩ (c_X2_passMinute l g σ1 w hX) (cwV 0 hts gX2_tick_X2_passMinute rfl rfl rfl (by decide +kernel) ⟨Nat.le_of_ble_eq_true rfl, Nat.le_of_ble_eq_true rfl⟩) (gx_obj hZ hG 0 0 hX.k0 rfl) hZ hG hS rfl hl.1 rfl (Nat.le_of_ble_eq_true rfl) dX2_tick_55 ⟨Nat.le_of_ble_eq_true rfl, Nat.le_of_ble_eq_true rfl⟩) hS (fun H locs hG hS hsz => ?_)
              have hX := hX.pm
              refine lv_iadd hx hb dX2_tick_58 ?_
              refine lv_istore_n (lv' := [(2, .int (acc + ((xPm σ1).1))), (0, .ref (gad g 0 0)), (1, .int (n)), (3, .int (nI k))]) hx hb dX2_tick_59 rfl hl (by decide) rfl (fun ls hl => ?_)
              refine lv_iinc (v := nI (k + 1)) (lv' := [(3, .int (nI (k + 1))), (2, .int (acc + ((xPm σ1).1))), (0, .ref (gad g 0 0)), (1, .int (n))]) hx hb dX2_tick_60 hl (k := 3) rfl (nI_1 _) (by decide) rfl (fun ls hl => ?_)
              refine lv_goto (tgt := 48) hx hb dX2_tick_63 (by decide) ?_
              exact ih r (k + 1) (acc + ((xPm σ1).1)) ((xPm σ1).2) (by omega) (by omega) hX (by rw [← hres]; rfl) H locs hG hS ls (lv_sub hl [2, 3, 1, 0] rfl)
        exact loop_48 (ix n + 1) (ix n) 0 0 σ (by omega) (by omega) hX rfl _ _ hG hS ls (lv_sub hl [2, 3, 1, 0] rfl)
      · skip
        exact gx_throw (text := "the time would be greater than 9999") hx hb hl0 hown hlocks hZ hS (hl.1.trans hml.symm) hnt hts (by decide +kernel) (by decide +kernel) (by decide +kernel) (by decide +kernel) (by decide +kernel) (by first | exact fun _ h => List.mem_cons_of_mem _ (List.mem_append_right _ h) | exact fun _ h => List.mem_cons_of_mem _ (List.mem_append_left _ (List.mem_append_right _ h)) | decide +kernel) zb_ia zo_ia dX2_tick_34 dX2_tick_37 dX2_tick_38 dX2_tick_40 dX2_tick_43 (Nat.le_of_ble_eq_true rfl) (Nat.le_of_ble_eq_true rfl) (Nat.le_of_ble_eq_true rfl) (Nat.le_of_ble_eq_true rfl) (fun _ _ => rfl) (Nat.le_refl _) (⟨rfl, by first | (simp only [xTickE, c_1, c_2, c_3, reduceIte, Bool.false_eq_true]; done) | simp [xTickE, c_1, c_2, c_3]⟩) (fun _ h => nomatch h) (Nat.le_of_ble_eq_true rfl) (Nat.le_of_ble_eq_true rfl)
    · skip
      exact gx_throw (text := "minutes is not 1 to 300") hx hb hl0 hown hlocks hZ hS (hl.1.trans hml.symm) hnt hts (by decide +kernel) (by decide +kernel) (by decide +kernel) (by decide +kernel) (by decide +kernel) (by first | exact fun _ h => List.mem_cons_of_mem _ (List.mem_append_right _ h) | exact fun _ h => List.mem_cons_of_mem _ (List.mem_append_left _ (List.mem_append_right _ h)) | decide +kernel) zb_ia zo_ia dX2_tick_12 dX2_tick_15 dX2_tick_16 dX2_tick_18 dX2_tick_21 (Nat.le_of_ble_eq_true rfl) (Nat.le_of_ble_eq_true rfl) (Nat.le_of_ble_eq_true rfl) (Nat.le_of_ble_eq_true rfl) (fun _ _ => rfl) (Nat.le_refl _) (⟨rfl, by first | (simp only [xTickE, c_1, c_2, reduceIte, Bool.false_eq_true]; done) | simp [xTickE, c_1, c_2]⟩) (fun _ h => nomatch h) (Nat.le_of_ble_eq_true rfl) (Nat.le_of_ble_eq_true rfl)
set_option maxHeartbeats 4000000 in
set_option maxRecDepth 100000 in
theorem c_X2_now (l : Launch) (g : gG) (σ : Mem) (w : Int64) (hX : Xok g σ) : Met l yX2_now wsX2_now ({ frames := 0, cells := 0, slots := 0, locals := 0 } : Room) (gPc g σ w [.ref (gad g 0 0)]) (gR (.int (σ 0 0 3))) 0 0 (fun _ => False) := by
  refine gx_ofW (cc := cX2_now) (maxL := 1) (ret := (some .int)) (by decide) rfl (Nat.le_of_ble_eq_true rfl) ?_
  intro p e s m below meth c0 hx hb hr hml hts hown hlocks hin hG hZ hS ls hl
  have hown : s.vm.findClass RX2 = some m.cls := hown
  have hl : lv_has ls 1 [(0, .ref (gad g 0 0))] := hl
  have k1 := hts (.fieldLink RX2 120 "TaxiRank" "time" "I") (by decide +kernel)
  refine lv_aload_n hx hb dX2_now_0 rfl (lv_at hl 0 rfl) ?_
  refine gx_get hx hb hown hZ hG 0 0 3 hX.k0 rfl (by decide) k1 (fun _ h => h) (v := .int (σ 0 0 3)) rfl dX2_now_1 ?_
  exact gx_iretR hx hb hr hlocks rfl (Nat.le_of_ble_eq_true rfl) (Nat.le_of_ble_eq_true rfl) dX2_now_4
set_option maxHeartbeats 4000000 in
set_option maxRecDepth 100000 in
theorem c_X2_count (l : Launch) (hl0 : l.stackTraces = false) (g : gG) (σ : Mem) (w : Int64) (x : Int32) (hX : Xok g σ) : vx_Met l yX2_count wsX2_count ({ frames := 6, cells := 1, slots := 6, locals := 92 } : Room) (gPc g σ w [.ref (gad g 0 0), .int (x)]) (gRx (.int (xCount σ x)) (xCountE x = 0)) (gX (fun E => (E = "java/lang/IndexOutOfBoundsException" ∧ xCountE x = 1))) 1 6 (fun _ => False) := by
  refine gx_xofW (cc := cX2_count) (maxL := 2) (ret := (some .int)) (by decide) rfl (Nat.le_of_ble_eq_true rfl) ?_
  intro p e s m below meth c0 hx hb hr hml hts hown hlocks hin hnt hG hZ hS ls hl
  have hown : s.vm.findClass RX2 = some m.cls := hown
  have hl : lv_has ls 2 [(0, .ref (gad g 0 0)), (1, .int (x))] := hl
  have k1 := hts (.fieldLink RX2 20 "TaxiRank" "orders" "Ljava/util/ArrayList;") (by decide +kernel)
  have k2 := hts (.fieldLink RX2 16 "TaxiRank" "cabs" "Ljava/util/ArrayList;") (by decide +kernel)
  refine lv_iload_n hx hb dX2_count_0 rfl (lv_at hl 1 rfl) ?_
  refine lv_if_lt (tgt := 10) hx hb dX2_count_1 (by decide) (fun c_1 => ?_) (fun c_1 => ?_)
  · skip
    exact gx_throw (text := "what is not 0 to 7") hx hb hl0 hown hlocks hZ hS (hl.1.trans hml.symm) hnt hts (by decide +kernel) (by decide +kernel) (by decide +kernel) (by decide +kernel) (by decide +kernel) (by first | exact fun _ h => List.mem_cons_of_mem _ (List.mem_append_right _ h) | exact fun _ h => List.mem_cons_of_mem _ (List.mem_append_left _ (List.mem_append_right _ h)) | decide +kernel) zb_io zo_io dX2_count_10 dX2_count_13 dX2_count_14 dX2_count_16 dX2_count_19 (Nat.le_of_ble_eq_true rfl) (Nat.le_of_ble_eq_true rfl) (Nat.le_of_ble_eq_true rfl) (Nat.le_of_ble_eq_true rfl) (fun _ _ => rfl) (Nat.le_refl _) (⟨rfl, by first | (simp only [xCountE, c_1, reduceIte, Bool.false_eq_true]; done) | simp [xCountE, c_1]⟩) (fun _ h => nomatch h) (Nat.le_of_ble_eq_true rfl) (Nat.le_of_ble_eq_true rfl)
  · skip
    refine lv_iload_n hx hb dX2_count_4 rfl (lv_at hl 1 rfl) ?_
    refine lv_bipush (v := 7) hx hb dX2_count_5 (by decide) ?_
    refine lv_icmp_le (tgt := 20) hx hb dX2_count_7 (by decide) (fun c_2 => ?_) (fun c_2 => ?_)
    · skip
      refine lv_iload_n hx hb dX2_count_20 rfl (lv_at hl 1 rfl) ?_
      refine lv_if_ne (tgt := 32) hx hb dX2_count_21 (by decide) (fun c_3 => ?_) (fun c_3 => ?_)
      · skip
        refine lv_iload_n hx hb dX2_count_32 rfl (lv_at hl 1 rfl) ?_
        refine lv_iconst (v := 1) hx hb dX2_count_33 (by decide) ?_
        refine lv_icmp_ne (tgt := 45) hx hb dX2_count_34 (by decide) (fun c_4 => ?_) (fun c_4 => ?_)
        · skip
          refine lv_aload_n hx hb dX2_count_45 rfl (lv_at hl 0 rfl) ?_
          refine lv_iload_n hx hb dX2_count_46 rfl (lv_at hl 1 rfl) ?_
          refine lv_iconst (v := 2) hx hb dX2_count_47 (by decide) ?_
          refine lv_isub hx hb dX2_count_48 ?_
          refine gx_cR (gx_runV (As := [.int (x - 2)]) (rest := []) ⟨hx, hb, hml, hown, hts⟩ (c_X2_ordersInState l g σ w (x - 2) hX) (cwV 1 hts gX2_count_X2_ordersInState rfl rfl rfl (by decide +kernel) ⟨Nat.le_of_ble_eq_true rfl, Nat.le_of_ble_eq_true rfl⟩) (gx_obj hZ hG 0 0 hX.k0 rfl) hZ hG hS rfl hl.1 rfl (Nat.le_of_ble_eq_true rfl) dX2_count_49 ⟨Nat.le_of_ble_eq_true rfl, Nat.le_of_ble_eq_true rfl⟩) ?_
          exact gx_iretRx hx hb hr hlocks (by simp [xCount, hX.eC, hX.eO, c_1, c_2, c_3, c_4]) (by first | (simp only [xCountE, c_1, c_2, c_3, c_4, reduceIte, Bool.false_eq_true]; done) | simp [xCountE, c_1, c_2, c_3, c_4]) (Nat.le_of_ble_eq_true rfl) (Nat.le_of_ble_eq_true rfl) dX2_count_52
        · skip
          refine lv_aload_n hx hb dX2_count_37 rfl (lv_at hl 0 rfl) ?_
          refine gx_get hx hb hown hZ hG 0 0 2 hX.k0 rfl (by decide) k1 (fun _ h => h) (v := .ref (gad g 3 0)) (grf_z hX.r2) dX2_count_38 ?_
          refine gx_cR (gx_runV (As := []) (rest := []) ⟨hx, hb, hml, hown, hts⟩ (c_size3 l g σ w hX) (cwV 0 hts gX2_count_Jx4a65c_size_8abf5 rfl rfl rfl (by decide +kernel) ⟨Nat.le_of_ble_eq_true rfl, Nat.le_of_ble_eq_true rfl⟩) (gx_obj hZ hG 3 0 hX.k3 rfl) hZ hG hS rfl hl.1 rfl (Nat.le_of_ble_eq_true rfl) dX2_count_41 ⟨Nat.le_of_ble_eq_true rfl, Nat.le_of_ble_eq_true rfl⟩) ?_
          exact gx_iretRx hx hb hr hlocks (by simp [xCount, hX.eC, hX.eO, c_1, c_2, c_3, c_4]) (by first | (simp only [xCountE, c_1, c_2, c_3, c_4, reduceIte, Bool.false_eq_true]; done) | simp [xCountE, c_1, c_2, c_3, c_4]) (Nat.le_of_ble_eq_true rfl) (Nat.le_of_ble_eq_true rfl) dX2_count_44
      · skip
        refine lv_aload_n hx hb dX2_count_24 rfl (lv_at hl 0 rfl) ?_
        refine gx_get hx hb hown hZ hG 0 0 1 hX.k0 rfl (by decide) k2 (fun _ h => h) (v := .ref (gad g 2 0)) (grf_z hX.r1) dX2_count_25 ?_
        refine gx_cR (gx_runV (As := []) (rest := []) ⟨hx, hb, hml, hown, hts⟩ (c_size2 l g σ w hX) (cwV 0 hts gX2_count_Jx4a65c_size_8abf5 rfl rfl rfl (by decide +kernel) ⟨Nat.le_of_ble_eq_true rfl, Nat.le_of_ble_eq_true rfl⟩) (gx_obj hZ hG 2 0 hX.k2 rfl) hZ hG hS rfl hl.1 rfl (Nat.le_of_ble_eq_true rfl) dX2_count_28 ⟨Nat.le_of_ble_eq_true rfl, Nat.le_of_ble_eq_true rfl⟩) ?_
        exact gx_iretRx hx hb hr hlocks (by simp [xCount, hX.eC, hX.eO, c_1, c_2, c_3]) (by first | (simp only [xCountE, c_1, c_2, c_3, reduceIte, Bool.false_eq_true]; done) | simp [xCountE, c_1, c_2, c_3]) (Nat.le_of_ble_eq_true rfl) (Nat.le_of_ble_eq_true rfl) dX2_count_31
    · skip
      exact gx_throw (text := "what is not 0 to 7") hx hb hl0 hown hlocks hZ hS (hl.1.trans hml.symm) hnt hts (by decide +kernel) (by decide +kernel) (by decide +kernel) (by decide +kernel) (by decide +kernel) (by first | exact fun _ h => List.mem_cons_of_mem _ (List.mem_append_right _ h) | exact fun _ h => List.mem_cons_of_mem _ (List.mem_append_left _ (List.mem_append_right _ h)) | decide +kernel) zb_io zo_io dX2_count_10 dX2_count_13 dX2_count_14 dX2_count_16 dX2_count_19 (Nat.le_of_ble_eq_true rfl) (Nat.le_of_ble_eq_true rfl) (Nat.le_of_ble_eq_true rfl) (Nat.le_of_ble_eq_true rfl) (fun _ _ => rfl) (Nat.le_refl _) (⟨rfl, by first | (simp only [xCountE, c_1, c_2, reduceIte, Bool.false_eq_true]; done) | simp [xCountE, c_1, c_2]⟩) (fun _ h => nomatch h) (Nat.le_of_ble_eq_true rfl) (Nat.le_of_ble_eq_true rfl)
