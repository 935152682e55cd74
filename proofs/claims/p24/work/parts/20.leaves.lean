/-! the class's own functions, as functions of the memory -/
def xIsZone (z : Int32) : Bool := if z < 0 then false else if 6 ≤ z then false else true
def xWay (σ : Mem) (a b : Int32) : Int32 := if a * 6 + b < 0 then 5 else if 36 ≤ a * 6 + b then 5 else σ 1 0 (ix (a * 6 + b))
def xPutWay (σ : Mem) (a b v : Int32) : Mem := if a * 6 + b < 0 then σ else if 36 ≤ a * 6 + b then σ else gst σ 1 0 (ix (a * 6 + b)) v
def xJoin (σ : Mem) (c : Nat) : Mem := gst (gst (gst σ 6 c 3 1) 6 c 4 (σ 0 0 6)) 0 0 6 (σ 0 0 6 + 1)
def xInQ (σ : Mem) (c : Nat) (z : Int32) : Bool := if σ 6 c 3 = 1 then (if σ 6 c 2 = z then true else false) else false
def xIdle (σ : Mem) (c : Nat) : Bool := if σ 6 c 3 = 1 then (if σ 6 c 6 = -1 then true else false) else false
def xOff (σ : Mem) (c : Nat) : Int32 := if σ 6 c 3 = 1 then σ 6 c 6 else -1
def xLook (σ : Mem) (o : Nat) : Bool := if σ 7 o 5 = 0 then (if σ 0 0 3 < σ 7 o 4 - 15 then false else true) else false
def xBit (σ : Mem) (c : Nat) : Int32 := 1 <<< (σ 6 c 0 &&& 31)
def xRank (σ : Mem) (z a : Int32) : Int32 := if z = a then 0 else xWay σ z a * 6 + z
def xCan (σ : Mem) (o c : Nat) : Bool := if xIdle σ c = true then (if σ 6 c 1 < σ 7 o 3 then false else if σ 7 o 8 &&& xBit σ c = 0 then true else false) else false
set_option maxHeartbeats 4000000 in
set_option maxRecDepth 100000 in
theorem c_X2_isZone (l : Launch) (g : gG) (σ : Mem) (w : Int64) (z : Int32) : Met l yX2_isZone wsX2_isZone ({ frames := 0, cells := 0, slots := 0, locals := 0 } : Room) (gPc g σ w [.int (z)]) (gR (.int (bI (xIsZone z)))) 0 0 (fun _ => False) := by
  refine gx_ofW (cc := cX2_isZone) (maxL := 1) (ret := (some .boolean)) (by decide) rfl (Nat.le_of_ble_eq_true rfl) ?_
  intro p e s m below meth c0 hx hb hr hml hts hown hlocks hin hG hZ hS ls hl
  have hown : s.vm.findClass RX2 = some m.cls := hown
  have hl : lv_has ls 1 [(0, .int (z))] := hl
  refine lv_iload_n hx hb dX2_isZone_0 rfl (lv_at hl 0 rfl) ?_
  refine lv_if_lt (tgt := 14) hx hb dX2_isZone_1 (by decide) (fun c_1 => ?_) (fun c_1 => ?_)
  · skip
    refine lv_iconst (v := 0) hx hb dX2_isZone_14 (by decide) ?_
    exact gx_zretR hx hb hr hlocks (by first | (simp only [xIsZone, bI, c_1, reduceIte, eq_self, Bool.false_eq_true]; done) | simp [xIsZone, bI, c_1]) rfl (Nat.le_of_ble_eq_true rfl) (Nat.le_of_ble_eq_true rfl) dX2_isZone_15
  · skip
    refine lv_iload_n hx hb dX2_isZone_4 rfl (lv_at hl 0 rfl) ?_
    refine lv_bipush (v := 6) hx hb dX2_isZone_5 (by decide) ?_
    refine lv_icmp_ge (tgt := 14) hx hb dX2_isZone_7 (by decide) (fun c_2 => ?_) (fun c_2 => ?_)
    · skip
      refine lv_iconst (v := 0) hx hb dX2_isZone_14 (by decide) ?_
      exact gx_zretR hx hb hr hlocks (by first | (simp only [xIsZone, bI, c_1, c_2, reduceIte, eq_self, Bool.false_eq_true]; done) | simp [xIsZone, bI, c_1, c_2]) rfl (Nat.le_of_ble_eq_true rfl) (Nat.le_of_ble_eq_true rfl) dX2_isZone_15
    · skip
      refine lv_iconst (v := 1) hx hb dX2_isZone_10 (by decide) ?_
      refine lv_goto (tgt := 15) hx hb dX2_isZone_11 (by decide) ?_
      exact gx_zretR hx hb hr hlocks (by first | (simp only [xIsZone, bI, c_1, c_2, reduceIte, eq_self, Bool.false_eq_true]; done) | simp [xIsZone, bI, c_1, c_2]) rfl (Nat.le_of_ble_eq_true rfl) (Nat.le_of_ble_eq_true rfl) dX2_isZone_15
set_option maxHeartbeats 4000000 in
set_option maxRecDepth 100000 in
theorem c_X2_requireZone (l : Launch) (hl0 : l.stackTraces = false) (g : gG) (σ : Mem) (w : Int64) (z : Int32) : vx_Met l yX2_requireZone wsX2_requireZone ({ frames := 6, cells := 1, slots := 6, locals := 92 } : Room) (gPc g σ w [.int (z)]) (gVx (xIsZone z = true)) (gX (fun E => E = "java/lang/IndexOutOfBoundsException" ∧ xIsZone z = false)) 1 6 (fun _ => False) := by
  refine gx_xofW (cc := cX2_requireZone) (maxL := 1) (ret := none) (by decide) rfl (Nat.le_of_ble_eq_true rfl) ?_
  intro p e s m below meth c0 hx hb hr hml hts hown hlocks hin hnt hG hZ hS ls hl
  have hown : s.vm.findClass RX2 = some m.cls := hown
  have hl : lv_has ls 1 [(0, .int (z))] := hl
  refine lv_iload_n hx hb dX2_requireZone_0 rfl (lv_at hl 0 rfl) ?_
  refine gx_cR (gx_runS (As := [.int (z)]) (rest := []) ⟨hx, hb, hml, hown, hts⟩ (c_X2_isZone l g σ w z) (va_cwS 1 hts gX2_requireZone_X2_isZone rfl rfl rfl (by decide +kernel) ⟨Nat.le_of_ble_eq_true rfl, Nat.le_of_ble_eq_true rfl⟩) hZ hG hS rfl hl.1 rfl (Nat.le_of_ble_eq_true rfl) dX2_requireZone_1 ⟨Nat.le_of_ble_eq_true rfl, Nat.le_of_ble_eq_true rfl⟩) ?_
  refine lv_if_ne (tgt := 17) hx hb dX2_requireZone_4 (by decide) (fun c_1 => ?_) (fun c_1 => ?_)
  · skip
    have c_1 := bI_ne0.mp c_1
    exact gx_vretRx hx hb hr hlocks c_1 (Nat.le_of_ble_eq_true rfl) (Nat.le_of_ble_eq_true rfl) dX2_requireZone_17
  · skip
    have c_1 := bI_eq0.mp c_1
    exact gx_throw (text := "no such zone") hx hb hl0 hown hlocks hZ hS (hl.1.trans hml.symm) hnt hts (by decide +kernel) (by decide +kernel) (by decide +kernel) (by decide +kernel) (by decide +kernel) (by first | exact fun _ h => List.mem_cons_of_mem _ (List.mem_append_right _ h) | exact fun _ h => List.mem_cons_of_mem _ (List.mem_append_left _ (List.mem_append_right _ h)) | decide +kernel) zb_io zo_io dX2_requireZone_7 dX2_requireZone_10 dX2_requireZone_11 dX2_requireZone_13 dX2_requireZone_16 (Nat.le_of_ble_eq_true rfl) (Nat.le_of_ble_eq_true rfl) (Nat.le_of_ble_eq_true rfl) (Nat.le_of_ble_eq_true rfl) (fun _ _ => rfl) (Nat.le_refl _) (⟨rfl, c_1⟩) (fun _ h => nomatch h) (Nat.le_of_ble_eq_true rfl) (Nat.le_of_ble_eq_true rfl)
set_option maxHeartbeats 4000000 in
set_option maxRecDepth 100000 in
theorem c_X2_requirePassengers (l : Launch) (hl0 : l.stackTraces = false) (g : gG) (σ : Mem) (w : Int64) (n : Int32) : vx_Met l yX2_requirePassengers wsX2_requirePassengers ({ frames := 6, cells := 1, slots := 6, locals := 92 } : Room) (gPc g σ w [.int (n)]) (gVx (¬ n < 1 ∧ n ≤ 8)) (gX (fun E => E = "java/lang/IllegalArgumentException" ∧ (n < 1 ∨ ¬ n ≤ 8))) 1 6 (fun _ => False) := by
  refine gx_xofW (cc := cX2_requirePassengers) (maxL := 1) (ret := none) (by decide) rfl (Nat.le_of_ble_eq_true rfl) ?_
  intro p e s m below meth c0 hx hb hr hml hts hown hlocks hin hnt hG hZ hS ls hl
  have hown : s.vm.findClass RX2 = some m.cls := hown
  have hl : lv_has ls 1 [(0, .int (n))] := hl
  refine lv_iload_n hx hb dX2_requirePassengers_0 rfl (lv_at hl 0 rfl) ?_
  refine lv_iconst (v := 1) hx hb dX2_requirePassengers_1 (by decide) ?_
  refine lv_icmp_lt (tgt := 11) hx hb dX2_requirePassengers_2 (by decide) (fun c_1 => ?_) (fun c_1 => ?_)
  · skip
    exact gx_throw (text := "passengers is not 1 to 8") hx hb hl0 hown hlocks hZ hS (hl.1.trans hml.symm) hnt hts (by decide +kernel) (by decide +kernel) (by decide +kernel) (by decide +kernel) (by decide +kernel) (by first | exact fun _ h => List.mem_cons_of_mem _ (List.mem_append_right _ h) | exact fun _ h => List.mem_cons_of_mem _ (List.mem_append_left _ (List.mem_append_right _ h)) | decide +kernel) zb_ia zo_ia dX2_requirePassengers_11 dX2_requirePassengers_14 dX2_requirePassengers_15 dX2_requirePassengers_17 dX2_requirePassengers_20 (Nat.le_of_ble_eq_true rfl) (Nat.le_of_ble_eq_true rfl) (Nat.le_of_ble_eq_true rfl) (Nat.le_of_ble_eq_true rfl) (fun _ _ => rfl) (Nat.le_refl _) (⟨rfl, by first | exact Or.inl c_1 | exact Or.inr c_2⟩) (fun _ h => nomatch h) (Nat.le_of_ble_eq_true rfl) (Nat.le_of_ble_eq_true rfl)
  · skip
    refine lv_iload_n hx hb dX2_requirePassengers_5 rfl (lv_at hl 0 rfl) ?_
    refine lv_bipush (v := 8) hx hb dX2_requirePassengers_6 (by decide) ?_
    refine lv_icmp_le (tgt := 21) hx hb dX2_requirePassengers_8 (by decide) (fun c_2 => ?_) (fun c_2 => ?_)
    · skip
      exact gx_vretRx hx hb hr hlocks ⟨c_1, c_2⟩ (Nat.le_of_ble_eq_true rfl) (Nat.le_of_ble_eq_true rfl) dX2_requirePassengers_21
    · skip
      exact gx_throw (text := "passengers is not 1 to 8") hx hb hl0 hown hlocks hZ hS (hl.1.trans hml.symm) hnt hts (by decide +kernel) (by decide +kernel) (by decide +kernel) (by decide +kernel) (by decide +kernel) (by first | exact fun _ h => List.mem_cons_of_mem _ (List.mem_append_right _ h) | exact fun _ h => List.mem_cons_of_mem _ (List.mem_append_left _ (List.mem_append_right _ h)) | decide +kernel) zb_ia zo_ia dX2_requirePassengers_11 dX2_requirePassengers_14 dX2_requirePassengers_15 dX2_requirePassengers_17 dX2_requirePassengers_20 (Nat.le_of_ble_eq_true rfl) (Nat.le_of_ble_eq_true rfl) (Nat.le_of_ble_eq_true rfl) (Nat.le_of_ble_eq_true rfl) (fun _ _ => rfl) (Nat.le_refl _) (⟨rfl, by first | exact Or.inl c_1 | exact Or.inr c_2⟩) (fun _ h => nomatch h) (Nat.le_of_ble_eq_true rfl) (Nat.le_of_ble_eq_true rfl)
set_option maxHeartbeats 4000000 in
set_option maxRecDepth 100000 in
theorem c_X2_wayBetween (l : Launch) (g : gG) (σ : Mem) (w : Int64) (a b : Int32) (hX : Xok g σ) : Met l yX2_wayBetween wsX2_wayBetween ({ frames := 0, cells := 0, slots := 0, locals := 0 } : Room) (gPc g σ w [.ref (gad g 0 0), .int (a), .int (b)]) (gR (.int (xWay σ a b))) 0 0 (fun _ => False) := by
  refine gx_ofW (cc := cX2_wayBetween) (maxL := 4) (ret := (some .int)) (by decide) rfl (Nat.le_of_ble_eq_true rfl) ?_
  intro p e s m below meth c0 hx hb hr hml hts hown hlocks hin hG hZ hS ls hl
  have hown : s.vm.findClass RX2 = some m.cls := hown
  have hl : lv_has ls 4 [(0, .ref (gad g 0 0)), (1, .int (a)), (2, .int (b))] := hl
  have k1 := hts (.fieldLink RX2 9 "TaxiRank" "ways" "[I") (by decide +kernel)
  refine lv_iload_n hx hb dX2_wayBetween_0 rfl (lv_at hl 1 rfl) ?_
  refine lv_bipush (v := 6) hx hb dX2_wayBetween_1 (by decide) ?_
  refine lv_imul hx hb dX2_wayBetween_3 ?_
  refine lv_iload_n hx hb dX2_wayBetween_4 rfl (lv_at hl 2 rfl) ?_
  refine lv_iadd hx hb dX2_wayBetween_5 ?_
  refine lv_istore_n (lv' := [(3, .int ((a * 6) + b)), (0, .ref (gad g 0 0)), (1, .int (a)), (2, .int (b))]) hx hb dX2_wayBetween_6 rfl hl (by decide) rfl (fun ls hl => ?_)
  refine lv_iload_n hx hb dX2_wayBetween_7 rfl (lv_at hl 0 rfl) ?_
  refine lv_if_lt (tgt := 29) hx hb dX2_wayBetween_8 (by decide) (fun c_1 => ?_) (fun c_1 => ?_)
  · skip
    refine lv_iconst (v := 5) hx hb dX2_wayBetween_29 (by decide) ?_
    exact gx_iretR hx hb hr hlocks (by first | (simp only [xWay, c_1, reduceIte, eq_self, Bool.false_eq_true]; done) | simp [xWay, c_1]) (Nat.le_of_ble_eq_true rfl) (Nat.le_of_ble_eq_true rfl) dX2_wayBetween_30
  · skip
    refine lv_iload_n hx hb dX2_wayBetween_11 rfl (lv_at hl 0 rfl) ?_
    refine lv_aload_n hx hb dX2_wayBetween_12 rfl (lv_at hl 1 rfl) ?_
    refine gx_get hx hb hown hZ hG 0 0 0 hX.k0 rfl (by decide) k1 (fun _ h => h) (v := .ref (gad g 1 0)) (grf_z hX.r0) dX2_wayBetween_13 ?_
    refine gx_len hx hb hZ hG 1 0 hX.k1 rfl (gx_KI hZ).1 (v := 36) (by rw [hX.l1]; decide) dX2_wayBetween_16 ?_
    refine lv_icmp_ge (tgt := 29) hx hb dX2_wayBetween_17 (by decide) (fun c_2 => ?_) (fun c_2 => ?_)
    · skip
      refine lv_iconst (v := 5) hx hb dX2_wayBetween_29 (by decide) ?_
      exact gx_iretR hx hb hr hlocks (by first | (simp only [xWay, c_1, c_2, reduceIte, eq_self, Bool.false_eq_true]; done) | simp [xWay, c_1, c_2]) (Nat.le_of_ble_eq_true rfl) (Nat.le_of_ble_eq_true rfl) dX2_wayBetween_30
    · skip
      refine lv_aload_n hx hb dX2_wayBetween_20 rfl (lv_at hl 1 rfl) ?_
      refine gx_get hx hb hown hZ hG 0 0 0 hX.k0 rfl (by decide) k1 (fun _ h => h) (v := .ref (gad g 1 0)) (grf_z hX.r0) dX2_wayBetween_21 ?_
      refine lv_iload_n hx hb dX2_wayBetween_24 rfl (lv_at hl 0 rfl) ?_
      refine gx_ald hx hb hZ hG 1 0 hX.k1 rfl rfl (by rw [hX.l1]; exact vp_in_c c_1 c_2 rfl (by decide)) (v := .int (σ 1 0 (ix ((a * 6) + b)))) rfl dX2_wayBetween_25 ?_
      refine lv_goto (tgt := 30) hx hb dX2_wayBetween_26 (by decide) ?_
      exact gx_iretR hx hb hr hlocks (by first | (simp only [xWay, c_1, c_2, reduceIte, eq_self, Bool.false_eq_true]; done) | simp [xWay, c_1, c_2]) (Nat.le_of_ble_eq_true rfl) (Nat.le_of_ble_eq_true rfl) dX2_wayBetween_30
set_option maxHeartbeats 4000000 in
set_option maxRecDepth 100000 in
theorem c_X2_putWay (l : Launch) (g : gG) (σ : Mem) (w : Int64) (a b v : Int32) (hX : Xok g σ) : Met l yX2_putWay wsX2_putWay ({ frames := 0, cells := 0, slots := 0, locals := 0 } : Room) (gPc g σ w [.ref (gad g 0 0), .int (a), .int (b), .int (v)]) (gM g g (xPutWay σ a b v) w (none)) 0 0 (gA g) := by
  refine gx_ofW (cc := cX2_putWay) (maxL := 5) (ret := none) (by decide) rfl (Nat.le_of_ble_eq_true rfl) ?_
  intro p e s m below meth c0 hx hb hr hml hts hown hlocks hin hG hZ hS ls hl
  have hown : s.vm.findClass RX2 = some m.cls := hown
  have hl : lv_has ls 5 [(0, .ref (gad g 0 0)), (1, .int (a)), (2, .int (b)), (3, .int (v))] := hl
  have k1 := hts (.fieldLink RX2 9 "TaxiRank" "ways" "[I") (by decide +kernel)
  refine lv_iload_n hx hb dX2_putWay_0 rfl (lv_at hl 1 rfl) ?_
  refine lv_bipush (v := 6) hx hb dX2_putWay_1 (by decide) ?_
  refine lv_imul hx hb dX2_putWay_3 ?_
  refine lv_iload_n hx hb dX2_putWay_4 rfl (lv_at hl 2 rfl) ?_
  refine lv_iadd hx hb dX2_putWay_5 ?_
  refine lv_istore (lv' := [(4, .int ((a * 6) + b)), (0, .ref (gad g 0 0)), (1, .int (a)), (2, .int (b)), (3, .int (v))]) hx hb dX2_putWay_6 hl (by decide) rfl (fun ls hl => ?_)
  refine lv_iload hx hb dX2_putWay_8 (lv_at hl 0 rfl) ?_
  refine lv_if_lt (tgt := 31) hx hb dX2_putWay_10 (by decide) (fun c_1 => ?_) (fun c_1 => ?_)
  · skip
    exact gx_vretM hx hb hr hlocks hG hS (by first | (simp only [xPutWay, c_1, reduceIte, eq_self, Bool.false_eq_true]; done) | simp [xPutWay, c_1]) (Nat.le_of_ble_eq_true rfl) (Nat.le_of_ble_eq_true rfl) dX2_putWay_31
  · skip
    refine lv_iload hx hb dX2_putWay_13 (lv_at hl 0 rfl) ?_
    refine lv_aload_n hx hb dX2_putWay_15 rfl (lv_at hl 1 rfl) ?_
    refine gx_get hx hb hown hZ hG 0 0 0 hX.k0 rfl (by decide) k1 (fun _ h => h) (v := .ref (gad g 1 0)) (grf_z hX.r0) dX2_putWay_16 ?_
    refine gx_len hx hb hZ hG 1 0 hX.k1 rfl (gx_KI hZ).1 (v := 36) (by rw [hX.l1]; decide) dX2_putWay_19 ?_
    refine lv_icmp_ge (tgt := 31) hx hb dX2_putWay_20 (by decide) (fun c_2 => ?_) (fun c_2 => ?_)
    · skip
      exact gx_vretM hx hb hr hlocks hG hS (by first | (simp only [xPutWay, c_1, c_2, reduceIte, eq_self, Bool.false_eq_true]; done) | simp [xPutWay, c_1, c_2]) (Nat.le_of_ble_eq_true rfl) (Nat.le_of_ble_eq_true rfl) dX2_putWay_31
    · skip
      refine lv_aload_n hx hb dX2_putWay_23 rfl (lv_at hl 1 rfl) ?_
      refine gx_get hx hb hown hZ hG 0 0 0 hX.k0 rfl (by decide) k1 (fun _ h => h) (v := .ref (gad g 1 0)) (grf_z hX.r0) dX2_putWay_24 ?_
      refine lv_iload hx hb dX2_putWay_27 (lv_at hl 0 rfl) ?_
      refine lv_iload_n hx hb dX2_putWay_29 rfl (lv_at hl 4 rfl) ?_
      refine gx_ast hx hb hZ hG hS 1 0 hX.k1 rfl rfl (by rw [hX.l1]; exact vp_in_c c_1 c_2 rfl (by decide)) rfl trivial dX2_putWay_30 (fun H locs hG hS => ?_)
      have hX := hX.st (k := 1) (i := 0) (f := ix ((a * 6) + b)) (v := v) rfl
      exact gx_vretM hx hb hr hlocks hG hS (by first | (simp only [xPutWay, c_1, c_2, reduceIte, eq_self, Bool.false_eq_true]; done) | simp [xPutWay, c_1, c_2]) (Nat.le_of_ble_eq_true rfl) (Nat.le_of_ble_eq_true rfl) dX2_putWay_31
set_option maxHeartbeats 4000000 in
set_option maxRecDepth 100000 in
theorem c_X2_joinQueue (l : Launch) (g : gG) (σ : Mem) (w : Int64) (c : Nat) (hX : Xok g σ) (hc : c < gcn g 6) : Met l yX2_joinQueue wsX2_joinQueue ({ frames := 0, cells := 0, slots := 0, locals := 0 } : Room) (gPc g σ w [.ref (gad g 0 0), .ref (gad g 6 c)]) (gM g g (xJoin σ c) w (none)) 0 0 (gA g) := by
  refine gx_ofW (cc := cX2_joinQueue) (maxL := 2) (ret := none) (by decide) rfl (Nat.le_of_ble_eq_true rfl) ?_
  intro p e s m below meth c0 hx hb hr hml hts hown hlocks hin hG hZ hS ls hl
  have hown : s.vm.findClass RX2 = some m.cls := hown
  have hl : lv_has ls 2 [(0, .ref (gad g 0 0)), (1, .ref (gad g 6 c))] := hl
  have k1 := hts (.fieldLink RX2 80 "TaxiRank$Cab" "state" "I") (by decide +kernel)
  have k2 := hts (.fieldLink RX2 240 "TaxiRank" "turnsGiven" "I") (by decide +kernel)
  have k3 := hts (.fieldLink RX2 243 "TaxiRank$Cab" "turn" "I") (by decide +kernel)
  refine lv_aload_n hx hb dX2_joinQueue_0 rfl (lv_at hl 1 rfl) ?_
  refine lv_iconst (v := 1) hx hb dX2_joinQueue_1 (by decide) ?_
  refine gx_put hx hb hown hZ hG hS 6 c 3 (1) hc rfl (by decide) k1 (fun _ h => h) rfl rfl trivial rfl rfl dX2_joinQueue_2 (fun H locs hG hS => ?_)
  have hX := hX.st (k := 6) (i := c) (f := 3) (v := 1) rfl
  refine lv_aload_n hx hb dX2_joinQueue_5 rfl (lv_at hl 1 rfl) ?_
  refine lv_aload_n hx hb dX2_joinQueue_6 rfl (lv_at hl 0 rfl) ?_
  refine gx_get hx hb hown hZ hG 0 0 6 hX.k0 rfl (by decide) k2 (fun _ h => h) (v := .int (σ 0 0 6)) (congrArg Value.int (by simp [gst_app])) dX2_joinQueue_7 ?_
  refine gx_put hx hb hown hZ hG hS 6 c 4 (σ 0 0 6) hc rfl (by decide) k3 (fun _ h => h) rfl rfl trivial rfl rfl dX2_joinQueue_10 (fun H locs hG hS => ?_)
  have hX := hX.st (k := 6) (i := c) (f := 4) (v := σ 0 0 6) rfl
  refine lv_aload_n hx hb dX2_joinQueue_13 rfl (lv_at hl 0 rfl) ?_
  refine lv_dup hx hb dX2_joinQueue_14 rfl ?_
  refine gx_get hx hb hown hZ hG 0 0 6 hX.k0 rfl (by decide) k2 (fun _ h => h) (v := .int (σ 0 0 6)) (congrArg Value.int (by simp [gst_app])) dX2_joinQueue_15 ?_
  refine lv_iconst (v := 1) hx hb dX2_joinQueue_18 (by decide) ?_
  refine lv_iadd hx hb dX2_joinQueue_19 ?_
  refine gx_put hx hb hown hZ hG hS 0 0 6 ((σ 0 0 6) + 1) hX.k0 rfl (by decide) k2 (fun _ h => h) rfl rfl trivial rfl rfl dX2_joinQueue_20 (fun H locs hG hS => ?_)
  have hX := hX.st (k := 0) (i := 0) (f := 6) (v := (σ 0 0 6) + 1) rfl
  exact gx_vretM hx hb hr hlocks hG hS rfl (Nat.le_of_ble_eq_true rfl) (Nat.le_of_ble_eq_true rfl) dX2_joinQueue_23
set_option maxHeartbeats 4000000 in
set_option maxRecDepth 100000 in
theorem c_X2_isInQueue (l : Launch) (g : gG) (σ : Mem) (w : Int64) (c : Nat) (z : Int32) (hc : c < gcn g 6) : Met l yX2_isInQueue wsX2_isInQueue ({ frames := 0, cells := 0, slots := 0, locals := 0 } : Room) (gPc g σ w [.ref (gad g 6 c), .int (z)]) (gR (.int (bI (xInQ σ c z)))) 0 0 (fun _ => False) := by
  refine gx_ofW (cc := cX2_isInQueue) (maxL := 2) (ret := (some .boolean)) (by decide) rfl (Nat.le_of_ble_eq_true rfl) ?_
  intro p e s m below meth c0 hx hb hr hml hts hown hlocks hin hG hZ hS ls hl
  have hown : s.vm.findClass RX2 = some m.cls := hown
  have hl : lv_has ls 2 [(0, .ref (gad g 6 c)), (1, .int (z))] := hl
  have k1 := hts (.fieldLink RX2 80 "TaxiRank$Cab" "state" "I") (by decide +kernel)
  have k2 := hts (.fieldLink RX2 101 "TaxiRank$Cab" "zone" "I") (by decide +kernel)
  refine lv_aload_n hx hb dX2_isInQueue_0 rfl (lv_at hl 0 rfl) ?_
  refine gx_get hx hb hown hZ hG 6 c 3 hc rfl (by decide) k1 (fun _ h => h) (v := .int (σ 6 c 3)) rfl dX2_isInQueue_1 ?_
  refine lv_iconst (v := 1) hx hb dX2_isInQueue_4 (by decide) ?_
  refine lv_icmp_ne (tgt := 20) hx hb dX2_isInQueue_5 (by decide) (fun c_1 => ?_) (fun c_1 => ?_)
  · skip
    refine lv_iconst (v := 0) hx hb dX2_isInQueue_20 (by decide) ?_
    exact gx_zretR hx hb hr hlocks (by first | (simp only [xInQ, bI, c_1, reduceIte, eq_self, Bool.false_eq_true]; done) | simp [xInQ, bI, c_1]) rfl (Nat.le_of_ble_eq_true rfl) (Nat.le_of_ble_eq_true rfl) dX2_isInQueue_21
  · skip
    refine lv_aload_n hx hb dX2_isInQueue_8 rfl (lv_at hl 0 rfl) ?_
    refine gx_get hx hb hown hZ hG 6 c 2 hc rfl (by decide) k2 (fun _ h => h) (v := .int (σ 6 c 2)) rfl dX2_isInQueue_9 ?_
    refine lv_iload_n hx hb dX2_isInQueue_12 rfl (lv_at hl 1 rfl) ?_
    refine lv_icmp_ne (tgt := 20) hx hb dX2_isInQueue_13 (by decide) (fun c_2 => ?_) (fun c_2 => ?_)
    · skip
      refine lv_iconst (v := 0) hx hb dX2_isInQueue_20 (by decide) ?_
      exact gx_zretR hx hb hr hlocks (by first | (simp only [xInQ, bI, c_1, c_2, reduceIte, eq_self, Bool.false_eq_true]; done) | simp [xInQ, bI, c_1, c_2]) rfl (Nat.le_of_ble_eq_true rfl) (Nat.le_of_ble_eq_true rfl) dX2_isInQueue_21
    · skip
      refine lv_iconst (v := 1) hx hb dX2_isInQueue_16 (by decide) ?_
      refine lv_goto (tgt := 21) hx hb dX2_isInQueue_17 (by decide) ?_
      exact gx_zretR hx hb hr hlocks (by first | (simp only [xInQ, bI, c_1, c_2, reduceIte, eq_self, Bool.false_eq_true]; done) | simp [xInQ, bI, c_1, c_2]) rfl (Nat.le_of_ble_eq_true rfl) (Nat.le_of_ble_eq_true rfl) dX2_isInQueue_21
set_option maxHeartbeats 4000000 in
set_option maxRecDepth 100000 in
theorem c_X2_isIdle (l : Launch) (g : gG) (σ : Mem) (w : Int64) (c : Nat) (hc : c < gcn g 6) : Met l yX2_isIdle wsX2_isIdle ({ frames := 0, cells := 0, slots := 0, locals := 0 } : Room) (gPc g σ w [.ref (gad g 6 c)]) (gR (.int (bI (xIdle σ c)))) 0 0 (fun _ => False) := by
  refine gx_ofW (cc := cX2_isIdle) (maxL := 1) (ret := (some .boolean)) (by decide) rfl (Nat.le_of_ble_eq_true rfl) ?_
  intro p e s m below meth c0 hx hb hr hml hts hown hlocks hin hG hZ hS ls hl
  have hown : s.vm.findClass RX2 = some m.cls := hown
  have hl : lv_has ls 1 [(0, .ref (gad g 6 c))] := hl
  have k1 := hts (.fieldLink RX2 80 "TaxiRank$Cab" "state" "I") (by decide +kernel)
  have k2 := hts (.fieldLink RX2 251 "TaxiRank$Cab" "order" "LTaxiRank$Order;") (by decide +kernel)
  refine lv_aload_n hx hb dX2_isIdle_0 rfl (lv_at hl 0 rfl) ?_
  refine gx_get hx hb hown hZ hG 6 c 3 hc rfl (by decide) k1 (fun _ h => h) (v := .int (σ 6 c 3)) rfl dX2_isIdle_1 ?_
  refine lv_iconst (v := 1) hx hb dX2_isIdle_4 (by decide) ?_
  refine lv_icmp_ne (tgt := 19) hx hb dX2_isIdle_5 (by decide) (fun c_1 => ?_) (fun c_1 => ?_)
  · skip
    refine lv_iconst (v := 0) hx hb dX2_isIdle_19 (by decide) ?_
    exact gx_zretR hx hb hr hlocks (by first | (simp only [xIdle, bI, c_1, reduceIte, eq_self, Bool.false_eq_true]; done) | simp [xIdle, bI, c_1]) rfl (Nat.le_of_ble_eq_true rfl) (Nat.le_of_ble_eq_true rfl) dX2_isIdle_20
  · skip
    refine lv_aload_n hx hb dX2_isIdle_8 rfl (lv_at hl 0 rfl) ?_
    have v_2 : σ 6 c 6 = -1 ∨ ∃ j, j < gcn g 7 ∧ σ 6 c 6 = nI j := hG.2.2.1 6 c 6 hc
    refine gx_get hx hb hown hZ hG 6 c 6 hc rfl (by decide) k2 (fun _ h => h) (v := grf (gad g 7) (σ 6 c 6)) rfl dX2_isIdle_9 ?_
    refine gx_ifnonnull (tgt := 19) hx hb dX2_isIdle_12 (by decide) (fun c_3 => ?_) (fun c_3 => ?_)
    · skip
      refine lv_iconst (v := 0) hx hb dX2_isIdle_19 (by decide) ?_
      exact gx_zretR hx hb hr hlocks (by first | (simp only [xIdle, bI, c_1, c_3, reduceIte, eq_self, Bool.false_eq_true]; done) | simp [xIdle, bI, c_1, c_3]) rfl (Nat.le_of_ble_eq_true rfl) (Nat.le_of_ble_eq_true rfl) dX2_isIdle_20
    · skip
      refine lv_iconst (v := 1) hx hb dX2_isIdle_15 (by decide) ?_
      refine lv_goto (tgt := 20) hx hb dX2_isIdle_16 (by decide) ?_
      exact gx_zretR hx hb hr hlocks (by first | (simp only [xIdle, bI, c_1, c_3, reduceIte, eq_self, Bool.false_eq_true]; done) | simp [xIdle, bI, c_1, c_3]) rfl (Nat.le_of_ble_eq_true rfl) (Nat.le_of_ble_eq_true rfl) dX2_isIdle_20
set_option maxHeartbeats 4000000 in
set_option maxRecDepth 100000 in
theorem c_X2_offeredTo (l : Launch) (g : gG) (σ : Mem) (w : Int64) (c : Nat) (hc : c < gcn g 6) : Met l yX2_offeredTo wsX2_offeredTo ({ frames := 0, cells := 0, slots := 0, locals := 0 } : Room) (gPc g σ w [.ref (gad g 6 c)]) (gR (grf (gad g 7) (xOff σ c))) 0 0 (fun _ => False) := by
  refine gx_ofW (cc := cX2_offeredTo) (maxL := 1) (ret := (some (.object "TaxiRank$Order"))) (by decide) rfl (Nat.le_of_ble_eq_true rfl) ?_
  intro p e s m below meth c0 hx hb hr hml hts hown hlocks hin hG hZ hS ls hl
  have hown : s.vm.findClass RX2 = some m.cls := hown
  have hl : lv_has ls 1 [(0, .ref (gad g 6 c))] := hl
  have k1 := hts (.fieldLink RX2 80 "TaxiRank$Cab" "state" "I") (by decide +kernel)
  have k2 := hts (.fieldLink RX2 251 "TaxiRank$Cab" "order" "LTaxiRank$Order;") (by decide +kernel)
  refine lv_aload_n hx hb dX2_offeredTo_0 rfl (lv_at hl 0 rfl) ?_
  refine gx_get hx hb hown hZ hG 6 c 3 hc rfl (by decide) k1 (fun _ h => h) (v := .int (σ 6 c 3)) rfl dX2_offeredTo_1 ?_
  refine lv_iconst (v := 1) hx hb dX2_offeredTo_4 (by decide) ?_
  refine lv_icmp_ne (tgt := 15) hx hb dX2_offeredTo_5 (by decide) (fun c_1 => ?_) (fun c_1 => ?_)
  · skip
    refine lv_null hx hb dX2_offeredTo_15 ?_
    exact gx_aretR hx hb hr (Or.inl ⟨_, rfl⟩) hlocks (Or.inl rfl) (by first | (simp only [xOff, grf_m1, c_1, reduceIte, eq_self, Bool.false_eq_true]; done) | simp [xOff, grf_m1, c_1]) (Nat.le_of_ble_eq_true rfl) (Nat.le_of_ble_eq_true rfl) dX2_offeredTo_16
  · skip
    refine lv_aload_n hx hb dX2_offeredTo_8 rfl (lv_at hl 0 rfl) ?_
    have v_2 : σ 6 c 6 = -1 ∨ ∃ j, j < gcn g 7 ∧ σ 6 c 6 = nI j := hG.2.2.1 6 c 6 hc
    refine gx_get hx hb hown hZ hG 6 c 6 hc rfl (by decide) k2 (fun _ h => h) (v := grf (gad g 7) (σ 6 c 6)) rfl dX2_offeredTo_9 ?_
    refine lv_goto (tgt := 16) hx hb dX2_offeredTo_12 (by decide) ?_
    exact gx_aretR hx hb hr (Or.inl ⟨_, rfl⟩) hlocks (grf_or _ _) (by first | (simp only [xOff, grf_m1, c_1, reduceIte, eq_self, Bool.false_eq_true]; done) | simp [xOff, grf_m1, c_1]) (Nat.le_of_ble_eq_true rfl) (Nat.le_of_ble_eq_true rfl) dX2_offeredTo_16
set_option maxHeartbeats 4000000 in
set_option maxRecDepth 100000 in
theorem c_X2_isLookedAt (l : Launch) (g : gG) (σ : Mem) (w : Int64) (o : Nat) (hX : Xok g σ) (ho : o < gcn g 7) : Met l yX2_isLookedAt wsX2_isLookedAt ({ frames := 0, cells := 0, slots := 0, locals := 0 } : Room) (gPc g σ w [.ref (gad g 0 0), .ref (gad g 7 o)]) (gR (.int (bI (xLook σ o)))) 0 0 (fun _ => False) := by
  refine gx_ofW (cc := cX2_isLookedAt) (maxL := 2) (ret := (some .boolean)) (by decide) rfl (Nat.le_of_ble_eq_true rfl) ?_
  intro p e s m below meth c0 hx hb hr hml hts hown hlocks hin hG hZ hS ls hl
  have hown : s.vm.findClass RX2 = some m.cls := hown
  have hl : lv_has ls 2 [(0, .ref (gad g 0 0)), (1, .ref (gad g 7 o))] := hl
  have k1 := hts (.fieldLink RX2 152 "TaxiRank$Order" "state" "I") (by decide +kernel)
  have k2 := hts (.fieldLink RX2 120 "TaxiRank" "time" "I") (by decide +kernel)
  have k3 := hts (.fieldLink RX2 141 "TaxiRank$Order" "due" "I") (by decide +kernel)
  refine lv_aload_n hx hb dX2_isLookedAt_0 rfl (lv_at hl 1 rfl) ?_
  refine gx_get hx hb hown hZ hG 7 o 5 ho rfl (by decide) k1 (fun _ h => h) (v := .int (σ 7 o 5)) rfl dX2_isLookedAt_1 ?_
  refine lv_if_ne (tgt := 25) hx hb dX2_isLookedAt_4 (by decide) (fun c_1 => ?_) (fun c_1 => ?_)
  · skip
    refine lv_iconst (v := 0) hx hb dX2_isLookedAt_25 (by decide) ?_
    exact gx_zretR hx hb hr hlocks (by first | (simp only [xLook, bI, c_1, reduceIte, eq_self, Bool.false_eq_true]; done) | simp [xLook, bI, c_1]) rfl (Nat.le_of_ble_eq_true rfl) (Nat.le_of_ble_eq_true rfl) dX2_isLookedAt_26
  · skip
    refine lv_aload_n hx hb dX2_isLookedAt_7 rfl (lv_at hl 0 rfl) ?_
    refine gx_get hx hb hown hZ hG 0 0 3 hX.k0 rfl (by decide) k2 (fun _ h => h) (v := .int (σ 0 0 3)) rfl dX2_isLookedAt_8 ?_
    refine lv_aload_n hx hb dX2_isLookedAt_11 rfl (lv_at hl 1 rfl) ?_
    refine gx_get hx hb hown hZ hG 7 o 4 ho rfl (by decide) k3 (fun _ h => h) (v := .int (σ 7 o 4)) rfl dX2_isLookedAt_12 ?_
    refine lv_bipush (v := 15) hx hb dX2_isLookedAt_15 (by decide) ?_
    refine lv_isub hx hb dX2_isLookedAt_17 ?_
    refine lv_icmp_lt (tgt := 25) hx hb dX2_isLookedAt_18 (by decide) (fun c_2 => ?_) (fun c_2 => ?_)
    · skip
      refine lv_iconst (v := 0) hx hb dX2_isLookedAt_25 (by decide) ?_
      exact gx_zretR hx hb hr hlocks (by first | (simp only [xLook, bI, c_1, c_2, reduceIte, eq_self, Bool.false_eq_true]; done) | simp [xLook, bI, c_1, c_2]) rfl (Nat.le_of_ble_eq_true rfl) (Nat.le_of_ble_eq_true rfl) dX2_isLookedAt_26
    · skip
      refine lv_iconst (v := 1) hx hb dX2_isLookedAt_21 (by decide) ?_
      refine lv_goto (tgt := 26) hx hb dX2_isLookedAt_22 (by decide) ?_
      exact gx_zretR hx hb hr hlocks (by first | (simp only [xLook, bI, c_1, c_2, reduceIte, eq_self, Bool.false_eq_true]; done) | simp [xLook, bI, c_1, c_2]) rfl (Nat.le_of_ble_eq_true rfl) (Nat.le_of_ble_eq_true rfl) dX2_isLookedAt_26
set_option maxHeartbeats 4000000 in
set_option maxRecDepth 100000 in
theorem c_X2_refuserBit (l : Launch) (g : gG) (σ : Mem) (w : Int64) (c : Nat) (hc : c < gcn g 6) : Met l yX2_refuserBit wsX2_refuserBit ({ frames := 0, cells := 0, slots := 0, locals := 0 } : Room) (gPc g σ w [.ref (gad g 6 c)]) (gR (.int (xBit σ c))) 0 0 (fun _ => False) := by
  refine gx_ofW (cc := cX2_refuserBit) (maxL := 1) (ret := (some .int)) (by decide) rfl (Nat.le_of_ble_eq_true rfl) ?_
  intro p e s m below meth c0 hx hb hr hml hts hown hlocks hin hG hZ hS ls hl
  have hown : s.vm.findClass RX2 = some m.cls := hown
  have hl : lv_has ls 1 [(0, .ref (gad g 6 c))] := hl
  have k1 := hts (.fieldLink RX2 250 "TaxiRank$Cab" "number" "I") (by decide +kernel)
  refine lv_iconst (v := 1) hx hb dX2_refuserBit_0 (by decide) ?_
  refine lv_aload_n hx hb dX2_refuserBit_1 rfl (lv_at hl 0 rfl) ?_
  refine gx_get hx hb hown hZ hG 6 c 0 hc rfl (by decide) k1 (fun _ h => h) (v := .int (σ 6 c 0)) rfl dX2_refuserBit_2 ?_
  refine lv_ishl hx hb dX2_refuserBit_5 ?_
  exact gx_iretR hx hb hr hlocks rfl (Nat.le_of_ble_eq_true rfl) (Nat.le_of_ble_eq_true rfl) dX2_refuserBit_6
set_option maxHeartbeats 4000000 in
set_option maxRecDepth 100000 in
theorem c_X2_rankOfZone (l : Launch) (g : gG) (σ : Mem) (w : Int64) (z a : Int32) (hX : Xok g σ) : Met l yX2_rankOfZone wsX2_rankOfZone ({ frames := 1, cells := 0, slots := 0, locals := 23 } : Room) (gPc g σ w [.ref (gad g 0 0), .int (z), .int (a)]) (gR (.int (xRank σ z a))) 0 0 (fun _ => False) := by
  refine gx_ofW (cc := cX2_rankOfZone) (maxL := 3) (ret := (some .int)) (by decide) rfl (Nat.le_of_ble_eq_true rfl) ?_
  intro p e s m below meth c0 hx hb hr hml hts hown hlocks hin hG hZ hS ls hl
  have hown : s.vm.findClass RX2 = some m.cls := hown
  have hl : lv_has ls 3 [(0, .ref (gad g 0 0)), (1, .int (z)), (2, .int (a))] := hl
  refine lv_iload_n hx hb dX2_rankOfZone_0 rfl (lv_at hl 1 rfl) ?_
  refine lv_iload_n hx hb dX2_rankOfZone_1 rfl (lv_at hl 2 rfl) ?_
  refine lv_icmp_ne (tgt := 9) hx hb dX2_rankOfZone_2 (by decide) (fun c_1 => ?_) (fun c_1 => ?_)
  · skip
    refine lv_aload_n hx hb dX2_rankOfZone_9 rfl (lv_at hl 0 rfl) ?_
    refine lv_iload_n hx hb dX2_rankOfZone_10 rfl (lv_at hl 1 rfl) ?_
    refine lv_iload_n hx hb dX2_rankOfZone_11 rfl (lv_at hl 2 rfl) ?_
    refine gx_cR (gx_runV (As := [.int (z), .int (a)]) (rest := []) ⟨hx, hb, hml, hown, hts⟩ (c_X2_wayBetween l g σ w z a hX) (cwV 2 hts gX2_rankOfZone_X2_wayBetween rfl rfl rfl (by decide +kernel) ⟨Nat.le_of_ble_eq_true rfl, Nat.le_of_ble_eq_true rfl⟩) (gx_obj hZ hG 0 0 hX.k0 rfl) hZ hG hS rfl hl.1 rfl (Nat.le_of_ble_eq_true rfl) dX2_rankOfZone_12 ⟨Nat.le_of_ble_eq_true rfl, Nat.le_of_ble_eq_true rfl⟩) ?_
    refine lv_bipush (v := 6) hx hb dX2_rankOfZone_15 (by decide) ?_
    refine lv_imul hx hb dX2_rankOfZone_17 ?_
    refine lv_iload_n hx hb dX2_rankOfZone_18 rfl (lv_at hl 1 rfl) ?_
    refine lv_iadd hx hb dX2_rankOfZone_19 ?_
    exact gx_iretR hx hb hr hlocks (by first | (simp only [xRank, c_1, reduceIte, eq_self, Bool.false_eq_true]; done) | simp [xRank, c_1]) (Nat.le_of_ble_eq_true rfl) (Nat.le_of_ble_eq_true rfl) dX2_rankOfZone_20
  · skip
    refine lv_iconst (v := 0) hx hb dX2_rankOfZone_5 (by decide) ?_
    refine lv_goto (tgt := 20) hx hb dX2_rankOfZone_6 (by decide) ?_
    exact gx_iretR hx hb hr hlocks (by first | (simp only [xRank, c_1, reduceIte, eq_self, Bool.false_eq_true]; done) | simp [xRank, c_1]) (Nat.le_of_ble_eq_true rfl) (Nat.le_of_ble_eq_true rfl) dX2_rankOfZone_20
set_option maxHeartbeats 4000000 in
set_option maxRecDepth 100000 in
theorem c_X2_canBeOffered (l : Launch) (g : gG) (σ : Mem) (w : Int64) (o c : Nat) (ho : o < gcn g 7) (hc : c < gcn g 6) : Met l yX2_canBeOffered wsX2_canBeOffered ({ frames := 1, cells := 0, slots := 0, locals := 20 } : Room) (gPc g σ w [.ref (gad g 7 o), .ref (gad g 6 c)]) (gR (.int (bI (xCan σ o c)))) 0 0 (fun _ => False) := by
  refine gx_ofW (cc := cX2_canBeOffered) (maxL := 2) (ret := (some .boolean)) (by decide) rfl (Nat.le_of_ble_eq_true rfl) ?_
  intro p e s m below meth c0 hx hb hr hml hts hown hlocks hin hG hZ hS ls hl
  have hown : s.vm.findClass RX2 = some m.cls := hown
  have hl : lv_has ls 2 [(0, .ref (gad g 7 o)), (1, .ref (gad g 6 c))] := hl
  have k1 := hts (.fieldLink RX2 208 "TaxiRank$Cab" "seats" "I") (by decide +kernel)
  have k2 := hts (.fieldLink RX2 281 "TaxiRank$Order" "passengers" "I") (by decide +kernel)
  have k3 := hts (.fieldLink RX2 284 "TaxiRank$Order" "refusers" "I") (by decide +kernel)
  refine lv_aload_n hx hb dX2_canBeOffered_0 rfl (lv_at hl 1 rfl) ?_
  refine gx_cR (gx_runS (As := [.ref (gad g 6 c)]) (rest := []) ⟨hx, hb, hml, hown, hts⟩ (c_X2_isIdle l g σ w c hc) (va_cwS 1 hts gX2_canBeOffered_X2_isIdle rfl rfl rfl (by decide +kernel) ⟨Nat.le_of_ble_eq_true rfl, Nat.le_of_ble_eq_true rfl⟩) hZ hG hS rfl hl.1 rfl (Nat.le_of_ble_eq_true rfl) dX2_canBeOffered_1 ⟨Nat.le_of_ble_eq_true rfl, Nat.le_of_ble_eq_true rfl⟩) ?_
  refine lv_if_eq (tgt := 34) hx hb dX2_canBeOffered_4 (by decide) (fun c_1 => ?_) (fun c_1 => ?_)
  · skip
    have c_1 := bI_eq0.mp c_1
    refine lv_iconst (v := 0) hx hb dX2_canBeOffered_34 (by decide) ?_
    exact gx_zretR hx hb hr hlocks (by first | (simp only [xCan, bI, c_1, reduceIte, eq_self, Bool.false_eq_true]; done) | simp [xCan, bI, c_1]) rfl (Nat.le_of_ble_eq_true rfl) (Nat.le_of_ble_eq_true rfl) dX2_canBeOffered_35
  · skip
    have c_1 := bI_ne0.mp c_1
    refine lv_aload_n hx hb dX2_canBeOffered_7 rfl (lv_at hl 1 rfl) ?_
    refine gx_get hx hb hown hZ hG 6 c 1 hc rfl (by decide) k1 (fun _ h => h) (v := .int (σ 6 c 1)) rfl dX2_canBeOffered_8 ?_
    refine lv_aload_n hx hb dX2_canBeOffered_11 rfl (lv_at hl 0 rfl) ?_
    refine gx_get hx hb hown hZ hG 7 o 3 ho rfl (by decide) k2 (fun _ h => h) (v := .int (σ 7 o 3)) rfl dX2_canBeOffered_12 ?_
    refine lv_icmp_lt (tgt := 34) hx hb dX2_canBeOffered_15 (by decide) (fun c_2 => ?_) (fun c_2 => ?_)
    · skip
      refine lv_iconst (v := 0) hx hb dX2_canBeOffered_34 (by decide) ?_
      exact gx_zretR hx hb hr hlocks (by first | (simp only [xCan, bI, c_1, c_2, reduceIte, eq_self, Bool.false_eq_true]; done) | simp [xCan, bI, c_1, c_2]) rfl (Nat.le_of_ble_eq_true rfl) (Nat.le_of_ble_eq_true rfl) dX2_canBeOffered_35
    · skip
      refine lv_aload_n hx hb dX2_canBeOffered_18 rfl (lv_at hl 0 rfl) ?_
      refine gx_get hx hb hown hZ hG 7 o 8 ho rfl (by decide) k3 (fun _ h => h) (v := .int (σ 7 o 8)) rfl dX2_canBeOffered_19 ?_
      refine lv_aload_n hx hb dX2_canBeOffered_22 rfl (lv_at hl 1 rfl) ?_
      refine gx_cR (gx_runS (As := [.ref (gad g 6 c)]) (rest := [.int (σ 7 o 8)]) ⟨hx, hb, hml, hown, hts⟩ (c_X2_refuserBit l g σ w c hc) (va_cwS 1 hts gX2_canBeOffered_X2_refuserBit rfl rfl rfl (by decide +kernel) ⟨Nat.le_of_ble_eq_true rfl, Nat.le_of_ble_eq_true rfl⟩) hZ hG hS rfl hl.1 rfl (Nat.le_of_ble_eq_true rfl) dX2_canBeOffered_23 ⟨Nat.le_of_ble_eq_true rfl, Nat.le_of_ble_eq_true rfl⟩) ?_
      refine lv_iand hx hb dX2_canBeOffered_26 ?_
      refine lv_if_ne (tgt := 34) hx hb dX2_canBeOffered_27 (by decide) (fun c_3 => ?_) (fun c_3 => ?_)
      · skip
        refine lv_iconst (v := 0) hx hb dX2_canBeOffered_34 (by decide) ?_
        exact gx_zretR hx hb hr hlocks (by first | (simp only [xCan, bI, c_1, c_2, c_3, reduceIte, eq_self, Bool.false_eq_true]; done) | simp [xCan, bI, c_1, c_2, c_3]) rfl (Nat.le_of_ble_eq_true rfl) (Nat.le_of_ble_eq_true rfl) dX2_canBeOffered_35
      · skip
        refine lv_iconst (v := 1) hx hb dX2_canBeOffered_30 (by decide) ?_
        refine lv_goto (tgt := 35) hx hb dX2_canBeOffered_31 (by decide) ?_
        exact gx_zretR hx hb hr hlocks (by first | (simp only [xCan, bI, c_1, c_2, c_3, reduceIte, eq_self, Bool.false_eq_true]; done) | simp [xCan, bI, c_1, c_2, c_3]) rfl (Nat.le_of_ble_eq_true rfl) (Nat.le_of_ble_eq_true rfl) dX2_canBeOffered_35
