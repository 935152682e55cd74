set_option maxHeartbeats 4000000 in
set_option maxRecDepth 100000 in
theorem c_L_setWay (l : Launch) (hl0 : l.stackTraces = false) (g : gG) (σ : Mem) (w : Int64) (a b n : Int32) (hX : Xok g σ) (ho1 : gcn g 10 = 1) (ho2 : gln g 10 0 = 1) : vx_Met l yL_setWay wsL_setWay ({ frames := 8, cells := 3, slots := 18, locals := 136 } : Room) (gPc g σ w [.ref (gad g 0 0), .int (a), .int (b), .int (n), .ref (gad g 10 0)]) (gE g (fun v H => (¬ xSetWayE a b n = 0 ∧ v = some (.int (xSetWayE a b n)) ∧ GW g σ w H) ∨ (xSetWayE a b n = 0 ∧ v = some (.int 0) ∧ GW g (xSetWay σ a b n) (xWay σ a b).toInt64 H))) (fun _ _ _ => False) 3 18 (gA g) := by
  refine gx_ofWH (cc := cL_setWay) (maxL := 6) (ret := (some .int)) (hh := [(0, 12, 15, 13), (0, 12, 19, 15)]) (by decide) rfl (Nat.le_of_ble_eq_true rfl) ?_
  intro p e s m below meth c0 hx hb hr hml hts hown hlocks hbt hG hZ hS ls hl
  have hown : s.vm.findClass RL = some m.cls := hown
  have hl : lv_has ls 6 [(0, .ref (gad g 0 0)), (1, .int (a)), (2, .int (b)), (3, .int (n)), (4, .ref (gad g 10 0))] := hl
  have k1 := hts (.classLink RL 13 "java/lang/IndexOutOfBoundsException") (by decide +kernel)
  have k2 := hts (.classLink RL 15 "java/lang/IllegalArgumentException") (by decide +kernel)
  refine lv_aload hx hb dL_setWay_0 (lv_at hl 4 rfl) ?_
  refine lv_iconst (v := 0) hx hb dL_setWay_2 (by decide) ?_
  refine lv_aload_n hx hb dL_setWay_3 rfl (lv_at hl 0 rfl) ?_
  refine lv_iload_n hx hb dL_setWay_4 rfl (lv_at hl 1 rfl) ?_
  refine lv_iload_n hx hb dL_setWay_5 rfl (lv_at hl 2 rfl) ?_
  refine lv_iload_n hx hb dL_setWay_6 rfl (lv_at hl 3 rfl) ?_
  refine gx_cMx (gx_xrunV (As := [.int (a), .int (b), .int (n)]) (rest := [.int (0), .ref (gad g 10 0)]) ⟨hx, hb, hml, hown, hts⟩ (c_X2_setWay l hl0 g σ w a b n hX) (cwV 3 hts gL_setWay_X2_setWay rfl rfl rfl (by decide +kernel) ⟨Nat.le_of_ble_eq_true rfl, Nat.le_of_ble_eq_true rfl⟩) (gx_obj hZ hG 0 0 hX.k0 rfl) hZ hG hS rfl hl.1 rfl (Nat.le_of_ble_eq_true rfl) dL_setWay_7 ⟨Nat.le_of_ble_eq_true rfl, Nat.le_of_ble_eq_true rfl⟩) hG hS (fun E ce q9 H1 locs1 hPE hG hS hz1 hk1 hce hcv hcl => ?_) (fun H1 locs1 hD hG hS hsz => ?_)
  · skip
    rcases hPE with ⟨rfl, hE⟩ | ⟨rfl, hE⟩
    · skip
      refine vx_catch hown [] ⟨0, 12, 15, 13⟩ [⟨0, 12, 19, 15⟩] (hbt.trans rfl) (fun z hz => nomatch hz) (by decide) (by decide) k1 (va_Nw.use rfl (hZ.2.2.2.2.2.1 ("java/lang/IndexOutOfBoundsException", "java/lang/IndexOutOfBoundsException") (by decide +kernel))) hce hcv hcl ?_
      refine W.eq (g2 := F0 m 15 ls [.ref q9]) rfl ?_
      refine lv_astore (lv' := [(5, .ref q9), (0, .ref (gad g 0 0)), (1, .int (a)), (2, .int (b)), (3, .int (n)), (4, .ref (gad g 10 0))]) hx hb dL_setWay_15 hl (by decide) rfl (fun ls hl => ?_)
      refine lv_iconst (v := 1) hx hb dL_setWay_17 (by decide) ?_
      exact vx_ret (gx_iretE hx hb hr hlocks hS (Or.inl ⟨by rw [hE]; decide, by rw [hE], hG⟩) (Nat.le_of_ble_eq_true rfl) (Nat.le_of_ble_eq_true rfl) dL_setWay_18)
    · skip
      refine vx_catch hown [⟨0, 12, 15, 13⟩] ⟨0, 12, 19, 15⟩ [] (hbt.trans rfl) (List.forall_mem_cons.mpr ⟨Or.inr ⟨by decide, _, k1, hZ.2.2.2.2.2.2.1 ("java/lang/IllegalArgumentException", "java/lang/IndexOutOfBoundsException") (by decide +kernel)⟩, fun _ h => absurd h List.not_mem_nil⟩) (by decide) (by decide) k2 (va_Nw.use rfl (hZ.2.2.2.2.2.1 ("java/lang/IllegalArgumentException", "java/lang/IllegalArgumentException") (by decide +kernel))) hce hcv hcl ?_
      refine W.eq (g2 := F0 m 19 ls [.ref q9]) rfl ?_
      refine lv_astore (lv' := [(5, .ref q9), (0, .ref (gad g 0 0)), (1, .int (a)), (2, .int (b)), (3, .int (n)), (4, .ref (gad g 10 0))]) hx hb dL_setWay_19 hl (by decide) rfl (fun ls hl => ?_)
      refine lv_iconst (v := 2) hx hb dL_setWay_21 (by decide) ?_
      exact vx_ret (gx_iretE hx hb hr hlocks hS (Or.inl ⟨by rw [hE]; decide, by rw [hE], hG⟩) (Nat.le_of_ble_eq_true rfl) (Nat.le_of_ble_eq_true rfl) dL_setWay_22)
  refine lv_i2l hx hb dL_setWay_10 rfl ?_
  refine gx_last hx hb hZ hG hS (by rw [ho1]; decide) (by rw [ho1]; decide) ho2 (vp_in_nI (by rw [ho2]; decide) (by rw [ho2]; decide)) dL_setWay_11 (fun H locs hG hS => ?_)
  refine lv_goto (tgt := 23) hx hb dL_setWay_12 (by decide) ?_
  refine lv_iconst (v := 0) hx hb dL_setWay_23 (by decide) ?_
  exact vx_ret (gx_iretE hx hb hr hlocks hS (Or.inr ⟨hD, rfl, hG⟩) (Nat.le_of_ble_eq_true rfl) (Nat.le_of_ble_eq_true rfl) dL_setWay_24)
set_option maxHeartbeats 4000000 in
set_option maxRecDepth 100000 in
theorem c_L_start (l : Launch) (hl0 : l.stackTraces = false) (g : gG) (σ : Mem) (w : Int64) (n : Int32) (hX : Xok g σ) (ho1 : gcn g 10 = 1) (ho2 : gln g 10 0 = 1) : vx_Met l yL_start wsL_start ({ frames := 8, cells := 2, slots := 12, locals := 159 } : Room) (gPc g σ w [.ref (gad g 0 0), .int (n), .ref (gad g 10 0)]) (gE g (fun v H => (¬ xStartE σ n = 0 ∧ v = some (.int (xStartE σ n)) ∧ GW g σ w H) ∨ (xStartE σ n = 0 ∧ v = some (.int 0) ∧ GW g (xStart σ n) (xPlace (xStart σ n) (ix n)).toInt64 H))) (fun _ _ _ => False) 2 12 (gA g) := by
  refine gx_ofWH (cc := cL_start) (maxL := 4) (ret := (some .int)) (hh := [(0, 9, 12, 13), (0, 9, 15, 21)]) (by decide) rfl (Nat.le_of_ble_eq_true rfl) ?_
  intro p e s m below meth c0 hx hb hr hml hts hown hlocks hbt hG hZ hS ls hl
  have hown : s.vm.findClass RL = some m.cls := hown
  have hl : lv_has ls 4 [(0, .ref (gad g 0 0)), (1, .int (n)), (2, .ref (gad g 10 0))] := hl
  have k1 := hts (.classLink RL 13 "java/lang/IndexOutOfBoundsException") (by decide +kernel)
  have k2 := hts (.classLink RL 21 "java/lang/IllegalStateException") (by decide +kernel)
  refine lv_aload_n hx hb dL_start_0 rfl (lv_at hl 2 rfl) ?_
  refine lv_iconst (v := 0) hx hb dL_start_1 (by decide) ?_
  refine lv_aload_n hx hb dL_start_2 rfl (lv_at hl 0 rfl) ?_
  refine lv_iload_n hx hb dL_start_3 rfl (lv_at hl 1 rfl) ?_
  refine gx_cMx (gx_xrunV (As := [.int (n)]) (rest := [.int (0), .ref (gad g 10 0)]) ⟨hx, hb, hml, hown, hts⟩ (c_X2_start l hl0 g σ w n hX) (cwV 1 hts gL_start_X2_start rfl rfl rfl (by decide +kernel) ⟨Nat.le_of_ble_eq_true rfl, Nat.le_of_ble_eq_true rfl⟩) (gx_obj hZ hG 0 0 hX.k0 rfl) hZ hG hS rfl hl.1 rfl (Nat.le_of_ble_eq_true rfl) dL_start_4 ⟨Nat.le_of_ble_eq_true rfl, Nat.le_of_ble_eq_true rfl⟩) hG hS (fun E ce q9 H1 locs1 hPE hG hS hz1 hk1 hce hcv hcl => ?_) (fun H1 locs1 hD hG hS hsz => ?_)
  · skip
    rcases hPE with ⟨rfl, hE⟩ | ⟨rfl, hE⟩
    · skip
      refine vx_catch hown [] ⟨0, 9, 12, 13⟩ [⟨0, 9, 15, 21⟩] (hbt.trans rfl) (fun z hz => nomatch hz) (by decide) (by decide) k1 (va_Nw.use rfl (hZ.2.2.2.2.2.1 ("java/lang/IndexOutOfBoundsException", "java/lang/IndexOutOfBoundsException") (by decide +kernel))) hce hcv hcl ?_
      refine W.eq (g2 := F0 m 12 ls [.ref q9]) rfl ?_
      refine lv_astore_n (lv' := [(3, .ref q9), (0, .ref (gad g 0 0)), (1, .int (n)), (2, .ref (gad g 10 0))]) hx hb dL_start_12 rfl hl (by decide) rfl (fun ls hl => ?_)
      refine lv_iconst (v := 1) hx hb dL_start_13 (by decide) ?_
      exact vx_ret (gx_iretE hx hb hr hlocks hS (Or.inl ⟨by rw [hE]; decide, by rw [hE], hG⟩) (Nat.le_of_ble_eq_true rfl) (Nat.le_of_ble_eq_true rfl) dL_start_14)
    · skip
      refine vx_catch hown [⟨0, 9, 12, 13⟩] ⟨0, 9, 15, 21⟩ [] (hbt.trans rfl) (List.forall_mem_cons.mpr ⟨Or.inr ⟨by decide, _, k1, hZ.2.2.2.2.2.2.1 ("java/lang/IllegalStateException", "java/lang/IndexOutOfBoundsException") (by decide +kernel)⟩, fun _ h => absurd h List.not_mem_nil⟩) (by decide) (by decide) k2 (va_Nw.use rfl (hZ.2.2.2.2.2.1 ("java/lang/IllegalStateException", "java/lang/IllegalStateException") (by decide +kernel))) hce hcv hcl ?_
      refine W.eq (g2 := F0 m 15 ls [.ref q9]) rfl ?_
      refine lv_astore_n (lv' := [(3, .ref q9), (0, .ref (gad g 0 0)), (1, .int (n)), (2, .ref (gad g 10 0))]) hx hb dL_start_15 rfl hl (by decide) rfl (fun ls hl => ?_)
      refine lv_iconst (v := 2) hx hb dL_start_16 (by decide) ?_
      exact vx_ret (gx_iretE hx hb hr hlocks hS (Or.inl ⟨by rw [hE]; decide, by rw [hE], hG⟩) (Nat.le_of_ble_eq_true rfl) (Nat.le_of_ble_eq_true rfl) dL_start_17)
  refine lv_i2l hx hb dL_start_7 rfl ?_
  refine gx_last hx hb hZ hG hS (by rw [ho1]; decide) (by rw [ho1]; decide) ho2 (vp_in_nI (by rw [ho2]; decide) (by rw [ho2]; decide)) dL_start_8 (fun H locs hG hS => ?_)
  refine lv_goto (tgt := 18) hx hb dL_start_9 (by decide) ?_
  refine lv_iconst (v := 0) hx hb dL_start_18 (by decide) ?_
  exact vx_ret (gx_iretE hx hb hr hlocks hS (Or.inr ⟨hD, rfl, hG⟩) (Nat.le_of_ble_eq_true rfl) (Nat.le_of_ble_eq_true rfl) dL_start_19)
set_option maxHeartbeats 4000000 in
set_option maxRecDepth 100000 in
theorem c_L_stop (l : Launch) (hl0 : l.stackTraces = false) (g : gG) (σ : Mem) (w : Int64) (n : Int32) (hX : Xok g σ) (ho1 : gcn g 10 = 1) (ho2 : gln g 10 0 = 1) : vx_Met l yL_stop wsL_stop ({ frames := 8, cells := 2, slots := 12, locals := 159 } : Room) (gPc g σ w [.ref (gad g 0 0), .int (n), .ref (gad g 10 0)]) (gE g (fun v H => (¬ xStopE σ n = 0 ∧ v = some (.int (xStopE σ n)) ∧ GW g σ w H) ∨ (xStopE σ n = 0 ∧ v = some (.int 0) ∧ GW g (xStop σ n) (xStop σ n 6 (ix n) 2).toInt64 H))) (fun _ _ _ => False) 2 12 (gA g) := by
  refine gx_ofWH (cc := cL_stop) (maxL := 4) (ret := (some .int)) (hh := [(0, 9, 12, 13), (0, 9, 15, 21)]) (by decide) rfl (Nat.le_of_ble_eq_true rfl) ?_
  intro p e s m below meth c0 hx hb hr hml hts hown hlocks hbt hG hZ hS ls hl
  have hown : s.vm.findClass RL = some m.cls := hown
  have hl : lv_has ls 4 [(0, .ref (gad g 0 0)), (1, .int (n)), (2, .ref (gad g 10 0))] := hl
  have k1 := hts (.classLink RL 13 "java/lang/IndexOutOfBoundsException") (by decide +kernel)
  have k2 := hts (.classLink RL 21 "java/lang/IllegalStateException") (by decide +kernel)
  refine lv_aload_n hx hb dL_stop_0 rfl (lv_at hl 2 rfl) ?_
  refine lv_iconst (v := 0) hx hb dL_stop_1 (by decide) ?_
  refine lv_aload_n hx hb dL_stop_2 rfl (lv_at hl 0 rfl) ?_
  refine lv_iload_n hx hb dL_stop_3 rfl (lv_at hl 1 rfl) ?_
  refine gx_cMx (gx_xrunV (As := [.int (n)]) (rest := [.int (0), .ref (gad g 10 0)]) ⟨hx, hb, hml, hown, hts⟩ (c_X2_stop l hl0 g σ w n hX) (cwV 1 hts gL_stop_X2_stop rfl rfl rfl (by decide +kernel) ⟨Nat.le_of_ble_eq_true rfl, Nat.le_of_ble_eq_true rfl⟩) (gx_obj hZ hG 0 0 hX.k0 rfl) hZ hG hS rfl hl.1 rfl (Nat.le_of_ble_eq_true rfl) dL_stop_4 ⟨Nat.le_of_ble_eq_true rfl, Nat.le_of_ble_eq_true rfl⟩) hG hS (fun E ce q9 H1 locs1 hPE hG hS hz1 hk1 hce hcv hcl => ?_) (fun H1 locs1 hD hG hS hsz => ?_)
  · skip
    rcases hPE with ⟨rfl, hE⟩ | ⟨rfl, hE⟩
    · skip
      refine vx_catch hown [] ⟨0, 9, 12, 13⟩ [⟨0, 9, 15, 21⟩] (hbt.trans rfl) (fun z hz => nomatch hz) (by decide) (by decide) k1 (va_Nw.use rfl (hZ.2.2.2.2.2.1 ("java/lang/IndexOutOfBoundsException", "java/lang/IndexOutOfBoundsException") (by decide +kernel))) hce hcv hcl ?_
      refine W.eq (g2 := F0 m 12 ls [.ref q9]) rfl ?_
      refine lv_astore_n (lv' := [(3, .ref q9), (0, .ref (gad g 0 0)), (1, .int (n)), (2, .ref (gad g 10 0))]) hx hb dL_stop_12 rfl hl (by decide) rfl (fun ls hl => ?_)
      refine lv_iconst (v := 1) hx hb dL_stop_13 (by decide) ?_
      exact vx_ret (gx_iretE hx hb hr hlocks hS (Or.inl ⟨by rw [hE]; decide, by rw [hE], hG⟩) (Nat.le_of_ble_eq_true rfl) (Nat.le_of_ble_eq_true rfl) dL_stop_14)
    · skip
      refine vx_catch hown [⟨0, 9, 12, 13⟩] ⟨0, 9, 15, 21⟩ [] (hbt.trans rfl) (List.forall_mem_cons.mpr ⟨Or.inr ⟨by decide, _, k1, hZ.2.2.2.2.2.2.1 ("java/lang/IllegalStateException", "java/lang/IndexOutOfBoundsException") (by decide +kernel)⟩, fun _ h => absurd h List.not_mem_nil⟩) (by decide) (by decide) k2 (va_Nw.use rfl (hZ.2.2.2.2.2.1 ("java/lang/IllegalStateException", "java/lang/IllegalStateException") (by decide +kernel))) hce hcv hcl ?_
      refine W.eq (g2 := F0 m 15 ls [.ref q9]) rfl ?_
      refine lv_astore_n (lv' := [(3, .ref q9), (0, .ref (gad g 0 0)), (1, .int (n)), (2, .ref (gad g 10 0))]) hx hb dL_stop_15 rfl hl (by decide) rfl (fun ls hl => ?_)
      refine lv_iconst (v := 2) hx hb dL_stop_16 (by decide) ?_
      exact vx_ret (gx_iretE hx hb hr hlocks hS (Or.inl ⟨by rw [hE]; decide, by rw [hE], hG⟩) (Nat.le_of_ble_eq_true rfl) (Nat.le_of_ble_eq_true rfl) dL_stop_17)
  refine lv_i2l hx hb dL_stop_7 rfl ?_
  refine gx_last hx hb hZ hG hS (by rw [ho1]; decide) (by rw [ho1]; decide) ho2 (vp_in_nI (by rw [ho2]; decide) (by rw [ho2]; decide)) dL_stop_8 (fun H locs hG hS => ?_)
  refine lv_goto (tgt := 18) hx hb dL_stop_9 (by decide) ?_
  refine lv_iconst (v := 0) hx hb dL_stop_18 (by decide) ?_
  exact vx_ret (gx_iretE hx hb hr hlocks hS (Or.inr ⟨hD, rfl, hG⟩) (Nat.le_of_ble_eq_true rfl) (Nat.le_of_ble_eq_true rfl) dL_stop_19)
set_option maxHeartbeats 4000000 in
set_option maxRecDepth 100000 in
theorem c_L_setRates (l : Launch) (hl0 : l.stackTraces = false) (g : gG) (σ : Mem) (w : Int64) (a b : Int32) (hX : Xok g σ) (ho1 : gcn g 10 = 1) (ho2 : gln g 10 0 = 1) : vx_Met l yL_setRates wsL_setRates ({ frames := 7, cells := 1, slots := 6, locals := 115 } : Room) (gPc g σ w [.ref (gad g 0 0), .int (a), .int (b), .ref (gad g 10 0)]) (gE g (fun v H => (¬ xSetRatesE a b = 0 ∧ v = some (.int (xSetRatesE a b)) ∧ GW g σ w H) ∨ (xSetRatesE a b = 0 ∧ v = some (.int 0) ∧ GW g (gst (gst σ 0 0 4 a) 0 0 5 b) (σ 0 0 4).toInt64 H))) (fun _ _ _ => False) 1 6 (gA g) := by
  refine gx_ofWH (cc := cL_setRates) (maxL := 5) (ret := (some .int)) (hh := [(0, 10, 13, 15)]) (by decide) rfl (Nat.le_of_ble_eq_true rfl) ?_
  intro p e s m below meth c0 hx hb hr hml hts hown hlocks hbt hG hZ hS ls hl
  have hown : s.vm.findClass RL = some m.cls := hown
  have hl : lv_has ls 5 [(0, .ref (gad g 0 0)), (1, .int (a)), (2, .int (b)), (3, .ref (gad g 10 0))] := hl
  have k1 := hts (.classLink RL 15 "java/lang/IllegalArgumentException") (by decide +kernel)
  refine lv_aload_n hx hb dL_setRates_0 rfl (lv_at hl 3 rfl) ?_
  refine lv_iconst (v := 0) hx hb dL_setRates_1 (by decide) ?_
  refine lv_aload_n hx hb dL_setRates_2 rfl (lv_at hl 0 rfl) ?_
  refine lv_iload_n hx hb dL_setRates_3 rfl (lv_at hl 1 rfl) ?_
  refine lv_iload_n hx hb dL_setRates_4 rfl (lv_at hl 2 rfl) ?_
  refine gx_cMx (gx_xrunV (As := [.int (a), .int (b)]) (rest := [.int (0), .ref (gad g 10 0)]) ⟨hx, hb, hml, hown, hts⟩ (c_X2_setRates l hl0 g σ w a b hX) (cwV 2 hts gL_setRates_X2_setRates rfl rfl rfl (by decide +kernel) ⟨Nat.le_of_ble_eq_true rfl, Nat.le_of_ble_eq_true rfl⟩) (gx_obj hZ hG 0 0 hX.k0 rfl) hZ hG hS rfl hl.1 rfl (Nat.le_of_ble_eq_true rfl) dL_setRates_5 ⟨Nat.le_of_ble_eq_true rfl, Nat.le_of_ble_eq_true rfl⟩) hG hS (fun E ce q9 H1 locs1 hPE hG hS hz1 hk1 hce hcv hcl => ?_) (fun H1 locs1 hD hG hS hsz => ?_)
  · skip
    rcases hPE with ⟨rfl, hE⟩
    · skip
      refine vx_catch hown [] ⟨0, 10, 13, 15⟩ [] (hbt.trans rfl) (fun z hz => nomatch hz) (by decide) (by decide) k1 (va_Nw.use rfl (hZ.2.2.2.2.2.1 ("java/lang/IllegalArgumentException", "java/lang/IllegalArgumentException") (by decide +kernel))) hce hcv hcl ?_
      refine W.eq (g2 := F0 m 13 ls [.ref q9]) rfl ?_
      refine lv_astore (lv' := [(4, .ref q9), (0, .ref (gad g 0 0)), (1, .int (a)), (2, .int (b)), (3, .ref (gad g 10 0))]) hx hb dL_setRates_13 hl (by decide) rfl (fun ls hl => ?_)
      refine lv_iconst (v := 1) hx hb dL_setRates_15 (by decide) ?_
      exact vx_ret (gx_iretE hx hb hr hlocks hS (Or.inl ⟨by rw [hE]; decide, by rw [hE], hG⟩) (Nat.le_of_ble_eq_true rfl) (Nat.le_of_ble_eq_true rfl) dL_setRates_16)
  refine lv_i2l hx hb dL_setRates_8 rfl ?_
  refine gx_last hx hb hZ hG hS (by rw [ho1]; decide) (by rw [ho1]; decide) ho2 (vp_in_nI (by rw [ho2]; decide) (by rw [ho2]; decide)) dL_setRates_9 (fun H locs hG hS => ?_)
  refine lv_goto (tgt := 17) hx hb dL_setRates_10 (by decide) ?_
  refine lv_iconst (v := 0) hx hb dL_setRates_17 (by decide) ?_
  exact vx_ret (gx_iretE hx hb hr hlocks hS (Or.inr ⟨hD, rfl, hG⟩) (Nat.le_of_ble_eq_true rfl) (Nat.le_of_ble_eq_true rfl) dL_setRates_18)
set_option maxHeartbeats 4000000 in
set_option maxRecDepth 100000 in
theorem c_L_cab (l : Launch) (hl0 : l.stackTraces = false) (g : gG) (σ : Mem) (w : Int64) (n x : Int32) (hX : Xok g σ) (ho1 : gcn g 10 = 1) (ho2 : gln g 10 0 = 1) : vx_Met l yL_cab wsL_cab ({ frames := 8, cells := 2, slots := 12, locals := 136 } : Room) (gPc g σ w [.ref (gad g 0 0), .int (n), .int (x), .ref (gad g 10 0)]) (gE g (fun v H => (¬ xCabE σ n x = 0 ∧ v = some (.int (xCabE σ n x)) ∧ GW g σ w H) ∨ (xCabE σ n x = 0 ∧ v = some (.int 0) ∧ GW g σ (xCabDet σ (ix n) x).toInt64 H))) (fun _ _ _ => False) 2 12 (gA g) := by
  refine gx_ofWH (cc := cL_cab) (maxL := 5) (ret := (some .int)) (hh := [(0, 10, 13, 13)]) (by decide) rfl (Nat.le_of_ble_eq_true rfl) ?_
  intro p e s m below meth c0 hx hb hr hml hts hown hlocks hbt hG hZ hS ls hl
  have hown : s.vm.findClass RL = some m.cls := hown
  have hl : lv_has ls 5 [(0, .ref (gad g 0 0)), (1, .int (n)), (2, .int (x)), (3, .ref (gad g 10 0))] := hl
  have k1 := hts (.classLink RL 13 "java/lang/IndexOutOfBoundsException") (by decide +kernel)
  refine lv_aload_n hx hb dL_cab_0 rfl (lv_at hl 3 rfl) ?_
  refine lv_iconst (v := 0) hx hb dL_cab_1 (by decide) ?_
  refine lv_aload_n hx hb dL_cab_2 rfl (lv_at hl 0 rfl) ?_
  refine lv_iload_n hx hb dL_cab_3 rfl (lv_at hl 1 rfl) ?_
  refine lv_iload_n hx hb dL_cab_4 rfl (lv_at hl 2 rfl) ?_
  refine gx_cRx (gx_xrunV (As := [.int (n), .int (x)]) (rest := [.int (0), .ref (gad g 10 0)]) ⟨hx, hb, hml, hown, hts⟩ (c_X2_cab l hl0 g σ w n x hX) (cwV 2 hts gL_cab_X2_cab rfl rfl rfl (by decide +kernel) ⟨Nat.le_of_ble_eq_true rfl, Nat.le_of_ble_eq_true rfl⟩) (gx_obj hZ hG 0 0 hX.k0 rfl) hZ hG hS rfl hl.1 rfl (Nat.le_of_ble_eq_true rfl) dL_cab_5 ⟨Nat.le_of_ble_eq_true rfl, Nat.le_of_ble_eq_true rfl⟩) hG hS (fun E ce q9 H1 hPE hG hS hz1 hk1 hce hcv hcl => ?_) (fun hD => ?_)
  · skip
    rcases hPE with ⟨rfl, hE⟩
    · skip
      refine vx_catch hown [] ⟨0, 10, 13, 13⟩ [] (hbt.trans rfl) (fun z hz => nomatch hz) (by decide) (by decide) k1 (va_Nw.use rfl (hZ.2.2.2.2.2.1 ("java/lang/IndexOutOfBoundsException", "java/lang/IndexOutOfBoundsException") (by decide +kernel))) hce hcv hcl ?_
      refine W.eq (g2 := F0 m 13 ls [.ref q9]) rfl ?_
      refine lv_astore (lv' := [(4, .ref q9), (0, .ref (gad g 0 0)), (1, .int (n)), (2, .int (x)), (3, .ref (gad g 10 0))]) hx hb dL_cab_13 hl (by decide) rfl (fun ls hl => ?_)
      refine lv_iconst (v := 1) hx hb dL_cab_15 (by decide) ?_
      exact vx_ret (gx_iretE hx hb hr hlocks hS (Or.inl ⟨by rw [hE]; decide, by rw [hE], hG⟩) (Nat.le_of_ble_eq_true rfl) (Nat.le_of_ble_eq_true rfl) dL_cab_16)
  refine lv_i2l hx hb dL_cab_8 rfl ?_
  refine gx_last hx hb hZ hG hS (by rw [ho1]; decide) (by rw [ho1]; decide) ho2 (vp_in_nI (by rw [ho2]; decide) (by rw [ho2]; decide)) dL_cab_9 (fun H locs hG hS => ?_)
  refine lv_goto (tgt := 17) hx hb dL_cab_10 (by decide) ?_
  refine lv_iconst (v := 0) hx hb dL_cab_17 (by decide) ?_
  exact vx_ret (gx_iretE hx hb hr hlocks hS (Or.inr ⟨hD, rfl, hG⟩) (Nat.le_of_ble_eq_true rfl) (Nat.le_of_ble_eq_true rfl) dL_cab_18)
set_option maxHeartbeats 4000000 in
set_option maxRecDepth 100000 in
theorem c_L_accept (l : Launch) (hl0 : l.stackTraces = false) (g : gG) (σ : Mem) (w : Int64) (n : Int32) (hX : Xok g σ) (ho1 : gcn g 10 = 1) (ho2 : gln g 10 0 = 1) : vx_Met l yL_accept wsL_accept ({ frames := 8, cells := 2, slots := 12, locals := 161 } : Room) (gPc g σ w [.ref (gad g 0 0), .int (n), .ref (gad g 10 0)]) (gE g (fun v H => (¬ xAcceptE σ n = 0 ∧ v = some (.int (xAcceptE σ n)) ∧ GW g σ w H) ∨ (xAcceptE σ n = 0 ∧ v = some (.int 0) ∧ GW g (xAccept σ n) (xWay σ (σ 6 (ix n) 2) (σ 7 (ix (xOff σ (ix n))) 1)).toInt64 H))) (fun _ _ _ => False) 2 12 (gA g) := by
  refine gx_ofWH (cc := cL_accept) (maxL := 4) (ret := (some .int)) (hh := [(0, 9, 12, 13), (0, 9, 15, 21)]) (by decide) rfl (Nat.le_of_ble_eq_true rfl) ?_
  intro p e s m below meth c0 hx hb hr hml hts hown hlocks hbt hG hZ hS ls hl
  have hown : s.vm.findClass RL = some m.cls := hown
  have hl : lv_has ls 4 [(0, .ref (gad g 0 0)), (1, .int (n)), (2, .ref (gad g 10 0))] := hl
  have k1 := hts (.classLink RL 13 "java/lang/IndexOutOfBoundsException") (by decide +kernel)
  have k2 := hts (.classLink RL 21 "java/lang/IllegalStateException") (by decide +kernel)
  refine lv_aload_n hx hb dL_accept_0 rfl (lv_at hl 2 rfl) ?_
  refine lv_iconst (v := 0) hx hb dL_accept_1 (by decide) ?_
  refine lv_aload_n hx hb dL_accept_2 rfl (lv_at hl 0 rfl) ?_
  refine lv_iload_n hx hb dL_accept_3 rfl (lv_at hl 1 rfl) ?_
  refine gx_cMx (gx_xrunV (As := [.int (n)]) (rest := [.int (0), .ref (gad g 10 0)]) ⟨hx, hb, hml, hown, hts⟩ (c_X2_accept l hl0 g σ w n hX) (cwV 1 hts gL_accept_X2_accept rfl rfl rfl (by decide +kernel) ⟨Nat.le_of_ble_eq_true rfl, Nat.le_of_ble_eq_true rfl⟩) (gx_obj hZ hG 0 0 hX.k0 rfl) hZ hG hS rfl hl.1 rfl (Nat.le_of_ble_eq_true rfl) dL_accept_4 ⟨Nat.le_of_ble_eq_true rfl, Nat.le_of_ble_eq_true rfl⟩) hG hS (fun E ce q9 H1 locs1 hPE hG hS hz1 hk1 hce hcv hcl => ?_) (fun H1 locs1 hD hG hS hsz => ?_)
  · skip
    rcases hPE with ⟨rfl, hE⟩ | ⟨rfl, hE⟩
    · skip
      refine vx_catch hown [] ⟨0, 9, 12, 13⟩ [⟨0, 9, 15, 21⟩] (hbt.trans rfl) (fun z hz => nomatch hz) (by decide) (by decide) k1 (va_Nw.use rfl (hZ.2.2.2.2.2.1 ("java/lang/IndexOutOfBoundsException", "java/lang/IndexOutOfBoundsException") (by decide +kernel))) hce hcv hcl ?_
      refine W.eq (g2 := F0 m 12 ls [.ref q9]) rfl ?_
      refine lv_astore_n (lv' := [(3, .ref q9), (0, .ref (gad g 0 0)), (1, .int (n)), (2, .ref (gad g 10 0))]) hx hb dL_accept_12 rfl hl (by decide) rfl (fun ls hl => ?_)
      refine lv_iconst (v := 1) hx hb dL_accept_13 (by decide) ?_
      exact vx_ret (gx_iretE hx hb hr hlocks hS (Or.inl ⟨by rw [hE]; decide, by rw [hE], hG⟩) (Nat.le_of_ble_eq_true rfl) (Nat.le_of_ble_eq_true rfl) dL_accept_14)
    · skip
      refine vx_catch hown [⟨0, 9, 12, 13⟩] ⟨0, 9, 15, 21⟩ [] (hbt.trans rfl) (List.forall_mem_cons.mpr ⟨Or.inr ⟨by decide, _, k1, hZ.2.2.2.2.2.2.1 ("java/lang/IllegalStateException", "java/lang/IndexOutOfBoundsException") (by decide +kernel)⟩, fun _ h => absurd h List.not_mem_nil⟩) (by decide) (by decide) k2 (va_Nw.use rfl (hZ.2.2.2.2.2.1 ("java/lang/IllegalStateException", "java/lang/IllegalStateException") (by decide +kernel))) hce hcv hcl ?_
      refine W.eq (g2 := F0 m 15 ls [.ref q9]) rfl ?_
      refine lv_astore_n (lv' := [(3, .ref q9), (0, .ref (gad g 0 0)), (1, .int (n)), (2, .ref (gad g 10 0))]) hx hb dL_accept_15 rfl hl (by decide) rfl (fun ls hl => ?_)
      refine lv_iconst (v := 2) hx hb dL_accept_16 (by decide) ?_
      exact vx_ret (gx_iretE hx hb hr hlocks hS (Or.inl ⟨by rw [hE]; decide, by rw [hE], hG⟩) (Nat.le_of_ble_eq_true rfl) (Nat.le_of_ble_eq_true rfl) dL_accept_17)
  refine lv_i2l hx hb dL_accept_7 rfl ?_
  refine gx_last hx hb hZ hG hS (by rw [ho1]; decide) (by rw [ho1]; decide) ho2 (vp_in_nI (by rw [ho2]; decide) (by rw [ho2]; decide)) dL_accept_8 (fun H locs hG hS => ?_)
  refine lv_goto (tgt := 18) hx hb dL_accept_9 (by decide) ?_
  refine lv_iconst (v := 0) hx hb dL_accept_18 (by decide) ?_
  exact vx_ret (gx_iretE hx hb hr hlocks hS (Or.inr ⟨hD, rfl, hG⟩) (Nat.le_of_ble_eq_true rfl) (Nat.le_of_ble_eq_true rfl) dL_accept_19)
set_option maxHeartbeats 4000000 in
set_option maxRecDepth 100000 in
theorem c_L_refuse (l : Launch) (hl0 : l.stackTraces = false) (g : gG) (σ : Mem) (w : Int64) (n : Int32) (hX : Xok g σ) (ho1 : gcn g 10 = 1) (ho2 : gln g 10 0 = 1) : vx_Met l yL_refuse wsL_refuse ({ frames := 8, cells := 2, slots := 12, locals := 160 } : Room) (gPc g σ w [.ref (gad g 0 0), .int (n), .ref (gad g 10 0)]) (gE g (fun v H => (¬ xAcceptE σ n = 0 ∧ v = some (.int (xAcceptE σ n)) ∧ GW g σ w H) ∨ (xAcceptE σ n = 0 ∧ v = some (.int 0) ∧ GW g (xRefuse σ n) (xRefuse σ n 7 (ix (xOff σ (ix n))) 0).toInt64 H))) (fun _ _ _ => False) 2 12 (gA g) := by
  refine gx_ofWH (cc := cL_refuse) (maxL := 4) (ret := (some .int)) (hh := [(0, 9, 12, 13), (0, 9, 15, 21)]) (by decide) rfl (Nat.le_of_ble_eq_true rfl) ?_
  intro p e s m below meth c0 hx hb hr hml hts hown hlocks hbt hG hZ hS ls hl
  have hown : s.vm.findClass RL = some m.cls := hown
  have hl : lv_has ls 4 [(0, .ref (gad g 0 0)), (1, .int (n)), (2, .ref (gad g 10 0))] := hl
  have k1 := hts (.classLink RL 13 "java/lang/IndexOutOfBoundsException") (by decide +kernel)
  have k2 := hts (.classLink RL 21 "java/lang/IllegalStateException") (by decide +kernel)
  refine lv_aload_n hx hb dL_refuse_0 rfl (lv_at hl 2 rfl) ?_
  refine lv_iconst (v := 0) hx hb dL_refuse_1 (by decide) ?_
  refine lv_aload_n hx hb dL_refuse_2 rfl (lv_at hl 0 rfl) ?_
  refine lv_iload_n hx hb dL_refuse_3 rfl (lv_at hl 1 rfl) ?_
  refine gx_cMx (gx_xrunV (As := [.int (n)]) (rest := [.int (0), .ref (gad g 10 0)]) ⟨hx, hb, hml, hown, hts⟩ (c_X2_refuse l hl0 g σ w n hX) (cwV 1 hts gL_refuse_X2_refuse rfl rfl rfl (by decide +kernel) ⟨Nat.le_of_ble_eq_true rfl, Nat.le_of_ble_eq_true rfl⟩) (gx_obj hZ hG 0 0 hX.k0 rfl) hZ hG hS rfl hl.1 rfl (Nat.le_of_ble_eq_true rfl) dL_refuse_4 ⟨Nat.le_of_ble_eq_true rfl, Nat.le_of_ble_eq_true rfl⟩) hG hS (fun E ce q9 H1 locs1 hPE hG hS hz1 hk1 hce hcv hcl => ?_) (fun H1 locs1 hD hG hS hsz => ?_)
  · skip
    rcases hPE with ⟨rfl, hE⟩ | ⟨rfl, hE⟩
    · skip
      refine vx_catch hown [] ⟨0, 9, 12, 13⟩ [⟨0, 9, 15, 21⟩] (hbt.trans rfl) (fun z hz => nomatch hz) (by decide) (by decide) k1 (va_Nw.use rfl (hZ.2.2.2.2.2.1 ("java/lang/IndexOutOfBoundsException", "java/lang/IndexOutOfBoundsException") (by decide +kernel))) hce hcv hcl ?_
      refine W.eq (g2 := F0 m 12 ls [.ref q9]) rfl ?_
      refine lv_astore_n (lv' := [(3, .ref q9), (0, .ref (gad g 0 0)), (1, .int (n)), (2, .ref (gad g 10 0))]) hx hb dL_refuse_12 rfl hl (by decide) rfl (fun ls hl => ?_)
      refine lv_iconst (v := 1) hx hb dL_refuse_13 (by decide) ?_
      exact vx_ret (gx_iretE hx hb hr hlocks hS (Or.inl ⟨by rw [hE]; decide, by rw [hE], hG⟩) (Nat.le_of_ble_eq_true rfl) (Nat.le_of_ble_eq_true rfl) dL_refuse_14)
    · skip
      refine vx_catch hown [⟨0, 9, 12, 13⟩] ⟨0, 9, 15, 21⟩ [] (hbt.trans rfl) (List.forall_mem_cons.mpr ⟨Or.inr ⟨by decide, _, k1, hZ.2.2.2.2.2.2.1 ("java/lang/IllegalStateException", "java/lang/IndexOutOfBoundsException") (by decide +kernel)⟩, fun _ h => absurd h List.not_mem_nil⟩) (by decide) (by decide) k2 (va_Nw.use rfl (hZ.2.2.2.2.2.1 ("java/lang/IllegalStateException", "java/lang/IllegalStateException") (by decide +kernel))) hce hcv hcl ?_
      refine W.eq (g2 := F0 m 15 ls [.ref q9]) rfl ?_
      refine lv_astore_n (lv' := [(3, .ref q9), (0, .ref (gad g 0 0)), (1, .int (n)), (2, .ref (gad g 10 0))]) hx hb dL_refuse_15 rfl hl (by decide) rfl (fun ls hl => ?_)
      refine lv_iconst (v := 2) hx hb dL_refuse_16 (by decide) ?_
      exact vx_ret (gx_iretE hx hb hr hlocks hS (Or.inl ⟨by rw [hE]; decide, by rw [hE], hG⟩) (Nat.le_of_ble_eq_true rfl) (Nat.le_of_ble_eq_true rfl) dL_refuse_17)
  refine lv_i2l hx hb dL_refuse_7 rfl ?_
  refine gx_last hx hb hZ hG hS (by rw [ho1]; decide) (by rw [ho1]; decide) ho2 (vp_in_nI (by rw [ho2]; decide) (by rw [ho2]; decide)) dL_refuse_8 (fun H locs hG hS => ?_)
  refine lv_goto (tgt := 18) hx hb dL_refuse_9 (by decide) ?_
  refine lv_iconst (v := 0) hx hb dL_refuse_18 (by decide) ?_
  exact vx_ret (gx_iretE hx hb hr hlocks hS (Or.inr ⟨hD, rfl, hG⟩) (Nat.le_of_ble_eq_true rfl) (Nat.le_of_ble_eq_true rfl) dL_refuse_19)
set_option maxHeartbeats 4000000 in
set_option maxRecDepth 100000 in
theorem c_L_cancel (l : Launch) (hl0 : l.stackTraces = false) (g : gG) (σ : Mem) (w : Int64) (n : Int32) (hX : Xok g σ) (ho1 : gcn g 10 = 1) (ho2 : gln g 10 0 = 1) : vx_Met l yL_cancel wsL_cancel ({ frames := 8, cells := 2, slots := 12, locals := 160 } : Room) (gPc g σ w [.ref (gad g 0 0), .int (n), .ref (gad g 10 0)]) (gE g (fun v H => (¬ xCancelE σ n = 0 ∧ v = some (.int (xCancelE σ n)) ∧ GW g σ w H) ∨ (xCancelE σ n = 0 ∧ v = some (.int 0) ∧ GW g (xCancel σ n) (σ 7 (ix n) 5).toInt64 H))) (fun _ _ _ => False) 2 12 (gA g) := by
  refine gx_ofWH (cc := cL_cancel) (maxL := 4) (ret := (some .int)) (hh := [(0, 9, 12, 13), (0, 9, 15, 21)]) (by decide) rfl (Nat.le_of_ble_eq_true rfl) ?_
  intro p e s m below meth c0 hx hb hr hml hts hown hlocks hbt hG hZ hS ls hl
  have hown : s.vm.findClass RL = some m.cls := hown
  have hl : lv_has ls 4 [(0, .ref (gad g 0 0)), (1, .int (n)), (2, .ref (gad g 10 0))] := hl
  have k1 := hts (.classLink RL 13 "java/lang/IndexOutOfBoundsException") (by decide +kernel)
  have k2 := hts (.classLink RL 21 "java/lang/IllegalStateException") (by decide +kernel)
  refine lv_aload_n hx hb dL_cancel_0 rfl (lv_at hl 2 rfl) ?_
  refine lv_iconst (v := 0) hx hb dL_cancel_1 (by decide) ?_
  refine lv_aload_n hx hb dL_cancel_2 rfl (lv_at hl 0 rfl) ?_
  refine lv_iload_n hx hb dL_cancel_3 rfl (lv_at hl 1 rfl) ?_
  refine gx_cMx (gx_xrunV (As := [.int (n)]) (rest := [.int (0), .ref (gad g 10 0)]) ⟨hx, hb, hml, hown, hts⟩ (c_X2_cancel l hl0 g σ w n hX) (cwV 1 hts gL_cancel_X2_cancel rfl rfl rfl (by decide +kernel) ⟨Nat.le_of_ble_eq_true rfl, Nat.le_of_ble_eq_true rfl⟩) (gx_obj hZ hG 0 0 hX.k0 rfl) hZ hG hS rfl hl.1 rfl (Nat.le_of_ble_eq_true rfl) dL_cancel_4 ⟨Nat.le_of_ble_eq_true rfl, Nat.le_of_ble_eq_true rfl⟩) hG hS (fun E ce q9 H1 locs1 hPE hG hS hz1 hk1 hce hcv hcl => ?_) (fun H1 locs1 hD hG hS hsz => ?_)
  · skip
    rcases hPE with ⟨rfl, hE⟩ | ⟨rfl, hE⟩
    · skip
      refine vx_catch hown [] ⟨0, 9, 12, 13⟩ [⟨0, 9, 15, 21⟩] (hbt.trans rfl) (fun z hz => nomatch hz) (by decide) (by decide) k1 (va_Nw.use rfl (hZ.2.2.2.2.2.1 ("java/lang/IndexOutOfBoundsException", "java/lang/IndexOutOfBoundsException") (by decide +kernel))) hce hcv hcl ?_
      refine W.eq (g2 := F0 m 12 ls [.ref q9]) rfl ?_
      refine lv_astore_n (lv' := [(3, .ref q9), (0, .ref (gad g 0 0)), (1, .int (n)), (2, .ref (gad g 10 0))]) hx hb dL_cancel_12 rfl hl (by decide) rfl (fun ls hl => ?_)
      refine lv_iconst (v := 1) hx hb dL_cancel_13 (by decide) ?_
      exact vx_ret (gx_iretE hx hb hr hlocks hS (Or.inl ⟨by rw [hE]; decide, by rw [hE], hG⟩) (Nat.le_of_ble_eq_true rfl) (Nat.le_of_ble_eq_true rfl) dL_cancel_14)
    · skip
      refine vx_catch hown [⟨0, 9, 12, 13⟩] ⟨0, 9, 15, 21⟩ [] (hbt.trans rfl) (List.forall_mem_cons.mpr ⟨Or.inr ⟨by decide, _, k1, hZ.2.2.2.2.2.2.1 ("java/lang/IllegalStateException", "java/lang/IndexOutOfBoundsException") (by decide +kernel)⟩, fun _ h => absurd h List.not_mem_nil⟩) (by decide) (by decide) k2 (va_Nw.use rfl (hZ.2.2.2.2.2.1 ("java/lang/IllegalStateException", "java/lang/IllegalStateException") (by decide +kernel))) hce hcv hcl ?_
      refine W.eq (g2 := F0 m 15 ls [.ref q9]) rfl ?_
      refine lv_astore_n (lv' := [(3, .ref q9), (0, .ref (gad g 0 0)), (1, .int (n)), (2, .ref (gad g 10 0))]) hx hb dL_cancel_15 rfl hl (by decide) rfl (fun ls hl => ?_)
      refine lv_iconst (v := 2) hx hb dL_cancel_16 (by decide) ?_
      exact vx_ret (gx_iretE hx hb hr hlocks hS (Or.inl ⟨by rw [hE]; decide, by rw [hE], hG⟩) (Nat.le_of_ble_eq_true rfl) (Nat.le_of_ble_eq_true rfl) dL_cancel_17)
  refine lv_i2l hx hb dL_cancel_7 rfl ?_
  refine gx_last hx hb hZ hG hS (by rw [ho1]; decide) (by rw [ho1]; decide) ho2 (vp_in_nI (by rw [ho2]; decide) (by rw [ho2]; decide)) dL_cancel_8 (fun H locs hG hS => ?_)
  refine lv_goto (tgt := 18) hx hb dL_cancel_9 (by decide) ?_
  refine lv_iconst (v := 0) hx hb dL_cancel_18 (by decide) ?_
  exact vx_ret (gx_iretE hx hb hr hlocks hS (Or.inr ⟨hD, rfl, hG⟩) (Nat.le_of_ble_eq_true rfl) (Nat.le_of_ble_eq_true rfl) dL_cancel_19)
set_option maxHeartbeats 4000000 in
set_option maxRecDepth 100000 in
theorem c_L_told (l : Launch) (hl0 : l.stackTraces = false) (g : gG) (σ : Mem) (w : Int64) (n x : Int32) (hX : Xok g σ) (ho1 : gcn g 10 = 1) (ho2 : gln g 10 0 = 1) : vx_Met l yL_told wsL_told ({ frames := 8, cells := 2, slots := 12, locals := 136 } : Room) (gPc g σ w [.ref (gad g 0 0), .int (n), .int (x), .ref (gad g 10 0)]) (gE g (fun v H => (¬ xToldE σ n x = 0 ∧ v = some (.int (xToldE σ n x)) ∧ GW g σ w H) ∨ (xToldE σ n x = 0 ∧ v = some (.int 0) ∧ GW g σ (xOrdDet σ (ix n) x).toInt64 H))) (fun _ _ _ => False) 2 12 (gA g) := by
  refine gx_ofWH (cc := cL_told) (maxL := 5) (ret := (some .int)) (hh := [(0, 10, 13, 13)]) (by decide) rfl (Nat.le_of_ble_eq_true rfl) ?_
  intro p e s m below meth c0 hx hb hr hml hts hown hlocks hbt hG hZ hS ls hl
  have hown : s.vm.findClass RL = some m.cls := hown
  have hl : lv_has ls 5 [(0, .ref (gad g 0 0)), (1, .int (n)), (2, .int (x)), (3, .ref (gad g 10 0))] := hl
  have k1 := hts (.classLink RL 13 "java/lang/IndexOutOfBoundsException") (by decide +kernel)
  refine lv_aload_n hx hb dL_told_0 rfl (lv_at hl 3 rfl) ?_
  refine lv_iconst (v := 0) hx hb dL_told_1 (by decide) ?_
  refine lv_aload_n hx hb dL_told_2 rfl (lv_at hl 0 rfl) ?_
  refine lv_iload_n hx hb dL_told_3 rfl (lv_at hl 1 rfl) ?_
  refine lv_iload_n hx hb dL_told_4 rfl (lv_at hl 2 rfl) ?_
  refine gx_cRx (gx_xrunV (As := [.int (n), .int (x)]) (rest := [.int (0), .ref (gad g 10 0)]) ⟨hx, hb, hml, hown, hts⟩ (c_X2_told l hl0 g σ w n x hX) (cwV 2 hts gL_told_X2_told rfl rfl rfl (by decide +kernel) ⟨Nat.le_of_ble_eq_true rfl, Nat.le_of_ble_eq_true rfl⟩) (gx_obj hZ hG 0 0 hX.k0 rfl) hZ hG hS rfl hl.1 rfl (Nat.le_of_ble_eq_true rfl) dL_told_5 ⟨Nat.le_of_ble_eq_true rfl, Nat.le_of_ble_eq_true rfl⟩) hG hS (fun E ce q9 H1 hPE hG hS hz1 hk1 hce hcv hcl => ?_) (fun hD => ?_)
  · skip
    rcases hPE with ⟨rfl, hE⟩
    · skip
      refine vx_catch hown [] ⟨0, 10, 13, 13⟩ [] (hbt.trans rfl) (fun z hz => nomatch hz) (by decide) (by decide) k1 (va_Nw.use rfl (hZ.2.2.2.2.2.1 ("java/lang/IndexOutOfBoundsException", "java/lang/IndexOutOfBoundsException") (by decide +kernel))) hce hcv hcl ?_
      refine W.eq (g2 := F0 m 13 ls [.ref q9]) rfl ?_
      refine lv_astore (lv' := [(4, .ref q9), (0, .ref (gad g 0 0)), (1, .int (n)), (2, .int (x)), (3, .ref (gad g 10 0))]) hx hb dL_told_13 hl (by decide) rfl (fun ls hl => ?_)
      refine lv_iconst (v := 1) hx hb dL_told_15 (by decide) ?_
      exact vx_ret (gx_iretE hx hb hr hlocks hS (Or.inl ⟨by rw [hE]; decide, by rw [hE], hG⟩) (Nat.le_of_ble_eq_true rfl) (Nat.le_of_ble_eq_true rfl) dL_told_16)
  refine lv_i2l hx hb dL_told_8 rfl ?_
  refine gx_last hx hb hZ hG hS (by rw [ho1]; decide) (by rw [ho1]; decide) ho2 (vp_in_nI (by rw [ho2]; decide) (by rw [ho2]; decide)) dL_told_9 (fun H locs hG hS => ?_)
  refine lv_goto (tgt := 17) hx hb dL_told_10 (by decide) ?_
  refine lv_iconst (v := 0) hx hb dL_told_17 (by decide) ?_
  exact vx_ret (gx_iretE hx hb hr hlocks hS (Or.inr ⟨hD, rfl, hG⟩) (Nat.le_of_ble_eq_true rfl) (Nat.le_of_ble_eq_true rfl) dL_told_18)
set_option maxHeartbeats 4000000 in
set_option maxRecDepth 100000 in
theorem c_L_fare (l : Launch) (hl0 : l.stackTraces = false) (g : gG) (σ : Mem) (w : Int64) (n x : Int32) (hX : Xok g σ) (ho1 : gcn g 10 = 1) (ho2 : gln g 10 0 = 1) : vx_Met l yL_fare wsL_fare ({ frames := 8, cells := 2, slots := 12, locals := 136 } : Room) (gPc g σ w [.ref (gad g 0 0), .int (n), .int (x), .ref (gad g 10 0)]) (gE g (fun v H => (¬ xToldE σ n x = 0 ∧ v = some (.int (xToldE σ n x)) ∧ GW g σ w H) ∨ (xToldE σ n x = 0 ∧ v = some (.int 0) ∧ GW g σ (xFareP σ (ix n) x).toInt64 H))) (fun _ _ _ => False) 2 12 (gA g) := by
  refine gx_ofWH (cc := cL_fare) (maxL := 5) (ret := (some .int)) (hh := [(0, 10, 13, 13)]) (by decide) rfl (Nat.le_of_ble_eq_true rfl) ?_
  intro p e s m below meth c0 hx hb hr hml hts hown hlocks hbt hG hZ hS ls hl
  have hown : s.vm.findClass RL = some m.cls := hown
  have hl : lv_has ls 5 [(0, .ref (gad g 0 0)), (1, .int (n)), (2, .int (x)), (3, .ref (gad g 10 0))] := hl
  have k1 := hts (.classLink RL 13 "java/lang/IndexOutOfBoundsException") (by decide +kernel)
  refine lv_aload_n hx hb dL_fare_0 rfl (lv_at hl 3 rfl) ?_
  refine lv_iconst (v := 0) hx hb dL_fare_1 (by decide) ?_
  refine lv_aload_n hx hb dL_fare_2 rfl (lv_at hl 0 rfl) ?_
  refine lv_iload_n hx hb dL_fare_3 rfl (lv_at hl 1 rfl) ?_
  refine lv_iload_n hx hb dL_fare_4 rfl (lv_at hl 2 rfl) ?_
  refine gx_cRx (gx_xrunV (As := [.int (n), .int (x)]) (rest := [.int (0), .ref (gad g 10 0)]) ⟨hx, hb, hml, hown, hts⟩ (c_X2_fare l hl0 g σ w n x hX) (cwV 2 hts gL_fare_X2_fare rfl rfl rfl (by decide +kernel) ⟨Nat.le_of_ble_eq_true rfl, Nat.le_of_ble_eq_true rfl⟩) (gx_obj hZ hG 0 0 hX.k0 rfl) hZ hG hS rfl hl.1 rfl (Nat.le_of_ble_eq_true rfl) dL_fare_5 ⟨Nat.le_of_ble_eq_true rfl, Nat.le_of_ble_eq_true rfl⟩) hG hS (fun E ce q9 H1 hPE hG hS hz1 hk1 hce hcv hcl => ?_) (fun hD => ?_)
  · skip
    rcases hPE with ⟨rfl, hE⟩
    · skip
      refine vx_catch hown [] ⟨0, 10, 13, 13⟩ [] (hbt.trans rfl) (fun z hz => nomatch hz) (by decide) (by decide) k1 (va_Nw.use rfl (hZ.2.2.2.2.2.1 ("java/lang/IndexOutOfBoundsException", "java/lang/IndexOutOfBoundsException") (by decide +kernel))) hce hcv hcl ?_
      refine W.eq (g2 := F0 m 13 ls [.ref q9]) rfl ?_
      refine lv_astore (lv' := [(4, .ref q9), (0, .ref (gad g 0 0)), (1, .int (n)), (2, .int (x)), (3, .ref (gad g 10 0))]) hx hb dL_fare_13 hl (by decide) rfl (fun ls hl => ?_)
      refine lv_iconst (v := 1) hx hb dL_fare_15 (by decide) ?_
      exact vx_ret (gx_iretE hx hb hr hlocks hS (Or.inl ⟨by rw [hE]; decide, by rw [hE], hG⟩) (Nat.le_of_ble_eq_true rfl) (Nat.le_of_ble_eq_true rfl) dL_fare_16)
  refine lv_i2l hx hb dL_fare_8 rfl ?_
  refine gx_last hx hb hZ hG hS (by rw [ho1]; decide) (by rw [ho1]; decide) ho2 (vp_in_nI (by rw [ho2]; decide) (by rw [ho2]; decide)) dL_fare_9 (fun H locs hG hS => ?_)
  refine lv_goto (tgt := 17) hx hb dL_fare_10 (by decide) ?_
  refine lv_iconst (v := 0) hx hb dL_fare_17 (by decide) ?_
  exact vx_ret (gx_iretE hx hb hr hlocks hS (Or.inr ⟨hD, rfl, hG⟩) (Nat.le_of_ble_eq_true rfl) (Nat.le_of_ble_eq_true rfl) dL_fare_18)
set_option maxHeartbeats 4000000 in
set_option maxRecDepth 100000 in
theorem c_L_tick (l : Launch) (hl0 : l.stackTraces = false) (g : gG) (σ : Mem) (w : Int64) (n : Int32) (hX : Xok g σ) (ho1 : gcn g 10 = 1) (ho2 : gln g 10 0 = 1) : vx_Met l yL_tick wsL_tick ({ frames := 8, cells := 1, slots := 6, locals := 181 } : Room) (gPc g σ w [.ref (gad g 0 0), .int (n), .ref (gad g 10 0)]) (gE g (fun v H => (¬ xTickE σ n = 0 ∧ v = some (.int (xTickE σ n)) ∧ GW g σ w H) ∨ (xTickE σ n = 0 ∧ v = some (.int 0) ∧ GW g ((xTick σ n).2) ((xTick σ n).1).toInt64 H))) (fun _ _ _ => False) 1 6 (gA g) := by
  refine gx_ofWH (cc := cL_tick) (maxL := 4) (ret := (some .int)) (hh := [(0, 9, 12, 15)]) (by decide) rfl (Nat.le_of_ble_eq_true rfl) ?_
  intro p e s m below meth c0 hx hb hr hml hts hown hlocks hbt hG hZ hS ls hl
  have hown : s.vm.findClass RL = some m.cls := hown
  have hl : lv_has ls 4 [(0, .ref (gad g 0 0)), (1, .int (n)), (2, .ref (gad g 10 0))] := hl
  have k1 := hts (.classLink RL 15 "java/lang/IllegalArgumentException") (by decide +kernel)
  refine lv_aload_n hx hb dL_tick_0 rfl (lv_at hl 2 rfl) ?_
  refine lv_iconst (v := 0) hx hb dL_tick_1 (by decide) ?_
  refine lv_aload_n hx hb dL_tick_2 rfl (lv_at hl 0 rfl) ?_
  refine lv_iload_n hx hb dL_tick_3 rfl (lv_at hl 1 rfl) ?_
  refine gx_cMx (gx_xrunV (As := [.int (n)]) (rest := [.int (0), .ref (gad g 10 0)]) ⟨hx, hb, hml, hown, hts⟩ (c_X2_tick l hl0 g σ w n hX) (cwV 1 hts gL_tick_X2_tick rfl rfl rfl (by decide +kernel) ⟨Nat.le_of_ble_eq_true rfl, Nat.le_of_ble_eq_true rfl⟩) (gx_obj hZ hG 0 0 hX.k0 rfl) hZ hG hS rfl hl.1 rfl (Nat.le_of_ble_eq_true rfl) dL_tick_4 ⟨Nat.le_of_ble_eq_true rfl, Nat.le_of_ble_eq_true rfl⟩) hG hS (fun E ce q9 H1 locs1 hPE hG hS hz1 hk1 hce hcv hcl => ?_) (fun H1 locs1 hD hG hS hsz => ?_)
  · skip
    rcases hPE with ⟨rfl, hE⟩
    · skip
      refine vx_catch hown [] ⟨0, 9, 12, 15⟩ [] (hbt.trans rfl) (fun z hz => nomatch hz) (by decide) (by decide) k1 (va_Nw.use rfl (hZ.2.2.2.2.2.1 ("java/lang/IllegalArgumentException", "java/lang/IllegalArgumentException") (by decide +kernel))) hce hcv hcl ?_
      refine W.eq (g2 := F0 m 12 ls [.ref q9]) rfl ?_
      refine lv_astore_n (lv' := [(3, .ref q9), (0, .ref (gad g 0 0)), (1, .int (n)), (2, .ref (gad g 10 0))]) hx hb dL_tick_12 rfl hl (by decide) rfl (fun ls hl => ?_)
      refine lv_iconst (v := 1) hx hb dL_tick_13 (by decide) ?_
      exact vx_ret (gx_iretE hx hb hr hlocks hS (Or.inl ⟨by rw [hE]; decide, by rw [hE], hG⟩) (Nat.le_of_ble_eq_true rfl) (Nat.le_of_ble_eq_true rfl) dL_tick_14)
  refine lv_i2l hx hb dL_tick_7 rfl ?_
  refine gx_last hx hb hZ hG hS (by rw [ho1]; decide) (by rw [ho1]; decide) ho2 (vp_in_nI (by rw [ho2]; decide) (by rw [ho2]; decide)) dL_tick_8 (fun H locs hG hS => ?_)
  refine lv_goto (tgt := 15) hx hb dL_tick_9 (by decide) ?_
  refine lv_iconst (v := 0) hx hb dL_tick_15 (by decide) ?_
  exact vx_ret (gx_iretE hx hb hr hlocks hS (Or.inr ⟨hD, rfl, hG⟩) (Nat.le_of_ble_eq_true rfl) (Nat.le_of_ble_eq_true rfl) dL_tick_16)
set_option maxHeartbeats 4000000 in
set_option maxRecDepth 100000 in
theorem c_L_queue (l : Launch) (hl0 : l.stackTraces = false) (g : gG) (σ : Mem) (w : Int64) (z p1 : Int32) (hX : Xok g σ) (ho1 : gcn g 10 = 1) (ho2 : gln g 10 0 = 1) : vx_Met l yL_queue wsL_queue ({ frames := 8, cells := 2, slots := 12, locals := 135 } : Room) (gPc g σ w [.ref (gad g 0 0), .int (z), .int (p1), .ref (gad g 10 0)]) (gE g (fun v H => (¬ xQueueE z p1 = 0 ∧ v = some (.int (xQueueE z p1)) ∧ GW g σ w H) ∨ (xQueueE z p1 = 0 ∧ v = some (.int 0) ∧ GW g σ (xCiq σ z p1).toInt64 H))) (fun _ _ _ => False) 2 12 (gA g) := by
  refine gx_ofWH (cc := cL_queue) (maxL := 5) (ret := (some .int)) (hh := [(0, 10, 13, 13)]) (by decide) rfl (Nat.le_of_ble_eq_true rfl) ?_
  intro p e s m below meth c0 hx hb hr hml hts hown hlocks hbt hG hZ hS ls hl
  have hown : s.vm.findClass RL = some m.cls := hown
  have hl : lv_has ls 5 [(0, .ref (gad g 0 0)), (1, .int (z)), (2, .int (p1)), (3, .ref (gad g 10 0))] := hl
  have k1 := hts (.classLink RL 13 "java/lang/IndexOutOfBoundsException") (by decide +kernel)
  refine lv_aload_n hx hb dL_queue_0 rfl (lv_at hl 3 rfl) ?_
  refine lv_iconst (v := 0) hx hb dL_queue_1 (by decide) ?_
  refine lv_aload_n hx hb dL_queue_2 rfl (lv_at hl 0 rfl) ?_
  refine lv_iload_n hx hb dL_queue_3 rfl (lv_at hl 1 rfl) ?_
  refine lv_iload_n hx hb dL_queue_4 rfl (lv_at hl 2 rfl) ?_
  refine gx_cRx (gx_xrunV (As := [.int (z), .int (p1)]) (rest := [.int (0), .ref (gad g 10 0)]) ⟨hx, hb, hml, hown, hts⟩ (c_X2_queue l hl0 g σ w z p1 hX) (cwV 2 hts gL_queue_X2_queue rfl rfl rfl (by decide +kernel) ⟨Nat.le_of_ble_eq_true rfl, Nat.le_of_ble_eq_true rfl⟩) (gx_obj hZ hG 0 0 hX.k0 rfl) hZ hG hS rfl hl.1 rfl (Nat.le_of_ble_eq_true rfl) dL_queue_5 ⟨Nat.le_of_ble_eq_true rfl, Nat.le_of_ble_eq_true rfl⟩) hG hS (fun E ce q9 H1 hPE hG hS hz1 hk1 hce hcv hcl => ?_) (fun hD => ?_)
  · skip
    rcases hPE with ⟨rfl, hE⟩
    · skip
      refine vx_catch hown [] ⟨0, 10, 13, 13⟩ [] (hbt.trans rfl) (fun z hz => nomatch hz) (by decide) (by decide) k1 (va_Nw.use rfl (hZ.2.2.2.2.2.1 ("java/lang/IndexOutOfBoundsException", "java/lang/IndexOutOfBoundsException") (by decide +kernel))) hce hcv hcl ?_
      refine W.eq (g2 := F0 m 13 ls [.ref q9]) rfl ?_
      refine lv_astore (lv' := [(4, .ref q9), (0, .ref (gad g 0 0)), (1, .int (z)), (2, .int (p1)), (3, .ref (gad g 10 0))]) hx hb dL_queue_13 hl (by decide) rfl (fun ls hl => ?_)
      refine lv_iconst (v := 1) hx hb dL_queue_15 (by decide) ?_
      exact vx_ret (gx_iretE hx hb hr hlocks hS (Or.inl ⟨by rw [hE]; decide, by rw [hE], hG⟩) (Nat.le_of_ble_eq_true rfl) (Nat.le_of_ble_eq_true rfl) dL_queue_16)
  refine lv_i2l hx hb dL_queue_8 rfl ?_
  refine gx_last hx hb hZ hG hS (by rw [ho1]; decide) (by rw [ho1]; decide) ho2 (vp_in_nI (by rw [ho2]; decide) (by rw [ho2]; decide)) dL_queue_9 (fun H locs hG hS => ?_)
  refine lv_goto (tgt := 17) hx hb dL_queue_10 (by decide) ?_
  refine lv_iconst (v := 0) hx hb dL_queue_17 (by decide) ?_
  exact vx_ret (gx_iretE hx hb hr hlocks hS (Or.inr ⟨hD, rfl, hG⟩) (Nat.le_of_ble_eq_true rfl) (Nat.le_of_ble_eq_true rfl) dL_queue_18)
set_option maxHeartbeats 4000000 in
set_option maxRecDepth 100000 in
theorem c_L_count (l : Launch) (hl0 : l.stackTraces = false) (g : gG) (σ : Mem) (w : Int64) (x : Int32) (hX : Xok g σ) (ho1 : gcn g 10 = 1) (ho2 : gln g 10 0 = 1) : vx_Met l yL_count wsL_count ({ frames := 7, cells := 1, slots := 6, locals := 113 } : Room) (gPc g σ w [.ref (gad g 0 0), .int (x), .ref (gad g 10 0)]) (gE g (fun v H => (¬ xCountE x = 0 ∧ v = some (.int (xCountE x)) ∧ GW g σ w H) ∨ (xCountE x = 0 ∧ v = some (.int 0) ∧ GW g σ (xCount σ x).toInt64 H))) (fun _ _ _ => False) 1 6 (gA g) := by
  refine gx_ofWH (cc := cL_count) (maxL := 4) (ret := (some .int)) (hh := [(0, 9, 12, 13)]) (by decide) rfl (Nat.le_of_ble_eq_true rfl) ?_
  intro p e s m below meth c0 hx hb hr hml hts hown hlocks hbt hG hZ hS ls hl
  have hown : s.vm.findClass RL = some m.cls := hown
  have hl : lv_has ls 4 [(0, .ref (gad g 0 0)), (1, .int (x)), (2, .ref (gad g 10 0))] := hl
  have k1 := hts (.classLink RL 13 "java/lang/IndexOutOfBoundsException") (by decide +kernel)
  refine lv_aload_n hx hb dL_count_0 rfl (lv_at hl 2 rfl) ?_
  refine lv_iconst (v := 0) hx hb dL_count_1 (by decide) ?_
  refine lv_aload_n hx hb dL_count_2 rfl (lv_at hl 0 rfl) ?_
  refine lv_iload_n hx hb dL_count_3 rfl (lv_at hl 1 rfl) ?_
  refine gx_cRx (gx_xrunV (As := [.int (x)]) (rest := [.int (0), .ref (gad g 10 0)]) ⟨hx, hb, hml, hown, hts⟩ (c_X2_count l hl0 g σ w x hX) (cwV 1 hts gL_count_X2_count rfl rfl rfl (by decide +kernel) ⟨Nat.le_of_ble_eq_true rfl, Nat.le_of_ble_eq_true rfl⟩) (gx_obj hZ hG 0 0 hX.k0 rfl) hZ hG hS rfl hl.1 rfl (Nat.le_of_ble_eq_true rfl) dL_count_4 ⟨Nat.le_of_ble_eq_true rfl, Nat.le_of_ble_eq_true rfl⟩) hG hS (fun E ce q9 H1 hPE hG hS hz1 hk1 hce hcv hcl => ?_) (fun hD => ?_)
  · skip
    rcases hPE with ⟨rfl, hE⟩
    · skip
      refine vx_catch hown [] ⟨0, 9, 12, 13⟩ [] (hbt.trans rfl) (fun z hz => nomatch hz) (by decide) (by decide) k1 (va_Nw.use rfl (hZ.2.2.2.2.2.1 ("java/lang/IndexOutOfBoundsException", "java/lang/IndexOutOfBoundsException") (by decide +kernel))) hce hcv hcl ?_
      refine W.eq (g2 := F0 m 12 ls [.ref q9]) rfl ?_
      refine lv_astore_n (lv' := [(3, .ref q9), (0, .ref (gad g 0 0)), (1, .int (x)), (2, .ref (gad g 10 0))]) hx hb dL_count_12 rfl hl (by decide) rfl (fun ls hl => ?_)
      refine lv_iconst (v := 1) hx hb dL_count_13 (by decide) ?_
      exact vx_ret (gx_iretE hx hb hr hlocks hS (Or.inl ⟨by rw [hE]; decide, by rw [hE], hG⟩) (Nat.le_of_ble_eq_true rfl) (Nat.le_of_ble_eq_true rfl) dL_count_14)
  refine lv_i2l hx hb dL_count_7 rfl ?_
  refine gx_last hx hb hZ hG hS (by rw [ho1]; decide) (by rw [ho1]; decide) ho2 (vp_in_nI (by rw [ho2]; decide) (by rw [ho2]; decide)) dL_count_8 (fun H locs hG hS => ?_)
  refine lv_goto (tgt := 15) hx hb dL_count_9 (by decide) ?_
  refine lv_iconst (v := 0) hx hb dL_count_15 (by decide) ?_
  exact vx_ret (gx_iretE hx hb hr hlocks hS (Or.inr ⟨hD, rfl, hG⟩) (Nat.le_of_ble_eq_true rfl) (Nat.le_of_ble_eq_true rfl) dL_count_16)
set_option maxHeartbeats 4000000 in
set_option maxRecDepth 100000 in
theorem c_L_money (l : Launch) (hl0 : l.stackTraces = false) (g : gG) (σ : Mem) (w : Int64) (n b : Int32) (hX : Xok g σ) (ho1 : gcn g 10 = 1) (ho2 : gln g 10 0 = 1) : vx_Met l yL_money wsL_money ({ frames := 8, cells := 1, slots := 6, locals := 136 } : Room) (gPc g σ w [.ref (gad g 0 0), .int (n), .int (b), .ref (gad g 10 0)]) (gE g (fun v H => (¬ xMoneyE σ n = 0 ∧ v = some (.int (xMoneyE σ n)) ∧ GW g σ w H) ∨ (xMoneyE σ n = 0 ∧ v = some (.int 0) ∧ GW g σ (xMoney σ n b).toInt64 H))) (fun _ _ _ => False) 1 6 (gA g) := by
  refine gx_ofWH (cc := cL_money) (maxL := 5) (ret := (some .int)) (hh := [(0, 10, 13, 13)]) (by decide) rfl (Nat.le_of_ble_eq_true rfl) ?_
  intro p e s m below meth c0 hx hb hr hml hts hown hlocks hbt hG hZ hS ls hl
  have hown : s.vm.findClass RL = some m.cls := hown
  have hl : lv_has ls 5 [(0, .ref (gad g 0 0)), (1, .int (n)), (2, .int (b)), (3, .ref (gad g 10 0))] := hl
  have k1 := hts (.classLink RL 13 "java/lang/IndexOutOfBoundsException") (by decide +kernel)
  refine lv_aload_n hx hb dL_money_0 rfl (lv_at hl 3 rfl) ?_
  refine lv_iconst (v := 0) hx hb dL_money_1 (by decide) ?_
  refine lv_aload_n hx hb dL_money_2 rfl (lv_at hl 0 rfl) ?_
  refine lv_iload_n hx hb dL_money_3 rfl (lv_at hl 1 rfl) ?_
  refine lv_iload_n hx hb dL_money_4 rfl (lv_at hl 2 rfl) ?_
  refine gx_cRx (gx_xrunV (As := [.int (n), .int (b)]) (rest := [.int (0), .ref (gad g 10 0)]) ⟨hx, hb, hml, hown, hts⟩ (c_X2_money l hl0 g σ w n b hX) (cwV 2 hts gL_money_X2_money rfl rfl rfl (by decide +kernel) ⟨Nat.le_of_ble_eq_true rfl, Nat.le_of_ble_eq_true rfl⟩) (gx_obj hZ hG 0 0 hX.k0 rfl) hZ hG hS rfl hl.1 rfl (Nat.le_of_ble_eq_true rfl) dL_money_5 ⟨Nat.le_of_ble_eq_true rfl, Nat.le_of_ble_eq_true rfl⟩) hG hS (fun E ce q9 H1 hPE hG hS hz1 hk1 hce hcv hcl => ?_) (fun hD => ?_)
  · skip
    rcases hPE with ⟨rfl, hE⟩
    · skip
      refine vx_catch hown [] ⟨0, 10, 13, 13⟩ [] (hbt.trans rfl) (fun z hz => nomatch hz) (by decide) (by decide) k1 (va_Nw.use rfl (hZ.2.2.2.2.2.1 ("java/lang/IndexOutOfBoundsException", "java/lang/IndexOutOfBoundsException") (by decide +kernel))) hce hcv hcl ?_
      refine W.eq (g2 := F0 m 13 ls [.ref q9]) rfl ?_
      refine lv_astore (lv' := [(4, .ref q9), (0, .ref (gad g 0 0)), (1, .int (n)), (2, .int (b)), (3, .ref (gad g 10 0))]) hx hb dL_money_13 hl (by decide) rfl (fun ls hl => ?_)
      refine lv_iconst (v := 1) hx hb dL_money_15 (by decide) ?_
      exact vx_ret (gx_iretE hx hb hr hlocks hS (Or.inl ⟨by rw [hE]; decide, by rw [hE], hG⟩) (Nat.le_of_ble_eq_true rfl) (Nat.le_of_ble_eq_true rfl) dL_money_16)
  refine lv_i2l hx hb dL_money_8 rfl ?_
  refine gx_last hx hb hZ hG hS (by rw [ho1]; decide) (by rw [ho1]; decide) ho2 (vp_in_nI (by rw [ho2]; decide) (by rw [ho2]; decide)) dL_money_9 (fun H locs hG hS => ?_)
  refine lv_goto (tgt := 17) hx hb dL_money_10 (by decide) ?_
  refine lv_iconst (v := 0) hx hb dL_money_17 (by decide) ?_
  exact vx_ret (gx_iretE hx hb hr hlocks hS (Or.inr ⟨hD, rfl, hG⟩) (Nat.le_of_ble_eq_true rfl) (Nat.le_of_ble_eq_true rfl) dL_money_18)
set_option maxHeartbeats 4000000 in
set_option maxRecDepth 100000 in
theorem c_L_settle (l : Launch) (hl0 : l.stackTraces = false) (g : gG) (σ : Mem) (w : Int64) (n : Int32) (hX : Xok g σ) (ho1 : gcn g 10 = 1) (ho2 : gln g 10 0 = 1) : vx_Met l yL_settle wsL_settle ({ frames := 8, cells := 1, slots := 6, locals := 136 } : Room) (gPc g σ w [.ref (gad g 0 0), .int (n), .ref (gad g 10 0)]) (gE g (fun v H => (¬ xMoneyE σ n = 0 ∧ v = some (.int (xMoneyE σ n)) ∧ GW g σ w H) ∨ (xMoneyE σ n = 0 ∧ v = some (.int 0) ∧ GW g (gst σ 6 (ix n) 8 0) (σ 6 (ix n) 8).toInt64 H))) (fun _ _ _ => False) 1 6 (gA g) := by
  refine gx_ofWH (cc := cL_settle) (maxL := 4) (ret := (some .int)) (hh := [(0, 9, 12, 13)]) (by decide) rfl (Nat.le_of_ble_eq_true rfl) ?_
  intro p e s m below meth c0 hx hb hr hml hts hown hlocks hbt hG hZ hS ls hl
  have hown : s.vm.findClass RL = some m.cls := hown
  have hl : lv_has ls 4 [(0, .ref (gad g 0 0)), (1, .int (n)), (2, .ref (gad g 10 0))] := hl
  have k1 := hts (.classLink RL 13 "java/lang/IndexOutOfBoundsException") (by decide +kernel)
  refine lv_aload_n hx hb dL_settle_0 rfl (lv_at hl 2 rfl) ?_
  refine lv_iconst (v := 0) hx hb dL_settle_1 (by decide) ?_
  refine lv_aload_n hx hb dL_settle_2 rfl (lv_at hl 0 rfl) ?_
  refine lv_iload_n hx hb dL_settle_3 rfl (lv_at hl 1 rfl) ?_
  refine gx_cMx (gx_xrunV (As := [.int (n)]) (rest := [.int (0), .ref (gad g 10 0)]) ⟨hx, hb, hml, hown, hts⟩ (c_X2_settle l hl0 g σ w n hX) (cwV 1 hts gL_settle_X2_settle rfl rfl rfl (by decide +kernel) ⟨Nat.le_of_ble_eq_true rfl, Nat.le_of_ble_eq_true rfl⟩) (gx_obj hZ hG 0 0 hX.k0 rfl) hZ hG hS rfl hl.1 rfl (Nat.le_of_ble_eq_true rfl) dL_settle_4 ⟨Nat.le_of_ble_eq_true rfl, Nat.le_of_ble_eq_true rfl⟩) hG hS (fun E ce q9 H1 locs1 hPE hG hS hz1 hk1 hce hcv hcl => ?_) (fun H1 locs1 hD hG hS hsz => ?_)
  · skip
    rcases hPE with ⟨rfl, hE⟩
    · skip
      refine vx_catch hown [] ⟨0, 9, 12, 13⟩ [] (hbt.trans rfl) (fun z hz => nomatch hz) (by decide) (by decide) k1 (va_Nw.use rfl (hZ.2.2.2.2.2.1 ("java/lang/IndexOutOfBoundsException", "java/lang/IndexOutOfBoundsException") (by decide +kernel))) hce hcv hcl ?_
      refine W.eq (g2 := F0 m 12 ls [.ref q9]) rfl ?_
      refine lv_astore_n (lv' := [(3, .ref q9), (0, .ref (gad g 0 0)), (1, .int (n)), (2, .ref (gad g 10 0))]) hx hb dL_settle_12 rfl hl (by decide) rfl (fun ls hl => ?_)
      refine lv_iconst (v := 1) hx hb dL_settle_13 (by decide) ?_
      exact vx_ret (gx_iretE hx hb hr hlocks hS (Or.inl ⟨by rw [hE]; decide, by rw [hE], hG⟩) (Nat.le_of_ble_eq_true rfl) (Nat.le_of_ble_eq_true rfl) dL_settle_14)
  refine lv_i2l hx hb dL_settle_7 rfl ?_
  refine gx_last hx hb hZ hG hS (by rw [ho1]; decide) (by rw [ho1]; decide) ho2 (vp_in_nI (by rw [ho2]; decide) (by rw [ho2]; decide)) dL_settle_8 (fun H locs hG hS => ?_)
  refine lv_goto (tgt := 15) hx hb dL_settle_9 (by decide) ?_
  refine lv_iconst (v := 0) hx hb dL_settle_15 (by decide) ?_
  exact vx_ret (gx_iretE hx hb hr hlocks hS (Or.inr ⟨hD, rfl, hG⟩) (Nat.le_of_ble_eq_true rfl) (Nat.le_of_ble_eq_true rfl) dL_settle_16)
set_option maxHeartbeats 4000000 in
set_option maxRecDepth 100000 in
theorem c_L_nearest (l : Launch) (hl0 : l.stackTraces = false) (g : gG) (σ : Mem) (w : Int64) (z n : Int32) (hX : Xok g σ) (ho1 : gcn g 10 = 1) (ho2 : gln g 10 0 = 1) : vx_Met l yL_nearest wsL_nearest ({ frames := 8, cells := 2, slots := 12, locals := 138 } : Room) (gPc g σ w [.ref (gad g 0 0), .int (z), .int (n), .ref (gad g 10 0)]) (gE g (fun v H => (¬ xNearE z n = 0 ∧ v = some (.int (xNearE z n)) ∧ GW g σ w H) ∨ (xNearE z n = 0 ∧ v = some (.int 0) ∧ GW g σ (xNear σ z n).toInt64 H))) (fun _ _ _ => False) 2 12 (gA g) := by
  refine gx_ofWH (cc := cL_nearest) (maxL := 5) (ret := (some .int)) (hh := [(0, 10, 13, 13), (0, 10, 17, 15)]) (by decide) rfl (Nat.le_of_ble_eq_true rfl) ?_
  intro p e s m below meth c0 hx hb hr hml hts hown hlocks hbt hG hZ hS ls hl
  have hown : s.vm.findClass RL = some m.cls := hown
  have hl : lv_has ls 5 [(0, .ref (gad g 0 0)), (1, .int (z)), (2, .int (n)), (3, .ref (gad g 10 0))] := hl
  have k1 := hts (.classLink RL 13 "java/lang/IndexOutOfBoundsException") (by decide +kernel)
  have k2 := hts (.classLink RL 15 "java/lang/IllegalArgumentException") (by decide +kernel)
  refine lv_aload_n hx hb dL_nearest_0 rfl (lv_at hl 3 rfl) ?_
  refine lv_iconst (v := 0) hx hb dL_nearest_1 (by decide) ?_
  refine lv_aload_n hx hb dL_nearest_2 rfl (lv_at hl 0 rfl) ?_
  refine lv_iload_n hx hb dL_nearest_3 rfl (lv_at hl 1 rfl) ?_
  refine lv_iload_n hx hb dL_nearest_4 rfl (lv_at hl 2 rfl) ?_
  refine gx_cRx (gx_xrunV (As := [.int (z), .int (n)]) (rest := [.int (0), .ref (gad g 10 0)]) ⟨hx, hb, hml, hown, hts⟩ (c_X2_nearest l hl0 g σ w z n hX) (cwV 2 hts gL_nearest_X2_nearest rfl rfl rfl (by decide +kernel) ⟨Nat.le_of_ble_eq_true rfl, Nat.le_of_ble_eq_true rfl⟩) (gx_obj hZ hG 0 0 hX.k0 rfl) hZ hG hS rfl hl.1 rfl (Nat.le_of_ble_eq_true rfl) dL_nearest_5 ⟨Nat.le_of_ble_eq_true rfl, Nat.le_of_ble_eq_true rfl⟩) hG hS (fun E ce q9 H1 hPE hG hS hz1 hk1 hce hcv hcl => ?_) (fun hD => ?_)
  · skip
    rcases hPE with ⟨rfl, hE⟩ | ⟨rfl, hE⟩
    · skip
      refine vx_catch hown [] ⟨0, 10, 13, 13⟩ [⟨0, 10, 17, 15⟩] (hbt.trans rfl) (fun z hz => nomatch hz) (by decide) (by decide) k1 (va_Nw.use rfl (hZ.2.2.2.2.2.1 ("java/lang/IndexOutOfBoundsException", "java/lang/IndexOutOfBoundsException") (by decide +kernel))) hce hcv hcl ?_
      refine W.eq (g2 := F0 m 13 ls [.ref q9]) rfl ?_
      refine lv_astore (lv' := [(4, .ref q9), (0, .ref (gad g 0 0)), (1, .int (z)), (2, .int (n)), (3, .ref (gad g 10 0))]) hx hb dL_nearest_13 hl (by decide) rfl (fun ls hl => ?_)
      refine lv_iconst (v := 1) hx hb dL_nearest_15 (by decide) ?_
      exact vx_ret (gx_iretE hx hb hr hlocks hS (Or.inl ⟨by rw [hE]; decide, by rw [hE], hG⟩) (Nat.le_of_ble_eq_true rfl) (Nat.le_of_ble_eq_true rfl) dL_nearest_16)
    · skip
      refine vx_catch hown [⟨0, 10, 13, 13⟩] ⟨0, 10, 17, 15⟩ [] (hbt.trans rfl) (List.forall_mem_cons.mpr ⟨Or.inr ⟨by decide, _, k1, hZ.2.2.2.2.2.2.1 ("java/lang/IllegalArgumentException", "java/lang/IndexOutOfBoundsException") (by decide +kernel)⟩, fun _ h => absurd h List.not_mem_nil⟩) (by decide) (by decide) k2 (va_Nw.use rfl (hZ.2.2.2.2.2.1 ("java/lang/IllegalArgumentException", "java/lang/IllegalArgumentException") (by decide +kernel))) hce hcv hcl ?_
      refine W.eq (g2 := F0 m 17 ls [.ref q9]) rfl ?_
      refine lv_astore (lv' := [(4, .ref q9), (0, .ref (gad g 0 0)), (1, .int (z)), (2, .int (n)), (3, .ref (gad g 10 0))]) hx hb dL_nearest_17 hl (by decide) rfl (fun ls hl => ?_)
      refine lv_iconst (v := 2) hx hb dL_nearest_19 (by decide) ?_
      exact vx_ret (gx_iretE hx hb hr hlocks hS (Or.inl ⟨by rw [hE]; decide, by rw [hE], hG⟩) (Nat.le_of_ble_eq_true rfl) (Nat.le_of_ble_eq_true rfl) dL_nearest_20)
  refine lv_i2l hx hb dL_nearest_8 rfl ?_
  refine gx_last hx hb hZ hG hS (by rw [ho1]; decide) (by rw [ho1]; decide) ho2 (vp_in_nI (by rw [ho2]; decide) (by rw [ho2]; decide)) dL_nearest_9 (fun H locs hG hS => ?_)
  refine lv_goto (tgt := 21) hx hb dL_nearest_10 (by decide) ?_
  refine lv_iconst (v := 0) hx hb dL_nearest_21 (by decide) ?_
  exact vx_ret (gx_iretE hx hb hr hlocks hS (Or.inr ⟨hD, rfl, hG⟩) (Nat.le_of_ble_eq_true rfl) (Nat.le_of_ble_eq_true rfl) dL_nearest_22)
set_option maxHeartbeats 4000000 in
set_option maxRecDepth 100000 in
theorem c_L_addCab (l : Launch) (hl0 : l.stackTraces = false) (g : gG) (σ : Mem) (w : Int64) (a b : Int32) (hX : Xok g σ) (ho1 : gcn g 10 = 1) (ho2 : gln g 10 0 = 1) : vx_Met l yL_addCab wsL_addCab ({ frames := 7, cells := 2, slots := 19, locals := 134 } : Room) (gPc g σ w [.ref (gad g 0 0), .int (a), .int (b), .ref (gad g 10 0)]) (gE g (fun v H => (¬ xAddCabE σ a b = 0 ∧ v = some (.int (xAddCabE σ a b)) ∧ GW g σ w H) ∨ (xAddCabE σ a b = 0 ∧ v = some (.int 0) ∧ (∃ (g2 : gG) (σ2 : Mem), gGro g g2 ∧ gcn g2 6 = gcn g 6 + 1 ∧ gcn g2 7 = gcn g 7 ∧ Xok g2 σ2 ∧ (∀ k i f, k ≠ 2 → k ≠ 4 → σ2 k i f = xCabNew σ (gcn g 6) a b k i f) ∧ GW g2 σ2 (nI (gcn g 6)).toInt64 H)))) (fun _ _ _ => False) 2 19 (gA g) := by
  refine gx_ofWH (cc := cL_addCab) (maxL := 5) (ret := (some .int)) (hh := [(0, 10, 13, 15), (0, 10, 17, 21)]) (by decide) rfl (Nat.le_of_ble_eq_true rfl) ?_
  intro p e s m below meth c0 hx hb hr hml hts hown hlocks hbt hG hZ hS ls hl
  have hown : s.vm.findClass RL = some m.cls := hown
  have hl : lv_has ls 5 [(0, .ref (gad g 0 0)), (1, .int (a)), (2, .int (b)), (3, .ref (gad g 10 0))] := hl
  have k1 := hts (.classLink RL 15 "java/lang/IllegalArgumentException") (by decide +kernel)
  have k2 := hts (.classLink RL 21 "java/lang/IllegalStateException") (by decide +kernel)
  refine lv_aload_n hx hb dL_addCab_0 rfl (lv_at hl 3 rfl) ?_
  refine lv_iconst (v := 0) hx hb dL_addCab_1 (by decide) ?_
  refine lv_aload_n hx hb dL_addCab_2 rfl (lv_at hl 0 rfl) ?_
  refine lv_iload_n hx hb dL_addCab_3 rfl (lv_at hl 1 rfl) ?_
  refine lv_iload_n hx hb dL_addCab_4 rfl (lv_at hl 2 rfl) ?_
  refine gx_cEx (gx_xrunV (As := [.int (a), .int (b)]) (rest := [.int (0), .ref (gad g 10 0)]) ⟨hx, hb, hml, hown, hts⟩ (c_X2_addCab l hl0 g σ w (gcn g 6) a b hX rfl) (cwV 2 hts gL_addCab_X2_addCab rfl rfl rfl (by decide +kernel) ⟨Nat.le_of_ble_eq_true rfl, Nat.le_of_ble_eq_true rfl⟩) (gx_obj hZ hG 0 0 hX.k0 rfl) hZ hG hS rfl hl.1 rfl (Nat.le_of_ble_eq_true rfl) dL_addCab_5 ⟨Nat.le_of_ble_eq_true rfl, Nat.le_of_ble_eq_true rfl⟩) hG hS (fun E ce q9 H1 locs1 hPE hG hS hz1 hk1 hce hcv hcl => ?_) (fun vr H1 locs1 hPo hS hsz => ?_)
  · skip
    rcases hPE with ⟨rfl, hE⟩ | ⟨rfl, hE⟩
    · skip
      refine vx_catch hown [] ⟨0, 10, 13, 15⟩ [⟨0, 10, 17, 21⟩] (hbt.trans rfl) (fun z hz => nomatch hz) (by decide) (by decide) k1 (va_Nw.use rfl (hZ.2.2.2.2.2.1 ("java/lang/IllegalArgumentException", "java/lang/IllegalArgumentException") (by decide +kernel))) hce hcv hcl ?_
      refine W.eq (g2 := F0 m 13 ls [.ref q9]) rfl ?_
      refine lv_astore (lv' := [(4, .ref q9), (0, .ref (gad g 0 0)), (1, .int (a)), (2, .int (b)), (3, .ref (gad g 10 0))]) hx hb dL_addCab_13 hl (by decide) rfl (fun ls hl => ?_)
      refine lv_iconst (v := 1) hx hb dL_addCab_15 (by decide) ?_
      exact vx_ret (gx_iretE hx hb hr hlocks hS (Or.inl ⟨by rw [hE]; decide, by rw [hE], hG⟩) (Nat.le_of_ble_eq_true rfl) (Nat.le_of_ble_eq_true rfl) dL_addCab_16)
    · skip
      refine vx_catch hown [⟨0, 10, 13, 15⟩] ⟨0, 10, 17, 21⟩ [] (hbt.trans rfl) (List.forall_mem_cons.mpr ⟨Or.inr ⟨by decide, _, k1, hZ.2.2.2.2.2.2.1 ("java/lang/IllegalStateException", "java/lang/IllegalArgumentException") (by decide +kernel)⟩, fun _ h => absurd h List.not_mem_nil⟩) (by decide) (by decide) k2 (va_Nw.use rfl (hZ.2.2.2.2.2.1 ("java/lang/IllegalStateException", "java/lang/IllegalStateException") (by decide +kernel))) hce hcv hcl ?_
      refine W.eq (g2 := F0 m 17 ls [.ref q9]) rfl ?_
      refine lv_astore (lv' := [(4, .ref q9), (0, .ref (gad g 0 0)), (1, .int (a)), (2, .int (b)), (3, .ref (gad g 10 0))]) hx hb dL_addCab_17 hl (by decide) rfl (fun ls hl => ?_)
      refine lv_iconst (v := 2) hx hb dL_addCab_19 (by decide) ?_
      exact vx_ret (gx_iretE hx hb hr hlocks hS (Or.inl ⟨by rw [hE]; decide, by rw [hE], hG⟩) (Nat.le_of_ble_eq_true rfl) (Nat.le_of_ble_eq_true rfl) dL_addCab_20)
  obtain ⟨rfl, hD, g2, σ2, hgro, h6, h7, hX2, hag, hG⟩ := hPo
  obtain ⟨n6, hn6⟩ : ∃ z, z = gcn g 6 := ⟨_, rfl⟩
  skip
  have hx10 := hgro.2 10 (by decide) (by decide) (by decide) (by decide)
  have hA2 : gA g2 = gA g := gx_stA hgro.1.2.2
  have hZ : ZZ g2 s := gx_stZ hgro.1.1 hgro.1.2.1 hgro.1.2.2 hZ
  rw [← hA2] at hS
  have hq1 : gcn g2 10 = 1 := by rw [hx10.2.1]; exact ho1
  have hq2 : gln g2 10 0 = 1 := by rw [hx10.2.2]; exact ho2
  refine W.eq (g2 := F0 m 8 ls [.int (nI n6), .int 0, .ref (gad g2 10 0)]) (by rw [hn6, hx10.1]; rfl) ?_
  refine lv_i2l hx hb dL_addCab_8 rfl ?_
  refine gx_last hx hb hZ hG hS (by rw [hq1]; decide) (by rw [hq1]; decide) hq2 (vp_in_nI (by rw [hq2]; decide) (by rw [hq2]; decide)) dL_addCab_9 (fun H locs hG hS => ?_)
  refine lv_goto (tgt := 21) hx hb dL_addCab_10 (by decide) ?_
  refine lv_iconst (v := 0) hx hb dL_addCab_21 (by decide) ?_
  rw [hA2] at hS
  exact vx_ret (gx_iretE hx hb hr hlocks hS (Or.inr ⟨hD, rfl, g2, σ2, hgro, h6, h7, hX2, hag, (by rw [← hn6]; exact hG)⟩) (Nat.le_of_ble_eq_true rfl) (Nat.le_of_ble_eq_true rfl) dL_addCab_22)
set_option maxHeartbeats 4000000 in
set_option maxRecDepth 100000 in
theorem c_L_order (l : Launch) (hl0 : l.stackTraces = false) (g : gG) (σ : Mem) (w : Int64) (a b c d : Int32) (hX : Xok g σ) (ho1 : gcn g 10 = 1) (ho2 : gln g 10 0 = 1) : vx_Met l yL_order wsL_order ({ frames := 8, cells := 5, slots := 240, locals := 185 } : Room) (gPc g σ w [.ref (gad g 0 0), .int (a), .int (b), .int (c), .int (d), .ref (gad g 10 0)]) (gE g (fun v H => (¬ xOrderE σ a b c d = 0 ∧ v = some (.int (xOrderE σ a b c d)) ∧ GW g σ w H) ∨ (xOrderE σ a b c d = 0 ∧ v = some (.int 0) ∧ (∃ (g2 : gG) (σ2 : Mem), gGro g g2 ∧ gcn g2 6 = gcn g 6 ∧ gcn g2 7 = gcn g 7 + 1 ∧ Xok g2 σ2 ∧ (∀ k i f, k ≠ 3 → k ≠ 5 → σ2 k i f = xOrdNew σ (gcn g 7) a b c d k i f) ∧ GW g2 (xMo σ2) (nI (gcn g 7)).toInt64 H)))) (fun _ _ _ => False) 5 240 (gA g) := by
  refine gx_ofWH (cc := cL_order) (maxL := 7) (ret := (some .int)) (hh := [(0, 14, 17, 13), (0, 14, 21, 15), (0, 14, 25, 21)]) (by decide) rfl (Nat.le_of_ble_eq_true rfl) ?_
  intro p e s m below meth c0 hx hb hr hml hts hown hlocks hbt hG hZ hS ls hl
  have hown : s.vm.findClass RL = some m.cls := hown
  have hl : lv_has ls 7 [(0, .ref (gad g 0 0)), (1, .int (a)), (2, .int (b)), (3, .int (c)), (4, .int (d)), (5, .ref (gad g 10 0))] := hl
  have k1 := hts (.classLink RL 13 "java/lang/IndexOutOfBoundsException") (by decide +kernel)
  have k2 := hts (.classLink RL 15 "java/lang/IllegalArgumentException") (by decide +kernel)
  have k3 := hts (.classLink RL 21 "java/lang/IllegalStateException") (by decide +kernel)
  refine lv_aload hx hb dL_order_0 (lv_at hl 5 rfl) ?_
  refine lv_iconst (v := 0) hx hb dL_order_2 (by decide) ?_
  refine lv_aload_n hx hb dL_order_3 rfl (lv_at hl 0 rfl) ?_
  refine lv_iload_n hx hb dL_order_4 rfl (lv_at hl 1 rfl) ?_
  refine lv_iload_n hx hb dL_order_5 rfl (lv_at hl 2 rfl) ?_
  refine lv_iload_n hx hb dL_order_6 rfl (lv_at hl 3 rfl) ?_
  refine lv_iload hx hb dL_order_7 (lv_at hl 4 rfl) ?_
  refine gx_cEx (gx_xrunV (As := [.int (a), .int (b), .int (c), .int (d)]) (rest := [.int (0), .ref (gad g 10 0)]) ⟨hx, hb, hml, hown, hts⟩ (c_X2_order l hl0 g σ w (gcn g 7) a b c d hX rfl) (cwV 4 hts gL_order_X2_order rfl rfl rfl (by decide +kernel) ⟨Nat.le_of_ble_eq_true rfl, Nat.le_of_ble_eq_true rfl⟩) (gx_obj hZ hG 0 0 hX.k0 rfl) hZ hG hS rfl hl.1 rfl (Nat.le_of_ble_eq_true rfl) dL_order_9 ⟨Nat.le_of_ble_eq_true rfl, Nat.le_of_ble_eq_true rfl⟩) hG hS (fun E ce q9 H1 locs1 hPE hG hS hz1 hk1 hce hcv hcl => ?_) (fun vr H1 locs1 hPo hS hsz => ?_)
  · skip
    rcases hPE with ⟨rfl, hE⟩ | ⟨rfl, hE⟩ | ⟨rfl, hE⟩
    · skip
      refine vx_catch hown [] ⟨0, 14, 17, 13⟩ [⟨0, 14, 21, 15⟩, ⟨0, 14, 25, 21⟩] (hbt.trans rfl) (fun z hz => nomatch hz) (by decide) (by decide) k1 (va_Nw.use rfl (hZ.2.2.2.2.2.1 ("java/lang/IndexOutOfBoundsException", "java/lang/IndexOutOfBoundsException") (by decide +kernel))) hce hcv hcl ?_
      refine W.eq (g2 := F0 m 17 ls [.ref q9]) rfl ?_
      refine lv_astore (lv' := [(6, .ref q9), (0, .ref (gad g 0 0)), (1, .int (a)), (2, .int (b)), (3, .int (c)), (4, .int (d)), (5, .ref (gad g 10 0))]) hx hb dL_order_17 hl (by decide) rfl (fun ls hl => ?_)
      refine lv_iconst (v := 1) hx hb dL_order_19 (by decide) ?_
      exact vx_ret (gx_iretE hx hb hr hlocks hS (Or.inl ⟨by rw [hE]; decide, by rw [hE], hG⟩) (Nat.le_of_ble_eq_true rfl) (Nat.le_of_ble_eq_true rfl) dL_order_20)
    · skip
      refine vx_catch hown [⟨0, 14, 17, 13⟩] ⟨0, 14, 21, 15⟩ [⟨0, 14, 25, 21⟩] (hbt.trans rfl) (List.forall_mem_cons.mpr ⟨Or.inr ⟨by decide, _, k1, hZ.2.2.2.2.2.2.1 ("java/lang/IllegalArgumentException", "java/lang/IndexOutOfBoundsException") (by decide +kernel)⟩, fun _ h => absurd h List.not_mem_nil⟩) (by decide) (by decide) k2 (va_Nw.use rfl (hZ.2.2.2.2.2.1 ("java/lang/IllegalArgumentException", "java/lang/IllegalArgumentException") (by decide +kernel))) hce hcv hcl ?_
      refine W.eq (g2 := F0 m 21 ls [.ref q9]) rfl ?_
      refine lv_astore (lv' := [(6, .ref q9), (0, .ref (gad g 0 0)), (1, .int (a)), (2, .int (b)), (3, .int (c)), (4, .int (d)), (5, .ref (gad g 10 0))]) hx hb dL_order_21 hl (by decide) rfl (fun ls hl => ?_)
      refine lv_iconst (v := 2) hx hb dL_order_23 (by decide) ?_
      exact vx_ret (gx_iretE hx hb hr hlocks hS (Or.inl ⟨by rw [hE]; decide, by rw [hE], hG⟩) (Nat.le_of_ble_eq_true rfl) (Nat.le_of_ble_eq_true rfl) dL_order_24)
    · skip
      refine vx_catch hown [⟨0, 14, 17, 13⟩, ⟨0, 14, 21, 15⟩] ⟨0, 14, 25, 21⟩ [] (hbt.trans rfl) (List.forall_mem_cons.mpr ⟨Or.inr ⟨by decide, _, k1, hZ.2.2.2.2.2.2.1 ("java/lang/IllegalStateException", "java/lang/IndexOutOfBoundsException") (by decide +kernel)⟩, List.forall_mem_cons.mpr ⟨Or.inr ⟨by decide, _, k2, hZ.2.2.2.2.2.2.1 ("java/lang/IllegalStateException", "java/lang/IllegalArgumentException") (by decide +kernel)⟩, fun _ h => absurd h List.not_mem_nil⟩⟩) (by decide) (by decide) k3 (va_Nw.use rfl (hZ.2.2.2.2.2.1 ("java/lang/IllegalStateException", "java/lang/IllegalStateException") (by decide +kernel))) hce hcv hcl ?_
      refine W.eq (g2 := F0 m 25 ls [.ref q9]) rfl ?_
      refine lv_astore (lv' := [(6, .ref q9), (0, .ref (gad g 0 0)), (1, .int (a)), (2, .int (b)), (3, .int (c)), (4, .int (d)), (5, .ref (gad g 10 0))]) hx hb dL_order_25 hl (by decide) rfl (fun ls hl => ?_)
      refine lv_iconst (v := 3) hx hb dL_order_27 (by decide) ?_
      exact vx_ret (gx_iretE hx hb hr hlocks hS (Or.inl ⟨by rw [hE]; decide, by rw [hE], hG⟩) (Nat.le_of_ble_eq_true rfl) (Nat.le_of_ble_eq_true rfl) dL_order_28)
  obtain ⟨rfl, hD, g2, σ2, hgro, h6, h7, hX2, hag, hG⟩ := hPo
  obtain ⟨n7, hn7⟩ : ∃ z, z = gcn g 7 := ⟨_, rfl⟩
  skip
  have hx10 := hgro.2 10 (by decide) (by decide) (by decide) (by decide)
  have hA2 : gA g2 = gA g := gx_stA hgro.1.2.2
  have hZ : ZZ g2 s := gx_stZ hgro.1.1 hgro.1.2.1 hgro.1.2.2 hZ
  rw [← hA2] at hS
  have hq1 : gcn g2 10 = 1 := by rw [hx10.2.1]; exact ho1
  have hq2 : gln g2 10 0 = 1 := by rw [hx10.2.2]; exact ho2
  refine W.eq (g2 := F0 m 12 ls [.int (nI n7), .int 0, .ref (gad g2 10 0)]) (by rw [hn7, hx10.1]; rfl) ?_
  refine lv_i2l hx hb dL_order_12 rfl ?_
  refine gx_last hx hb hZ hG hS (by rw [hq1]; decide) (by rw [hq1]; decide) hq2 (vp_in_nI (by rw [hq2]; decide) (by rw [hq2]; decide)) dL_order_13 (fun H locs hG hS => ?_)
  refine lv_goto (tgt := 29) hx hb dL_order_14 (by decide) ?_
  refine lv_iconst (v := 0) hx hb dL_order_29 (by decide) ?_
  rw [hA2] at hS
  exact vx_ret (gx_iretE hx hb hr hlocks hS (Or.inr ⟨hD, rfl, g2, σ2, hgro, h6, h7, hX2, hag, (by rw [← hn7]; exact hG)⟩) (Nat.le_of_ble_eq_true rfl) (Nat.le_of_ble_eq_true rfl) dL_order_30)
