theorem rLv_n {σ : Mem} {z c : Nat} (hA : 1 ≤ rAt σ z c ∧ rAt σ z c ≤ rQn σ z) (hn : rQn σ z ≤ 10) : rQn (rLv σ z c) z = rQn σ z - 1 ∧ rLv σ z c 18 z 0 = nI (rQn σ z - 1) := by
  have e : rLv σ z c 18 z 0 = nI (rQn σ z - 1) := by
    unfold rLv
    rw [gst_eq]
    exact pk_sub (b := 1) (by omega)
  exact ⟨by unfold rQn at e ⊢; rw [e]; exact ix_nI (by unfold rQn at hn; omega), e⟩
set_option maxHeartbeats 4000000 in
set_option maxRecDepth 100000 in
theorem c_X3_refuse (l : Launch) (g : gG) (σ : Mem) (w : Int64) (c o : Nat) (hR : Rr g σ) (hc : c < gcn g 16) (ho : o < gcn g 17) (eo : σ 16 c 3 = nI o) : Met l yX3_refuse wsX3_refuse ({ frames := 0, cells := 0, slots := 0, locals := 0 } : Room) (gPc g σ w [.ref (gad g 8 0), .int (nI c)]) (gM g g (rRfd σ c) w (none)) 0 0 (gA g) := by
  refine gx_ofW (cc := cX3_refuse) (maxL := 3) (ret := none) (by decide) rfl (Nat.le_of_ble_eq_true rfl) ?_
  intro p e s m below meth c0 hx hb hr hml hts hown hlocks hin hG hZ hS ls hl
  have hown : s.vm.findClass RX3 = some m.cls := hown
  have hl : lv_has ls 3 [(0, .ref (gad g 8 0)), (1, .int (nI c))] := hl
  have k1 := hts (.fieldLink RX3 16 "TaxiRankLaw$Rank" "cabs" "[[I") (by decide +kernel)
  have k2 := hts (.fieldLink RX3 27 "TaxiRankLaw$Rank" "refused" "[[Z") (by decide +kernel)
  have k3 := hts (.fieldLink RX3 19 "TaxiRankLaw$Rank" "orders" "[[I") (by decide +kernel)
  have ho60 := hR.o60
  have hix : ix (σ 16 c 3) = o := by rw [eo]; exact ix_nI (by omega)
  have hc10 : c < 10 := Nat.lt_of_lt_of_le hc hR.c10
  refine lv_aload_n hx hb dX3_refuse_0 rfl (lv_at hl 0 rfl) ?_
  refine gx_get hx hb hown hZ hG 8 0 1 hR.k8 rfl (by decide) k1 (fun _ h => h) (v := .ref (gad g 10 0)) (grf_z (hR.rf (f := 1) (by decide))) dX3_refuse_1 ?_
  refine lv_iload_n hx hb dX3_refuse_4 rfl (lv_at hl 1 rfl) ?_
  refine gx_rt hx hb hZ hG hR 10 c (by rfl) (by decide) (by decide) hc (by decide) dX3_refuse_5 ?_
  refine lv_iconst (v := 3) hx hb dX3_refuse_6 (by decide) ?_
  refine gx_aldN hx hb hZ hG 16 c 3 (by rfl) (hR.rb 10 (by decide) (by decide) hc) rfl rfl ⟨by rw [hR.ln 16 (by decide) (by decide) (hR.rb 10 (by decide) (by decide) hc)]; decide, by decide⟩ (v := .int (nI o)) (congrArg Value.int eo) dX3_refuse_7 ?_
  refine lv_istore_n (lv' := [(2, .int (nI o)), (0, .ref (gad g 8 0)), (1, .int (nI c))]) hx hb dX3_refuse_8 rfl hl (by decide) rfl (fun ls hl => ?_)
  refine lv_aload_n hx hb dX3_refuse_9 rfl (lv_at hl 1 rfl) ?_
  refine gx_get hx hb hown hZ hG 8 0 4 hR.k8 rfl (by decide) k2 (fun _ h => h) (v := .ref (gad g 13 0)) (grf_z (hR.rf (f := 4) (by decide))) dX3_refuse_10 ?_
  refine lv_iload_n hx hb dX3_refuse_13 rfl (lv_at hl 0 rfl) ?_
  refine gx_rt hx hb hZ hG hR 13 o (by rfl) (by decide) (by decide) (show o < 60 by omega) (by decide) dX3_refuse_14 ?_
  refine lv_iload_n hx hb dX3_refuse_15 rfl (lv_at hl 2 rfl) ?_
  refine lv_iconst (v := 1) hx hb dX3_refuse_16 (by decide) ?_
  refine gx_zastN hx hb hZ hG hS 19 o c (by rfl) (hR.rb 13 (by decide) (by decide) (show o < 60 by omega)) rfl rfl ⟨by rw [hR.ln 19 (by decide) (by decide) (hR.rb 13 (by decide) (by decide) (show o < 60 by omega))]; show c < 10; omega, by omega⟩ rfl rfl trivial dX3_refuse_17 (fun H locs hG hS => ?_)
  have hR := hR.st (k := 19) (i := o) (f := c) (v := 1) (by decide)
  refine lv_aload_n hx hb dX3_refuse_18 rfl (lv_at hl 1 rfl) ?_
  refine gx_get hx hb hown hZ hG 8 0 2 hR.k8 rfl (by decide) k3 (fun _ h => h) (v := .ref (gad g 11 0)) (grf_z (hR.rf (f := 2) (by decide))) dX3_refuse_19 ?_
  refine lv_iload_n hx hb dX3_refuse_22 rfl (lv_at hl 0 rfl) ?_
  refine gx_rt hx hb hZ hG hR 11 o (by rfl) (by decide) (by decide) ho (by decide) dX3_refuse_23 ?_
  refine lv_bipush (v := 8) hx hb dX3_refuse_24 (by decide) ?_
  refine lv_dup2_11 hx hb dX3_refuse_26 rfl rfl ?_
  refine gx_aldN hx hb hZ hG 17 o 8 (by rfl) (hR.rb 11 (by decide) (by decide) ho) rfl rfl ⟨by rw [hR.ln 17 (by decide) (by decide) (hR.rb 11 (by decide) (by decide) ho)]; decide, by decide⟩ (v := .int (σ 17 o 8)) (congrArg Value.int (by simp [gst_app])) dX3_refuse_27 ?_
  refine lv_iconst (v := 1) hx hb dX3_refuse_28 (by decide) ?_
  refine lv_iadd hx hb dX3_refuse_29 ?_
  refine gx_astN hx hb hZ hG hS 17 o 8 (by rfl) (hR.rb 11 (by decide) (by decide) ho) rfl rfl ⟨by rw [hR.ln 17 (by decide) (by decide) (hR.rb 11 (by decide) (by decide) ho)]; decide, by decide⟩ rfl trivial dX3_refuse_30 (fun H locs hG hS => ?_)
  have hR := hR.st (k := 17) (i := o) (f := 8) (v := (σ 17 o 8) + 1) (by decide)
  refine lv_aload_n hx hb dX3_refuse_31 rfl (lv_at hl 1 rfl) ?_
  refine gx_get hx hb hown hZ hG 8 0 2 hR.k8 rfl (by decide) k3 (fun _ h => h) (v := .ref (gad g 11 0)) (grf_z (hR.rf (f := 2) (by decide))) dX3_refuse_32 ?_
  refine lv_iload_n hx hb dX3_refuse_35 rfl (lv_at hl 0 rfl) ?_
  refine gx_rt hx hb hZ hG hR 11 o (by rfl) (by decide) (by decide) ho (by decide) dX3_refuse_36 ?_
  refine lv_iconst (v := 4) hx hb dX3_refuse_37 (by decide) ?_
  refine lv_iconst (v := 0) hx hb dX3_refuse_38 (by decide) ?_
  refine gx_astN hx hb hZ hG hS 17 o 4 (by rfl) (hR.rb 11 (by decide) (by decide) ho) rfl rfl ⟨by rw [hR.ln 17 (by decide) (by decide) (hR.rb 11 (by decide) (by decide) ho)]; decide, by decide⟩ rfl trivial dX3_refuse_39 (fun H locs hG hS => ?_)
  have hR := hR.st (k := 17) (i := o) (f := 4) (v := 0) (by decide)
  refine lv_aload_n hx hb dX3_refuse_40 rfl (lv_at hl 1 rfl) ?_
  refine gx_get hx hb hown hZ hG 8 0 2 hR.k8 rfl (by decide) k3 (fun _ h => h) (v := .ref (gad g 11 0)) (grf_z (hR.rf (f := 2) (by decide))) dX3_refuse_41 ?_
  refine lv_iload_n hx hb dX3_refuse_44 rfl (lv_at hl 0 rfl) ?_
  refine gx_rt hx hb hZ hG hR 11 o (by rfl) (by decide) (by decide) ho (by decide) dX3_refuse_45 ?_
  refine lv_iconst (v := 5) hx hb dX3_refuse_46 (by decide) ?_
  refine lv_iconst (v := (-1)) hx hb dX3_refuse_47 (by decide) ?_
  refine gx_astN hx hb hZ hG hS 17 o 5 (by rfl) (hR.rb 11 (by decide) (by decide) ho) rfl rfl ⟨by rw [hR.ln 17 (by decide) (by decide) (hR.rb 11 (by decide) (by decide) ho)]; decide, by decide⟩ rfl trivial dX3_refuse_48 (fun H locs hG hS => ?_)
  have hR := hR.st (k := 17) (i := o) (f := 5) (v := -1) (by decide)
  refine lv_aload_n hx hb dX3_refuse_49 rfl (lv_at hl 1 rfl) ?_
  refine gx_get hx hb hown hZ hG 8 0 1 hR.k8 rfl (by decide) k1 (fun _ h => h) (v := .ref (gad g 10 0)) (grf_z (hR.rf (f := 1) (by decide))) dX3_refuse_50 ?_
  refine lv_iload_n hx hb dX3_refuse_53 rfl (lv_at hl 2 rfl) ?_
  refine gx_rt hx hb hZ hG hR 10 c (by rfl) (by decide) (by decide) hc (by decide) dX3_refuse_54 ?_
  refine lv_iconst (v := 3) hx hb dX3_refuse_55 (by decide) ?_
  refine lv_iconst (v := (-1)) hx hb dX3_refuse_56 (by decide) ?_
  refine gx_astN hx hb hZ hG hS 16 c 3 (by rfl) (hR.rb 10 (by decide) (by decide) hc) rfl rfl ⟨by rw [hR.ln 16 (by decide) (by decide) (hR.rb 10 (by decide) (by decide) hc)]; decide, by decide⟩ rfl trivial dX3_refuse_57 (fun H locs hG hS => ?_)
  have hR := hR.st (k := 16) (i := c) (f := 3) (v := -1) (by decide)
  exact gx_vretM hx hb hr hlocks hG hS (by unfold rRfd; simp only [hix]) (Nat.le_of_ble_eq_true rfl) (Nat.le_of_ble_eq_true rfl) dX3_refuse_58
set_option maxHeartbeats 4000000 in
set_option maxRecDepth 100000 in
theorem c_X3_back (l : Launch) (g : gG) (σ : Mem) (w : Int64) (c z : Nat) (hR : Rr g σ) (hc : c < gcn g 16) (hz : z < 6) (ez : σ 16 c 1 = nI z) (hq : σ 18 z 0 = nI (rQn σ z)) (hn : rQn σ z ≤ 10) (hA : 1 ≤ rAt σ z c ∧ rAt σ z c ≤ rQn σ z ∧ σ 18 z (rAt σ z c) = nI c ∧ ∀ j, 1 ≤ j → j < rAt σ z c → ¬ σ 18 z j = nI c) : Met l yX3_back wsX3_back ({ frames := 1, cells := 0, slots := 0, locals := 23 } : Room) (gPc g σ w [.ref (gad g 8 0), .int (nI c)]) (gM g g (rBack σ c) w (none)) 0 0 (gA g) := by
  refine gx_ofW (cc := cX3_back) (maxL := 2) (ret := none) (by decide) rfl (Nat.le_of_ble_eq_true rfl) ?_
  intro p e s m below meth c0 hx hb hr hml hts hown hlocks hin hG hZ hS ls hl
  have hown : s.vm.findClass RX3 = some m.cls := hown
  have hl : lv_has ls 2 [(0, .ref (gad g 8 0)), (1, .int (nI c))] := hl
  have k1 := hts (.fieldLink RX3 16 "TaxiRankLaw$Rank" "cabs" "[[I") (by decide +kernel)
  have hix : ix (σ 16 c 1) = z := by rw [ez]; exact ix_nI (by omega)
  obtain ⟨en, e0⟩ := rLv_n ⟨hA.1, hA.2.1⟩ hn
  have ez2 : rLv σ z c 16 c 1 = nI z := by rw [rLv_o (by omega)]; exact ez
  refine lv_aload_n hx hb dX3_back_0 rfl (lv_at hl 0 rfl) ?_
  refine lv_aload_n hx hb dX3_back_1 rfl (lv_at hl 0 rfl) ?_
  refine gx_get hx hb hown hZ hG 8 0 1 hR.k8 rfl (by decide) k1 (fun _ h => h) (v := .ref (gad g 10 0)) (grf_z (hR.rf (f := 1) (by decide))) dX3_back_2 ?_
  refine lv_iload_n hx hb dX3_back_5 rfl (lv_at hl 1 rfl) ?_
  refine gx_rt hx hb hZ hG hR 10 c (by rfl) (by decide) (by decide) hc (by decide) dX3_back_6 ?_
  refine lv_iconst (v := 1) hx hb dX3_back_7 (by decide) ?_
  refine gx_aldN hx hb hZ hG 16 c 1 (by rfl) (hR.rb 10 (by decide) (by decide) hc) rfl rfl ⟨by rw [hR.ln 16 (by decide) (by decide) (hR.rb 10 (by decide) (by decide) hc)]; decide, by decide⟩ (v := .int (nI z)) (congrArg Value.int ez) dX3_back_8 ?_
  refine lv_iload_n hx hb dX3_back_9 rfl (lv_at hl 1 rfl) ?_
  refine gx_cM (gx_runV (As := [.int (nI z), .int (nI c)]) (rest := []) ⟨hx, hb, hml, hown, hts⟩ (c_X3_leave l g σ w z c hR hz hq hn hA) (cwV 2 hts gX3_back_X3_leave rfl rfl rfl (by decide +kernel) ⟨Nat.le_of_ble_eq_true rfl, Nat.le_of_ble_eq_true rfl⟩) (gx_obj hZ hG 8 0 hR.k8 rfl) hZ hG hS rfl hl.1 rfl (Nat.le_of_ble_eq_true rfl) dX3_back_10 ⟨Nat.le_of_ble_eq_true rfl, Nat.le_of_ble_eq_true rfl⟩) hS (fun H locs hG hS hsz => ?_)
  have hR := hR.lv (z := z) (c := c)
  refine lv_aload_n hx hb dX3_back_13 rfl (lv_at hl 0 rfl) ?_
  refine lv_aload_n hx hb dX3_back_14 rfl (lv_at hl 0 rfl) ?_
  refine gx_get hx hb hown hZ hG 8 0 1 hR.k8 rfl (by decide) k1 (fun _ h => h) (v := .ref (gad g 10 0)) (grf_z (hR.rf (f := 1) (by decide))) dX3_back_15 ?_
  refine lv_iload_n hx hb dX3_back_18 rfl (lv_at hl 1 rfl) ?_
  refine gx_rt hx hb hZ hG hR 10 c (by rfl) (by decide) (by decide) hc (by decide) dX3_back_19 ?_
  refine lv_iconst (v := 1) hx hb dX3_back_20 (by decide) ?_
  refine gx_aldN hx hb hZ hG 16 c 1 (by rfl) (hR.rb 10 (by decide) (by decide) hc) rfl rfl ⟨by rw [hR.ln 16 (by decide) (by decide) (hR.rb 10 (by decide) (by decide) hc)]; decide, by decide⟩ (v := .int (nI z)) (congrArg Value.int ez2) dX3_back_21 ?_
  refine lv_iload_n hx hb dX3_back_22 rfl (lv_at hl 1 rfl) ?_
  refine gx_cM (gx_runV (As := [.int (nI z), .int (nI c)]) (rest := []) ⟨hx, hb, hml, hown, hts⟩ (c_X3_join l g (rLv σ z c) w z c hR hz (by rw [e0, en]) (by rw [en]; omega)) (cwV 2 hts gX3_back_X3_join rfl rfl rfl (by decide +kernel) ⟨Nat.le_of_ble_eq_true rfl, Nat.le_of_ble_eq_true rfl⟩) (gx_obj hZ hG 8 0 hR.k8 rfl) hZ hG hS rfl hl.1 rfl (Nat.le_of_ble_eq_true rfl) dX3_back_23 ⟨Nat.le_of_ble_eq_true rfl, Nat.le_of_ble_eq_true rfl⟩) hS (fun H locs hG hS hsz => ?_)
  have hR := hR.join (z := z) (c := c)
  refine lv_pop hx hb dX3_back_26 rfl ?_
  exact gx_vretM hx hb hr hlocks hG hS (by unfold rBack; rw [hix]) (Nat.le_of_ble_eq_true rfl) (Nat.le_of_ble_eq_true rfl) dX3_back_27
set_option maxHeartbeats 4000000 in
set_option maxRecDepth 100000 in
theorem c_X3_accept (l : Launch) (g : gG) (σ : Mem) (w : Int64) (c z o a : Nat) (hR : Rr g σ) (hc : c < gcn g 16) (hz : z < 6) (ez : σ 16 c 1 = nI z) (ho : o < gcn g 17) (eo : σ 16 c 3 = nI o) (ha6 : a < 6) (ea : σ 17 o 0 = nI a) (hq : σ 18 z 0 = nI (rQn σ z)) (hn : rQn σ z ≤ 10) (hA : 1 ≤ rAt σ z c ∧ rAt σ z c ≤ rQn σ z ∧ σ 18 z (rAt σ z c) = nI c ∧ ∀ j, 1 ≤ j → j < rAt σ z c → ¬ σ 18 z j = nI c) : Met l yX3_accept wsX3_accept ({ frames := 1, cells := 0, slots := 0, locals := 23 } : Room) (gPc g σ w [.ref (gad g 8 0), .int (nI c)]) (gM g g (rAcc σ c) w (some (.int (σ 15 z a)))) 0 0 (gA g) := by
  refine gx_ofW (cc := cX3_accept) (maxL := 4) (ret := (some .int)) (by decide) rfl (Nat.le_of_ble_eq_true rfl) ?_
  intro p e s m below meth c0 hx hb hr hml hts hown hlocks hin hG hZ hS ls hl
  have hown : s.vm.findClass RX3 = some m.cls := hown
  have hl : lv_has ls 4 [(0, .ref (gad g 8 0)), (1, .int (nI c))] := hl
  have k1 := hts (.fieldLink RX3 19 "TaxiRankLaw$Rank" "orders" "[[I") (by decide +kernel)
  have k2 := hts (.fieldLink RX3 16 "TaxiRankLaw$Rank" "cabs" "[[I") (by decide +kernel)
  have k3 := hts (.fieldLink RX3 9 "TaxiRankLaw$Rank" "ways" "[[I") (by decide +kernel)
  have k4 := hts (.fieldLink RX3 47 "TaxiRankLaw$Rank" "now" "I") (by decide +kernel)
  have ho60 := hR.o60
  have hixz : ix (σ 16 c 1) = z := by rw [ez]; exact ix_nI (by omega)
  have hixo : ix (σ 16 c 3) = o := by rw [eo]; exact ix_nI (by omega)
  have hixa : ix (σ 17 o 0) = a := by rw [ea]; exact ix_nI (by omega)
  refine lv_aload_n hx hb dX3_accept_0 rfl (lv_at hl 0 rfl) ?_
  refine gx_get hx hb hown hZ hG 8 0 2 hR.k8 rfl (by decide) k1 (fun _ h => h) (v := .ref (gad g 11 0)) (grf_z (hR.rf (f := 2) (by decide))) dX3_accept_1 ?_
  refine lv_aload_n hx hb dX3_accept_4 rfl (lv_at hl 0 rfl) ?_
  refine gx_get hx hb hown hZ hG 8 0 1 hR.k8 rfl (by decide) k2 (fun _ h => h) (v := .ref (gad g 10 0)) (grf_z (hR.rf (f := 1) (by decide))) dX3_accept_5 ?_
  refine lv_iload_n hx hb dX3_accept_8 rfl (lv_at hl 1 rfl) ?_
  refine gx_rt hx hb hZ hG hR 10 c (by rfl) (by decide) (by decide) hc (by decide) dX3_accept_9 ?_
  refine lv_iconst (v := 3) hx hb dX3_accept_10 (by decide) ?_
  refine gx_aldN hx hb hZ hG 16 c 3 (by rfl) (hR.rb 10 (by decide) (by decide) hc) rfl rfl ⟨by rw [hR.ln 16 (by decide) (by decide) (hR.rb 10 (by decide) (by decide) hc)]; decide, by decide⟩ (v := .int (nI o)) (congrArg Value.int eo) dX3_accept_11 ?_
  refine gx_rt hx hb hZ hG hR 11 o (by rfl) (by decide) (by decide) ho (by decide) dX3_accept_12 ?_
  refine lv_astore_n (lv' := [(2, .ref (gad g 17 o)), (0, .ref (gad g 8 0)), (1, .int (nI c))]) hx hb dX3_accept_13 rfl hl (by decide) rfl (fun ls hl => ?_)
  refine lv_aload_n hx hb dX3_accept_14 rfl (lv_at hl 1 rfl) ?_
  refine gx_get hx hb hown hZ hG 8 0 0 hR.k8 rfl (by decide) k3 (fun _ h => h) (v := .ref (gad g 9 0)) (grf_z (hR.rf (f := 0) (by decide))) dX3_accept_15 ?_
  refine lv_aload_n hx hb dX3_accept_18 rfl (lv_at hl 1 rfl) ?_
  refine gx_get hx hb hown hZ hG 8 0 1 hR.k8 rfl (by decide) k2 (fun _ h => h) (v := .ref (gad g 10 0)) (grf_z (hR.rf (f := 1) (by decide))) dX3_accept_19 ?_
  refine lv_iload_n hx hb dX3_accept_22 rfl (lv_at hl 2 rfl) ?_
  refine gx_rt hx hb hZ hG hR 10 c (by rfl) (by decide) (by decide) hc (by decide) dX3_accept_23 ?_
  refine lv_iconst (v := 1) hx hb dX3_accept_24 (by decide) ?_
  refine gx_aldN hx hb hZ hG 16 c 1 (by rfl) (hR.rb 10 (by decide) (by decide) hc) rfl rfl ⟨by rw [hR.ln 16 (by decide) (by decide) (hR.rb 10 (by decide) (by decide) hc)]; decide, by decide⟩ (v := .int (nI z)) (congrArg Value.int ez) dX3_accept_25 ?_
  refine gx_rt hx hb hZ hG hR 9 z (by rfl) (by decide) (by decide) hz (by decide) dX3_accept_26 ?_
  refine lv_aload_n hx hb dX3_accept_27 rfl (lv_at hl 0 rfl) ?_
  refine lv_iconst (v := 0) hx hb dX3_accept_28 (by decide) ?_
  refine gx_aldN hx hb hZ hG 17 o 0 (by rfl) (hR.rb 11 (by decide) (by decide) ho) rfl rfl ⟨by rw [hR.ln 17 (by decide) (by decide) (hR.rb 11 (by decide) (by decide) ho)]; decide, by decide⟩ (v := .int (nI a)) (congrArg Value.int ea) dX3_accept_29 ?_
  refine gx_aldN hx hb hZ hG 15 z a (by rfl) (hR.rb 9 (by decide) (by decide) hz) rfl rfl ⟨by rw [hR.ln 15 (by decide) (by decide) (hR.rb 9 (by decide) (by decide) hz)]; show a < 6; omega, by omega⟩ (v := .int (σ 15 z a)) rfl dX3_accept_30 ?_
  refine lv_istore_n (lv' := [(3, .int (σ 15 z a)), (2, .ref (gad g 17 o)), (0, .ref (gad g 8 0)), (1, .int (nI c))]) hx hb dX3_accept_31 rfl hl (by decide) rfl (fun ls hl => ?_)
  refine lv_aload_n hx hb dX3_accept_32 rfl (lv_at hl 2 rfl) ?_
  refine lv_aload_n hx hb dX3_accept_33 rfl (lv_at hl 2 rfl) ?_
  refine gx_get hx hb hown hZ hG 8 0 1 hR.k8 rfl (by decide) k2 (fun _ h => h) (v := .ref (gad g 10 0)) (grf_z (hR.rf (f := 1) (by decide))) dX3_accept_34 ?_
  refine lv_iload_n hx hb dX3_accept_37 rfl (lv_at hl 3 rfl) ?_
  refine gx_rt hx hb hZ hG hR 10 c (by rfl) (by decide) (by decide) hc (by decide) dX3_accept_38 ?_
  refine lv_iconst (v := 1) hx hb dX3_accept_39 (by decide) ?_
  refine gx_aldN hx hb hZ hG 16 c 1 (by rfl) (hR.rb 10 (by decide) (by decide) hc) rfl rfl ⟨by rw [hR.ln 16 (by decide) (by decide) (hR.rb 10 (by decide) (by decide) hc)]; decide, by decide⟩ (v := .int (nI z)) (congrArg Value.int ez) dX3_accept_40 ?_
  refine lv_iload_n hx hb dX3_accept_41 rfl (lv_at hl 3 rfl) ?_
  refine gx_cM (gx_runV (As := [.int (nI z), .int (nI c)]) (rest := []) ⟨hx, hb, hml, hown, hts⟩ (c_X3_leave l g σ w z c hR hz hq hn hA) (cwV 2 hts gX3_accept_X3_leave rfl rfl rfl (by decide +kernel) ⟨Nat.le_of_ble_eq_true rfl, Nat.le_of_ble_eq_true rfl⟩) (gx_obj hZ hG 8 0 hR.k8 rfl) hZ hG hS rfl hl.1 rfl (Nat.le_of_ble_eq_true rfl) dX3_accept_42 ⟨Nat.le_of_ble_eq_true rfl, Nat.le_of_ble_eq_true rfl⟩) hS (fun H locs hG hS hsz => ?_)
  have hR := hR.lv (z := z) (c := c)
  have e8 : rLv σ z c 8 0 8 = σ 8 0 8 := rLv_o (by omega)
  refine lv_aload_n hx hb dX3_accept_45 rfl (lv_at hl 2 rfl) ?_
  refine gx_get hx hb hown hZ hG 8 0 1 hR.k8 rfl (by decide) k2 (fun _ h => h) (v := .ref (gad g 10 0)) (grf_z (hR.rf (f := 1) (by decide))) dX3_accept_46 ?_
  refine lv_iload_n hx hb dX3_accept_49 rfl (lv_at hl 3 rfl) ?_
  refine gx_rt hx hb hZ hG hR 10 c (by rfl) (by decide) (by decide) hc (by decide) dX3_accept_50 ?_
  refine lv_iconst (v := 2) hx hb dX3_accept_51 (by decide) ?_
  refine lv_iconst (v := 2) hx hb dX3_accept_52 (by decide) ?_
  refine gx_astN hx hb hZ hG hS 16 c 2 (by rfl) (hR.rb 10 (by decide) (by decide) hc) rfl rfl ⟨by rw [hR.ln 16 (by decide) (by decide) (hR.rb 10 (by decide) (by decide) hc)]; decide, by decide⟩ rfl trivial dX3_accept_53 (fun H locs hG hS => ?_)
  have hR := hR.st (k := 16) (i := c) (f := 2) (v := 2) (by decide)
  refine lv_aload_n hx hb dX3_accept_54 rfl (lv_at hl 2 rfl) ?_
  refine gx_get hx hb hown hZ hG 8 0 1 hR.k8 rfl (by decide) k2 (fun _ h => h) (v := .ref (gad g 10 0)) (grf_z (hR.rf (f := 1) (by decide))) dX3_accept_55 ?_
  refine lv_iload_n hx hb dX3_accept_58 rfl (lv_at hl 3 rfl) ?_
  refine gx_rt hx hb hZ hG hR 10 c (by rfl) (by decide) (by decide) hc (by decide) dX3_accept_59 ?_
  refine lv_iconst (v := 4) hx hb dX3_accept_60 (by decide) ?_
  refine lv_aload_n hx hb dX3_accept_61 rfl (lv_at hl 2 rfl) ?_
  refine gx_get hx hb hown hZ hG 8 0 8 hR.k8 rfl (by decide) k4 (fun _ h => h) (v := .int ((rLv σ z c) 8 0 8)) (congrArg Value.int (by simp [gst_app])) dX3_accept_62 ?_
  refine lv_iload_n hx hb dX3_accept_65 rfl (lv_at hl 0 rfl) ?_
  refine lv_iadd hx hb dX3_accept_66 ?_
  refine gx_astN hx hb hZ hG hS 16 c 4 (by rfl) (hR.rb 10 (by decide) (by decide) hc) rfl rfl ⟨by rw [hR.ln 16 (by decide) (by decide) (hR.rb 10 (by decide) (by decide) hc)]; decide, by decide⟩ rfl trivial dX3_accept_67 (fun H locs hG hS => ?_)
  have hR := hR.st (k := 16) (i := c) (f := 4) (v := ((rLv σ z c) 8 0 8) + (σ 15 z a)) (by decide)
  refine lv_aload_n hx hb dX3_accept_68 rfl (lv_at hl 1 rfl) ?_
  refine lv_iconst (v := 4) hx hb dX3_accept_69 (by decide) ?_
  refine lv_iconst (v := 2) hx hb dX3_accept_70 (by decide) ?_
  refine gx_astN hx hb hZ hG hS 17 o 4 (by rfl) (hR.rb 11 (by decide) (by decide) ho) rfl rfl ⟨by rw [hR.ln 17 (by decide) (by decide) (hR.rb 11 (by decide) (by decide) ho)]; decide, by decide⟩ rfl trivial dX3_accept_71 (fun H locs hG hS => ?_)
  have hR := hR.st (k := 17) (i := o) (f := 4) (v := 2) (by decide)
  refine lv_iload_n hx hb dX3_accept_72 rfl (lv_at hl 0 rfl) ?_
  exact gx_iretM hx hb hr hlocks hG hS rfl (by unfold rAcc; simp only [hixz, hixo, hixa, e8, gst_app]) (Nat.le_of_ble_eq_true rfl) (Nat.le_of_ble_eq_true rfl) dX3_accept_73
set_option maxHeartbeats 4000000 in
set_option maxRecDepth 100000 in
theorem c_X3_free (l : Launch) (g : gG) (σ : Mem) (w : Int64) (c z : Nat) (hR : Rr g σ) (hc : c < gcn g 16) (hz : z < 6) (hq : σ 18 z 0 = nI (rQn σ z)) (hn : rQn σ z ≤ 9) : Met l yX3_free wsX3_free ({ frames := 1, cells := 0, slots := 0, locals := 22 } : Room) (gPc g σ w [.ref (gad g 8 0), .int (nI c), .int (nI z)]) (gM g g (rFree σ c z) w (none)) 0 0 (gA g) := by
  refine gx_ofW (cc := cX3_free) (maxL := 3) (ret := none) (by decide) rfl (Nat.le_of_ble_eq_true rfl) ?_
  intro p e s m below meth c0 hx hb hr hml hts hown hlocks hin hG hZ hS ls hl
  have hown : s.vm.findClass RX3 = some m.cls := hown
  have hl : lv_has ls 3 [(0, .ref (gad g 8 0)), (1, .int (nI c)), (2, .int (nI z))] := hl
  have k1 := hts (.fieldLink RX3 16 "TaxiRankLaw$Rank" "cabs" "[[I") (by decide +kernel)
  refine lv_aload_n hx hb dX3_free_0 rfl (lv_at hl 0 rfl) ?_
  refine gx_get hx hb hown hZ hG 8 0 1 hR.k8 rfl (by decide) k1 (fun _ h => h) (v := .ref (gad g 10 0)) (grf_z (hR.rf (f := 1) (by decide))) dX3_free_1 ?_
  refine lv_iload_n hx hb dX3_free_4 rfl (lv_at hl 1 rfl) ?_
  refine gx_rt hx hb hZ hG hR 10 c (by rfl) (by decide) (by decide) hc (by decide) dX3_free_5 ?_
  refine lv_iconst (v := 2) hx hb dX3_free_6 (by decide) ?_
  refine lv_iconst (v := 1) hx hb dX3_free_7 (by decide) ?_
  refine gx_astN hx hb hZ hG hS 16 c 2 (by rfl) (hR.rb 10 (by decide) (by decide) hc) rfl rfl ⟨by rw [hR.ln 16 (by decide) (by decide) (hR.rb 10 (by decide) (by decide) hc)]; decide, by decide⟩ rfl trivial dX3_free_8 (fun H locs hG hS => ?_)
  have hR := hR.st (k := 16) (i := c) (f := 2) (v := 1) (by decide)
  refine lv_aload_n hx hb dX3_free_9 rfl (lv_at hl 0 rfl) ?_
  refine gx_get hx hb hown hZ hG 8 0 1 hR.k8 rfl (by decide) k1 (fun _ h => h) (v := .ref (gad g 10 0)) (grf_z (hR.rf (f := 1) (by decide))) dX3_free_10 ?_
  refine lv_iload_n hx hb dX3_free_13 rfl (lv_at hl 1 rfl) ?_
  refine gx_rt hx hb hZ hG hR 10 c (by rfl) (by decide) (by decide) hc (by decide) dX3_free_14 ?_
  refine lv_iconst (v := 1) hx hb dX3_free_15 (by decide) ?_
  refine lv_iload_n hx hb dX3_free_16 rfl (lv_at hl 2 rfl) ?_
  refine gx_astN hx hb hZ hG hS 16 c 1 (by rfl) (hR.rb 10 (by decide) (by decide) hc) rfl rfl ⟨by rw [hR.ln 16 (by decide) (by decide) (hR.rb 10 (by decide) (by decide) hc)]; decide, by decide⟩ rfl trivial dX3_free_17 (fun H locs hG hS => ?_)
  have hR := hR.st (k := 16) (i := c) (f := 1) (v := nI z) (by decide)
  refine lv_aload_n hx hb dX3_free_18 rfl (lv_at hl 0 rfl) ?_
  refine gx_get hx hb hown hZ hG 8 0 1 hR.k8 rfl (by decide) k1 (fun _ h => h) (v := .ref (gad g 10 0)) (grf_z (hR.rf (f := 1) (by decide))) dX3_free_19 ?_
  refine lv_iload_n hx hb dX3_free_22 rfl (lv_at hl 1 rfl) ?_
  refine gx_rt hx hb hZ hG hR 10 c (by rfl) (by decide) (by decide) hc (by decide) dX3_free_23 ?_
  refine lv_iconst (v := 3) hx hb dX3_free_24 (by decide) ?_
  refine lv_iconst (v := (-1)) hx hb dX3_free_25 (by decide) ?_
  refine gx_astN hx hb hZ hG hS 16 c 3 (by rfl) (hR.rb 10 (by decide) (by decide) hc) rfl rfl ⟨by rw [hR.ln 16 (by decide) (by decide) (hR.rb 10 (by decide) (by decide) hc)]; decide, by decide⟩ rfl trivial dX3_free_26 (fun H locs hG hS => ?_)
  have hR := hR.st (k := 16) (i := c) (f := 3) (v := -1) (by decide)
  refine lv_aload_n hx hb dX3_free_27 rfl (lv_at hl 0 rfl) ?_
  refine lv_iload_n hx hb dX3_free_28 rfl (lv_at hl 2 rfl) ?_
  refine lv_iload_n hx hb dX3_free_29 rfl (lv_at hl 1 rfl) ?_
  refine gx_cM (gx_runV (As := [.int (nI z), .int (nI c)]) (rest := []) ⟨hx, hb, hml, hown, hts⟩ (c_X3_join l g (gst (gst (gst σ 16 c 2 1) 16 c 1 (nI z)) 16 c 3 (-1)) w z c hR hz (by rw [show rQn (gst (gst (gst σ 16 c 2 1) 16 c 1 (nI z)) 16 c 3 (-1)) z = rQn σ z from rfl]; exact hq) (show rQn σ z ≤ 9 from hn)) (cwV 2 hts gX3_free_X3_join rfl rfl rfl (by decide +kernel) ⟨Nat.le_of_ble_eq_true rfl, Nat.le_of_ble_eq_true rfl⟩) (gx_obj hZ hG 8 0 hR.k8 rfl) hZ hG hS rfl hl.1 rfl (Nat.le_of_ble_eq_true rfl) dX3_free_30 ⟨Nat.le_of_ble_eq_true rfl, Nat.le_of_ble_eq_true rfl⟩) hS (fun H locs hG hS hsz => ?_)
  have hR := hR.join (z := z) (c := c)
  refine lv_pop hx hb dX3_free_33 rfl ?_
  exact gx_vretM hx hb hr hlocks hG hS rfl (Nat.le_of_ble_eq_true rfl) (Nat.le_of_ble_eq_true rfl) dX3_free_34
theorem n21 : ((2 : Int32) = 1) = False := by decide
theorem n12 : ((1 : Int32) = 2) = False := by decide
set_option maxHeartbeats 4000000 in
set_option maxRecDepth 100000 in
theorem c_X3_cancel (l : Launch) (g : gG) (σ : Mem) (w : Int64) (o : Nat) (hR : Rr g σ) (ho : o < gcn g 17) (h1 : σ 17 o 4 = 1 → inN (gcn g 16) (σ 17 o 5)) (h2 : σ 17 o 4 = 2 → ∃ c z, c < gcn g 16 ∧ σ 17 o 5 = nI c ∧ z < 6 ∧ σ 16 c 1 = nI z ∧ σ 18 z 0 = nI (rQn σ z) ∧ rQn σ z ≤ 9) : Met l yX3_cancel wsX3_cancel ({ frames := 2, cells := 0, slots := 0, locals := 44 } : Room) (gPc g σ w [.ref (gad g 8 0), .int (nI o)]) (gM g g (rCan σ o) w (some (.int (σ 17 o 4)))) 0 0 (gA g) := by
  refine gx_ofW (cc := cX3_cancel) (maxL := 4) (ret := (some .int)) (by decide) rfl (Nat.le_of_ble_eq_true rfl) ?_
  intro p e s m below meth c0 hx hb hr hml hts hown hlocks hin hG hZ hS ls hl
  have hown : s.vm.findClass RX3 = some m.cls := hown
  have hl : lv_has ls 4 [(0, .ref (gad g 8 0)), (1, .int (nI o))] := hl
  have k1 := hts (.fieldLink RX3 19 "TaxiRankLaw$Rank" "orders" "[[I") (by decide +kernel)
  have k2 := hts (.fieldLink RX3 16 "TaxiRankLaw$Rank" "cabs" "[[I") (by decide +kernel)
  have hc10 := hR.c10
  refine lv_aload_n hx hb dX3_cancel_0 rfl (lv_at hl 0 rfl) ?_
  refine gx_get hx hb hown hZ hG 8 0 2 hR.k8 rfl (by decide) k1 (fun _ h => h) (v := .ref (gad g 11 0)) (grf_z (hR.rf (f := 2) (by decide))) dX3_cancel_1 ?_
  refine lv_iload_n hx hb dX3_cancel_4 rfl (lv_at hl 1 rfl) ?_
  refine gx_rt hx hb hZ hG hR 11 o (by rfl) (by decide) (by decide) ho (by decide) dX3_cancel_5 ?_
  refine lv_iconst (v := 4) hx hb dX3_cancel_6 (by decide) ?_
  refine gx_aldN hx hb hZ hG 17 o 4 (by rfl) (hR.rb 11 (by decide) (by decide) ho) rfl rfl ⟨by rw [hR.ln 17 (by decide) (by decide) (hR.rb 11 (by decide) (by decide) ho)]; decide, by decide⟩ (v := .int (σ 17 o 4)) rfl dX3_cancel_7 ?_
  refine lv_istore_n (lv' := [(2, .int (σ 17 o 4)), (0, .ref (gad g 8 0)), (1, .int (nI o))]) hx hb dX3_cancel_8 rfl hl (by decide) rfl (fun ls hl => ?_)
  refine lv_aload_n hx hb dX3_cancel_9 rfl (lv_at hl 1 rfl) ?_
  refine gx_get hx hb hown hZ hG 8 0 2 hR.k8 rfl (by decide) k1 (fun _ h => h) (v := .ref (gad g 11 0)) (grf_z (hR.rf (f := 2) (by decide))) dX3_cancel_10 ?_
  refine lv_iload_n hx hb dX3_cancel_13 rfl (lv_at hl 2 rfl) ?_
  refine gx_rt hx hb hZ hG hR 11 o (by rfl) (by decide) (by decide) ho (by decide) dX3_cancel_14 ?_
  refine lv_iconst (v := 5) hx hb dX3_cancel_15 (by decide) ?_
  refine gx_aldN hx hb hZ hG 17 o 5 (by rfl) (hR.rb 11 (by decide) (by decide) ho) rfl rfl ⟨by rw [hR.ln 17 (by decide) (by decide) (hR.rb 11 (by decide) (by decide) ho)]; decide, by decide⟩ (v := .int (σ 17 o 5)) rfl dX3_cancel_16 ?_
  refine lv_istore_n (lv' := [(3, .int (σ 17 o 5)), (2, .int (σ 17 o 4)), (0, .ref (gad g 8 0)), (1, .int (nI o))]) hx hb dX3_cancel_17 rfl hl (by decide) rfl (fun ls hl => ?_)
  refine lv_iload_n hx hb dX3_cancel_18 rfl (lv_at hl 1 rfl) ?_
  refine lv_iconst (v := 1) hx hb dX3_cancel_19 (by decide) ?_
  refine lv_icmp_ne (tgt := 32) hx hb dX3_cancel_20 (by decide) (fun c_1 => ?_) (fun c_1 => ?_)
  · skip
    refine lv_iload_n hx hb dX3_cancel_32 rfl (lv_at hl 1 rfl) ?_
    refine lv_iconst (v := 2) hx hb dX3_cancel_33 (by decide) ?_
    refine lv_icmp_ne (tgt := 50) hx hb dX3_cancel_34 (by decide) (fun c_2 => ?_) (fun c_2 => ?_)
    · skip
      refine lv_aload_n hx hb dX3_cancel_50 rfl (lv_at hl 2 rfl) ?_
      refine gx_get hx hb hown hZ hG 8 0 2 hR.k8 rfl (by decide) k1 (fun _ h => h) (v := .ref (gad g 11 0)) (grf_z (hR.rf (f := 2) (by decide))) dX3_cancel_51 ?_
      refine lv_iload_n hx hb dX3_cancel_54 rfl (lv_at hl 3 rfl) ?_
      refine gx_rt hx hb hZ hG hR 11 o (by rfl) (by decide) (by decide) ho (by decide) dX3_cancel_55 ?_
      refine lv_iconst (v := 4) hx hb dX3_cancel_56 (by decide) ?_
      refine lv_iconst (v := 5) hx hb dX3_cancel_57 (by decide) ?_
      refine gx_astN hx hb hZ hG hS 17 o 4 (by rfl) (hR.rb 11 (by decide) (by decide) ho) rfl rfl ⟨by rw [hR.ln 17 (by decide) (by decide) (hR.rb 11 (by decide) (by decide) ho)]; decide, by decide⟩ rfl trivial dX3_cancel_58 (fun H locs hG hS => ?_)
      have hR := hR.st (k := 17) (i := o) (f := 4) (v := 5) (by decide)
      refine lv_aload_n hx hb dX3_cancel_59 rfl (lv_at hl 2 rfl) ?_
      refine gx_get hx hb hown hZ hG 8 0 2 hR.k8 rfl (by decide) k1 (fun _ h => h) (v := .ref (gad g 11 0)) (grf_z (hR.rf (f := 2) (by decide))) dX3_cancel_60 ?_
      refine lv_iload_n hx hb dX3_cancel_63 rfl (lv_at hl 3 rfl) ?_
      refine gx_rt hx hb hZ hG hR 11 o (by rfl) (by decide) (by decide) ho (by decide) dX3_cancel_64 ?_
      refine lv_iconst (v := 5) hx hb dX3_cancel_65 (by decide) ?_
      refine lv_iconst (v := (-1)) hx hb dX3_cancel_66 (by decide) ?_
      refine gx_astN hx hb hZ hG hS 17 o 5 (by rfl) (hR.rb 11 (by decide) (by decide) ho) rfl rfl ⟨by rw [hR.ln 17 (by decide) (by decide) (hR.rb 11 (by decide) (by decide) ho)]; decide, by decide⟩ rfl trivial dX3_cancel_67 (fun H locs hG hS => ?_)
      have hR := hR.st (k := 17) (i := o) (f := 5) (v := -1) (by decide)
      refine lv_iload_n hx hb dX3_cancel_68 rfl (lv_at hl 1 rfl) ?_
      exact gx_iretM hx hb hr hlocks hG hS rfl (by simp only [rCan, rCan2, rCan1, c_1, c_2, n21, n12, reduceIte]) (Nat.le_of_ble_eq_true rfl) (Nat.le_of_ble_eq_true rfl) dX3_cancel_69
    · skip
      obtain ⟨c, z, hc, ec, hz, ez, hq, hn⟩ := h2 c_2
      rw [ec] at hl
      have hixc : ix (σ 17 o 5) = c := by rw [ec]; exact ix_nI (by omega)
      have hixz : ix (σ 16 c 1) = z := by rw [ez]; exact ix_nI (by omega)
      refine lv_aload_n hx hb dX3_cancel_37 rfl (lv_at hl 2 rfl) ?_
      refine lv_iload_n hx hb dX3_cancel_38 rfl (lv_at hl 0 rfl) ?_
      refine lv_aload_n hx hb dX3_cancel_39 rfl (lv_at hl 2 rfl) ?_
      refine gx_get hx hb hown hZ hG 8 0 1 hR.k8 rfl (by decide) k2 (fun _ h => h) (v := .ref (gad g 10 0)) (grf_z (hR.rf (f := 1) (by decide))) dX3_cancel_40 ?_
      refine lv_iload_n hx hb dX3_cancel_43 rfl (lv_at hl 0 rfl) ?_
      refine gx_rt hx hb hZ hG hR 10 c (by rfl) (by decide) (by decide) hc (by decide) dX3_cancel_44 ?_
      refine lv_iconst (v := 1) hx hb dX3_cancel_45 (by decide) ?_
      refine gx_aldN hx hb hZ hG 16 c 1 (by rfl) (hR.rb 10 (by decide) (by decide) hc) rfl rfl ⟨by rw [hR.ln 16 (by decide) (by decide) (hR.rb 10 (by decide) (by decide) hc)]; decide, by decide⟩ (v := .int (nI z)) (congrArg Value.int ez) dX3_cancel_46 ?_
      refine gx_cM (gx_runV (As := [.int (nI c), .int (nI z)]) (rest := []) ⟨hx, hb, hml, hown, hts⟩ (c_X3_free l g σ w c z hR hc hz hq hn) (cwV 2 hts gX3_cancel_X3_free rfl rfl rfl (by decide +kernel) ⟨Nat.le_of_ble_eq_true rfl, Nat.le_of_ble_eq_true rfl⟩) (gx_obj hZ hG 8 0 hR.k8 rfl) hZ hG hS rfl hl.1 rfl (Nat.le_of_ble_eq_true rfl) dX3_cancel_47 ⟨Nat.le_of_ble_eq_true rfl, Nat.le_of_ble_eq_true rfl⟩) hS (fun H locs hG hS hsz => ?_)
      have hR := hR.free (c := c) (z := z)
      refine lv_aload_n hx hb dX3_cancel_50 rfl (lv_at hl 2 rfl) ?_
      refine gx_get hx hb hown hZ hG 8 0 2 hR.k8 rfl (by decide) k1 (fun _ h => h) (v := .ref (gad g 11 0)) (grf_z (hR.rf (f := 2) (by decide))) dX3_cancel_51 ?_
      refine lv_iload_n hx hb dX3_cancel_54 rfl (lv_at hl 3 rfl) ?_
      refine gx_rt hx hb hZ hG hR 11 o (by rfl) (by decide) (by decide) ho (by decide) dX3_cancel_55 ?_
      refine lv_iconst (v := 4) hx hb dX3_cancel_56 (by decide) ?_
      refine lv_iconst (v := 5) hx hb dX3_cancel_57 (by decide) ?_
      refine gx_astN hx hb hZ hG hS 17 o 4 (by rfl) (hR.rb 11 (by decide) (by decide) ho) rfl rfl ⟨by rw [hR.ln 17 (by decide) (by decide) (hR.rb 11 (by decide) (by decide) ho)]; decide, by decide⟩ rfl trivial dX3_cancel_58 (fun H locs hG hS => ?_)
      have hR := hR.st (k := 17) (i := o) (f := 4) (v := 5) (by decide)
      refine lv_aload_n hx hb dX3_cancel_59 rfl (lv_at hl 2 rfl) ?_
      refine gx_get hx hb hown hZ hG 8 0 2 hR.k8 rfl (by decide) k1 (fun _ h => h) (v := .ref (gad g 11 0)) (grf_z (hR.rf (f := 2) (by decide))) dX3_cancel_60 ?_
      refine lv_iload_n hx hb dX3_cancel_63 rfl (lv_at hl 3 rfl) ?_
      refine gx_rt hx hb hZ hG hR 11 o (by rfl) (by decide) (by decide) ho (by decide) dX3_cancel_64 ?_
      refine lv_iconst (v := 5) hx hb dX3_cancel_65 (by decide) ?_
      refine lv_iconst (v := (-1)) hx hb dX3_cancel_66 (by decide) ?_
      refine gx_astN hx hb hZ hG hS 17 o 5 (by rfl) (hR.rb 11 (by decide) (by decide) ho) rfl rfl ⟨by rw [hR.ln 17 (by decide) (by decide) (hR.rb 11 (by decide) (by decide) ho)]; decide, by decide⟩ rfl trivial dX3_cancel_67 (fun H locs hG hS => ?_)
      have hR := hR.st (k := 17) (i := o) (f := 5) (v := -1) (by decide)
      refine lv_iload_n hx hb dX3_cancel_68 rfl (lv_at hl 1 rfl) ?_
      exact gx_iretM hx hb hr hlocks hG hS rfl (by simp only [rCan, rCan2, rCan1, c_1, c_2, hixc, hixz, n21, n12, reduceIte]) (Nat.le_of_ble_eq_true rfl) (Nat.le_of_ble_eq_true rfl) dX3_cancel_69
  · skip
    obtain ⟨c, hc, ec⟩ := h1 c_1
    rw [ec] at hl
    have hixc : ix (σ 17 o 5) = c := by rw [ec]; exact ix_nI (by omega)
    refine lv_aload_n hx hb dX3_cancel_23 rfl (lv_at hl 2 rfl) ?_
    refine gx_get hx hb hown hZ hG 8 0 1 hR.k8 rfl (by decide) k2 (fun _ h => h) (v := .ref (gad g 10 0)) (grf_z (hR.rf (f := 1) (by decide))) dX3_cancel_24 ?_
    refine lv_iload_n hx hb dX3_cancel_27 rfl (lv_at hl 0 rfl) ?_
    refine gx_rt hx hb hZ hG hR 10 c (by rfl) (by decide) (by decide) hc (by decide) dX3_cancel_28 ?_
    refine lv_iconst (v := 3) hx hb dX3_cancel_29 (by decide) ?_
    refine lv_iconst (v := (-1)) hx hb dX3_cancel_30 (by decide) ?_
    refine gx_astN hx hb hZ hG hS 16 c 3 (by rfl) (hR.rb 10 (by decide) (by decide) hc) rfl rfl ⟨by rw [hR.ln 16 (by decide) (by decide) (hR.rb 10 (by decide) (by decide) hc)]; decide, by decide⟩ rfl trivial dX3_cancel_31 (fun H locs hG hS => ?_)
    have hR := hR.st (k := 16) (i := c) (f := 3) (v := -1) (by decide)
    refine lv_iload_n hx hb dX3_cancel_32 rfl (lv_at hl 1 rfl) ?_
    refine lv_iconst (v := 2) hx hb dX3_cancel_33 (by decide) ?_
    refine lv_icmp_ne (tgt := 50) hx hb dX3_cancel_34 (by decide) (fun c_3 => ?_) (fun c_3 => ?_)
    · skip
      refine lv_aload_n hx hb dX3_cancel_50 rfl (lv_at hl 2 rfl) ?_
      refine gx_get hx hb hown hZ hG 8 0 2 hR.k8 rfl (by decide) k1 (fun _ h => h) (v := .ref (gad g 11 0)) (grf_z (hR.rf (f := 2) (by decide))) dX3_cancel_51 ?_
      refine lv_iload_n hx hb dX3_cancel_54 rfl (lv_at hl 3 rfl) ?_
      refine gx_rt hx hb hZ hG hR 11 o (by rfl) (by decide) (by decide) ho (by decide) dX3_cancel_55 ?_
      refine lv_iconst (v := 4) hx hb dX3_cancel_56 (by decide) ?_
      refine lv_iconst (v := 5) hx hb dX3_cancel_57 (by decide) ?_
      refine gx_astN hx hb hZ hG hS 17 o 4 (by rfl) (hR.rb 11 (by decide) (by decide) ho) rfl rfl ⟨by rw [hR.ln 17 (by decide) (by decide) (hR.rb 11 (by decide) (by decide) ho)]; decide, by decide⟩ rfl trivial dX3_cancel_58 (fun H locs hG hS => ?_)
      have hR := hR.st (k := 17) (i := o) (f := 4) (v := 5) (by decide)
      refine lv_aload_n hx hb dX3_cancel_59 rfl (lv_at hl 2 rfl) ?_
      refine gx_get hx hb hown hZ hG 8 0 2 hR.k8 rfl (by decide) k1 (fun _ h => h) (v := .ref (gad g 11 0)) (grf_z (hR.rf (f := 2) (by decide))) dX3_cancel_60 ?_
      refine lv_iload_n hx hb dX3_cancel_63 rfl (lv_at hl 3 rfl) ?_
      refine gx_rt hx hb hZ hG hR 11 o (by rfl) (by decide) (by decide) ho (by decide) dX3_cancel_64 ?_
      refine lv_iconst (v := 5) hx hb dX3_cancel_65 (by decide) ?_
      refine lv_iconst (v := (-1)) hx hb dX3_cancel_66 (by decide) ?_
      refine gx_astN hx hb hZ hG hS 17 o 5 (by rfl) (hR.rb 11 (by decide) (by decide) ho) rfl rfl ⟨by rw [hR.ln 17 (by decide) (by decide) (hR.rb 11 (by decide) (by decide) ho)]; decide, by decide⟩ rfl trivial dX3_cancel_67 (fun H locs hG hS => ?_)
      have hR := hR.st (k := 17) (i := o) (f := 5) (v := -1) (by decide)
      refine lv_iload_n hx hb dX3_cancel_68 rfl (lv_at hl 1 rfl) ?_
      exact gx_iretM hx hb hr hlocks hG hS rfl (by simp only [rCan, rCan2, rCan1, c_1, c_3, hixc, n21, n12, reduceIte]) (Nat.le_of_ble_eq_true rfl) (Nat.le_of_ble_eq_true rfl) dX3_cancel_69
    · skip
      exact absurd (c_1.symm.trans c_3) (by decide)
