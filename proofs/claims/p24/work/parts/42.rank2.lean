set_option maxHeartbeats 4000000 in
set_option maxRecDepth 100000 in
theorem c_X3_choose (l : Launch) (g : gG) (σ : Mem) (w : Int64) (o : Nat) (hR : Rr g σ) (ho : o < gcn g 17) (hQ : ∀ z, z < 6 → rQw (gcn g 16) σ z) (ha : inN 6 (σ 17 o 0)) : Met l yX3_choose wsX3_choose ({ frames := 1, cells := 0, slots := 0, locals := 24 } : Room) (gPc g σ w [.ref (gad g 8 0), .int (nI o)]) (gR (.int (rCh σ o))) 0 0 (fun _ => False) := by
  refine gx_ofW (cc := cX3_choose) (maxL := 5) (ret := (some .int)) (by decide) rfl (Nat.le_of_ble_eq_true rfl) ?_
  intro p e s m below meth c0 hx hb hr hml hts hown hlocks hin hG hZ hS ls hl
  have hown : s.vm.findClass RX3 = some m.cls := hown
  have hl : lv_has ls 5 [(0, .ref (gad g 8 0)), (1, .int (nI o))] := hl
  have k1 := hts (.fieldLink RX3 19 "TaxiRankLaw$Rank" "orders" "[[I") (by decide +kernel)
  have k2 := hts (.fieldLink RX3 9 "TaxiRankLaw$Rank" "ways" "[[I") (by decide +kernel)
  obtain ⟨a, ha6, ea⟩ := ha
  have hia : ix (σ 17 o 0) = a := by rw [ea]; exact ix_nI (by omega)
  have hia2 : ix (nI a) = a := ix_nI (by omega)
  refine lv_aload_n hx hb dX3_choose_0 rfl (lv_at hl 0 rfl) ?_
  refine lv_iload_n hx hb dX3_choose_1 rfl (lv_at hl 1 rfl) ?_
  refine lv_aload_n hx hb dX3_choose_2 rfl (lv_at hl 0 rfl) ?_
  refine gx_get hx hb hown hZ hG 8 0 2 hR.k8 rfl (by decide) k1 (fun _ h => h) (v := .ref (gad g 11 0)) (grf_z (hR.rf (f := 2) (by decide))) dX3_choose_3 ?_
  refine lv_iload_n hx hb dX3_choose_6 rfl (lv_at hl 1 rfl) ?_
  refine gx_rt hx hb hZ hG hR 11 o (by rfl) (by decide) (by decide) ho (by decide) dX3_choose_7 ?_
  refine lv_iconst (v := 0) hx hb dX3_choose_8 (by decide) ?_
  refine gx_aldN hx hb hZ hG 17 o 0 (by rfl) (hR.rb 11 (by decide) (by decide) ho) rfl rfl ⟨by rw [hR.ln 17 (by decide) (by decide) (hR.rb 11 (by decide) (by decide) ho)]; decide, by decide⟩ (v := .int (nI a)) (congrArg Value.int ea) dX3_choose_9 ?_
  refine gx_cR (gx_runV (As := [.int (nI o), .int (nI a)]) (rest := []) ⟨hx, hb, hml, hown, hts⟩ (c_X3_first l g σ w o a hR ho ha6 (hQ a ha6)) (cwV 2 hts gX3_choose_X3_first rfl rfl rfl (by decide +kernel) ⟨Nat.le_of_ble_eq_true rfl, Nat.le_of_ble_eq_true rfl⟩) (gx_obj hZ hG 8 0 hR.k8 rfl) hZ hG hS rfl hl.1 rfl (Nat.le_of_ble_eq_true rfl) dX3_choose_10 ⟨Nat.le_of_ble_eq_true rfl, Nat.le_of_ble_eq_true rfl⟩) ?_
  refine lv_istore_n (lv' := [(2, .int (rFi σ o a)), (0, .ref (gad g 8 0)), (1, .int (nI o))]) hx hb dX3_choose_13 rfl hl (by decide) rfl (fun ls hl => ?_)
  refine lv_iconst (v := 1) hx hb dX3_choose_14 (by decide) ?_
  refine lv_istore_n (lv' := [(3, .int (1)), (2, .int (rFi σ o a)), (0, .ref (gad g 8 0)), (1, .int (nI o))]) hx hb dX3_choose_15 rfl hl (by decide) rfl (fun ls hl => ?_)
  have loop_16 : ∀ (nf : Nat) (r : Nat) (mi : Nat) (cm : Int32), r < nf → (mi + r = 121) → (1 ≤ mi) → (rChM σ o r mi cm = rCh σ o) → ∀ ls : Array Slot, lv_has ls 5 [(0, .ref (gad g 8 0)), (1, .int (nI o)), (2, .int (cm)), (3, .int (nI mi))] → W p l e ({ frames := 1, cells := 0, slots := 0, locals := 24 } : Room) s m ([.ref (gad g 8 0), .int (nI o)] : List Value).toArray below meth c0 s.heap [] 0 0 (MQ below (gR (.int (rCh σ o))) ([.ref (gad g 8 0), .int (nI o)] : List Value).toArray s 0 0 (fun _ => False)) (F0 m 16 ls []) := by
    intro nf
    induction nf with
    | zero => intro r mi cm hn; exact absurd hn (Nat.not_lt_zero _)
    | succ nf ih =>
      intro r mi cm hn hk h1 hres ls hl
      have ih0 := ih
      refine lv_iload_n hx hb dX3_choose_16 rfl (lv_at hl 3 rfl) ?_
      refine lv_bipush (v := 120) hx hb dX3_choose_17 (by decide) ?_
      refine lv_icmp_gt (tgt := 93) hx hb dX3_choose_19 (by decide) (fun c_1 => ?_) (fun c_1 => ?_)
      · skip
        have hr0 : r = 0 := by
          rcases Nat.eq_zero_or_pos r with q | q
          · exact q
          · exact absurd c_1 (nI_nlt (a := 120) (by omega) (by omega))
        subst hr0
        refine lv_iload_n hx hb dX3_choose_93 rfl (lv_at hl 2 rfl) ?_
        exact gx_iretR hx hb hr hlocks (by rw [← hres]; rfl) (Nat.le_of_ble_eq_true rfl) (Nat.le_of_ble_eq_true rfl) dX3_choose_94
      · skip
        have hmi : mi ≤ 120 := by
          rcases Nat.lt_or_ge 120 mi with q | q
          · exact absurd (nI_lt (a := 120) q (by omega)) c_1
          · exact q
        obtain ⟨r, rfl⟩ : ∃ q, r = q + 1 := ⟨r - 1, by omega⟩
        refine lv_iload_n hx hb dX3_choose_22 rfl (lv_at hl 2 rfl) ?_
        refine lv_if_ge (tgt := 93) hx hb dX3_choose_23 (by decide) (fun c_2 => ?_) (fun c_2 => ?_)
        · skip
          refine lv_iload_n hx hb dX3_choose_93 rfl (lv_at hl 2 rfl) ?_
          exact gx_iretR hx hb hr hlocks (by rw [← hres]; simp only [rChM, c_2, reduceIte]) (Nat.le_of_ble_eq_true rfl) (Nat.le_of_ble_eq_true rfl) dX3_choose_94
        · skip
          have hcm : ¬ 0 ≤ cm := c_2
          refine lv_iconst (v := 0) hx hb dX3_choose_26 (by decide) ?_
          refine lv_istore (lv' := [(4, .int (0)), (0, .ref (gad g 8 0)), (1, .int (nI o)), (2, .int (cm)), (3, .int (nI mi))]) hx hb dX3_choose_27 hl (by decide) rfl (fun ls hl => ?_)
          have loop_29 : ∀ (nf : Nat) (rz : Nat) (zz : Nat) (c : Int32), rz < nf → (zz + rz = 6) → (rChZ σ o mi rz zz c = rChZ σ o mi 6 0 cm) → ∀ ls : Array Slot, lv_has ls 5 [(0, .ref (gad g 8 0)), (1, .int (nI o)), (2, .int (c)), (3, .int (nI mi)), (4, .int (nI zz))] → W p l e ({ frames := 1, cells := 0, slots := 0, locals := 24 } : Room) s m ([.ref (gad g 8 0), .int (nI o)] : List Value).toArray below meth c0 s.heap [] 0 0 (MQ below (gR (.int (rCh σ o))) ([.ref (gad g 8 0), .int (nI o)] : List Value).toArray s 0 0 (fun _ => False)) (F0 m 29 ls []) := by
            intro nf
            induction nf with
            | zero => intro rz zz c hn; exact absurd hn (Nat.not_lt_zero _)
            | succ nf ih =>
              intro rz zz c hn hkz hz ls hl
              refine lv_iload hx hb dX3_choose_29 (lv_at hl 4 rfl) ?_
              refine lv_bipush (v := 6) hx hb dX3_choose_31 (by decide) ?_
              refine lv_icmp_ge (tgt := 87) hx hb dX3_choose_33 (by decide) (fun c_3 => ?_) (fun c_3 => ?_)
              · skip
                have hz6 : 6 ≤ zz := le_of_nIle (n := 6) c_3 (by omega) (by omega)
                obtain rfl : rz = 0 := by omega
                have hz : c = rChZ σ o mi 6 0 cm := hz
                refine lv_iinc (v := nI (mi + 1)) (lv' := [(3, .int (nI (mi + 1))), (0, .ref (gad g 8 0)), (1, .int (nI o)), (2, .int (c)), (4, .int (nI zz))]) hx hb dX3_choose_87 hl (k := 3) rfl (nI_1 _) (by decide) rfl (fun ls hl => ?_)
                refine lv_goto (tgt := 16) hx hb dX3_choose_90 (by decide) ?_
                exact ih0 r (mi + 1) (c) (by omega) (by omega) (by omega) (by rw [← hres]; simp only [rChM, hcm, reduceIte]; rw [hz]) ls (lv_sub hl [1, 2, 3, 0] rfl)
              · skip
                have hz6 : zz < 6 := by
                  rcases Nat.lt_or_ge zz 6 with q | q
                  · exact q
                  · exact absurd (nI_le (a := 6) q (by omega)) c_3
                obtain ⟨rz, rfl⟩ : ∃ q, rz = q + 1 := ⟨rz - 1, by omega⟩
                refine lv_iload_n hx hb dX3_choose_36 rfl (lv_at hl 2 rfl) ?_
                refine lv_if_ge (tgt := 87) hx hb dX3_choose_37 (by decide) (fun c_4 => ?_) (fun c_4 => ?_)
                · skip
                  have hz : c = rChZ σ o mi 6 0 cm := by rw [← hz]; simp only [rChZ, c_4, reduceIte]
                  refine lv_iinc (v := nI (mi + 1)) (lv' := [(3, .int (nI (mi + 1))), (0, .ref (gad g 8 0)), (1, .int (nI o)), (2, .int (c)), (4, .int (nI zz))]) hx hb dX3_choose_87 hl (k := 3) rfl (nI_1 _) (by decide) rfl (fun ls hl => ?_)
                  refine lv_goto (tgt := 16) hx hb dX3_choose_90 (by decide) ?_
                  exact ih0 r (mi + 1) (c) (by omega) (by omega) (by omega) (by rw [← hres]; simp only [rChM, hcm, reduceIte]; rw [hz]) ls (lv_sub hl [1, 2, 3, 0] rfl)
                · skip
                  refine lv_iload hx hb dX3_choose_40 (lv_at hl 4 rfl) ?_
                  refine lv_aload_n hx hb dX3_choose_42 rfl (lv_at hl 0 rfl) ?_
                  refine gx_get hx hb hown hZ hG 8 0 2 hR.k8 rfl (by decide) k1 (fun _ h => h) (v := .ref (gad g 11 0)) (grf_z (hR.rf (f := 2) (by decide))) dX3_choose_43 ?_
                  refine lv_iload_n hx hb dX3_choose_46 rfl (lv_at hl 1 rfl) ?_
                  refine gx_rt hx hb hZ hG hR 11 o (by rfl) (by decide) (by decide) ho (by decide) dX3_choose_47 ?_
                  refine lv_iconst (v := 0) hx hb dX3_choose_48 (by decide) ?_
                  refine gx_aldN hx hb hZ hG 17 o 0 (by rfl) (hR.rb 11 (by decide) (by decide) ho) rfl rfl ⟨by rw [hR.ln 17 (by decide) (by decide) (hR.rb 11 (by decide) (by decide) ho)]; decide, by decide⟩ (v := .int (nI a)) (congrArg Value.int ea) dX3_choose_49 ?_
                  refine lv_icmp_eq (tgt := 81) hx hb dX3_choose_50 (by decide) (fun c_5 => ?_) (fun c_5 => ?_)
                  · skip
                    refine lv_iinc (v := nI (zz + 1)) (lv' := [(4, .int (nI (zz + 1))), (0, .ref (gad g 8 0)), (1, .int (nI o)), (2, .int (c)), (3, .int (nI mi))]) hx hb dX3_choose_81 hl (k := 4) rfl (nI_1 _) (by decide) rfl (fun ls hl => ?_)
                    refine lv_goto (tgt := 29) hx hb dX3_choose_84 (by decide) ?_
                    exact ih rz (zz + 1) (c) (by omega) (by omega) (by rw [← hz]; simp only [rChZ, ea, hia2, c_3, c_4, c_5, reduceIte]) ls (lv_sub hl [1, 2, 3, 4, 0] rfl)
                  · skip
                    refine lv_aload_n hx hb dX3_choose_53 rfl (lv_at hl 0 rfl) ?_
                    refine gx_get hx hb hown hZ hG 8 0 0 hR.k8 rfl (by decide) k2 (fun _ h => h) (v := .ref (gad g 9 0)) (grf_z (hR.rf (f := 0) (by decide))) dX3_choose_54 ?_
                    refine lv_iload hx hb dX3_choose_57 (lv_at hl 4 rfl) ?_
                    refine gx_rt hx hb hZ hG hR 9 zz (by rfl) (by decide) (by decide) (show zz < 6 by omega) (by decide) dX3_choose_59 ?_
                    refine lv_aload_n hx hb dX3_choose_60 rfl (lv_at hl 0 rfl) ?_
                    refine gx_get hx hb hown hZ hG 8 0 2 hR.k8 rfl (by decide) k1 (fun _ h => h) (v := .ref (gad g 11 0)) (grf_z (hR.rf (f := 2) (by decide))) dX3_choose_61 ?_
                    refine lv_iload_n hx hb dX3_choose_64 rfl (lv_at hl 1 rfl) ?_
                    refine gx_rt hx hb hZ hG hR 11 o (by rfl) (by decide) (by decide) ho (by decide) dX3_choose_65 ?_
                    refine lv_iconst (v := 0) hx hb dX3_choose_66 (by decide) ?_
                    refine gx_aldN hx hb hZ hG 17 o 0 (by rfl) (hR.rb 11 (by decide) (by decide) ho) rfl rfl ⟨by rw [hR.ln 17 (by decide) (by decide) (hR.rb 11 (by decide) (by decide) ho)]; decide, by decide⟩ (v := .int (nI a)) (congrArg Value.int ea) dX3_choose_67 ?_
                    refine gx_aldN hx hb hZ hG 15 zz a (by rfl) (hR.rb 9 (by decide) (by decide) (show zz < 6 by omega)) rfl rfl ⟨by rw [hR.ln 15 (by decide) (by decide) (hR.rb 9 (by decide) (by decide) (show zz < 6 by omega))]; show a < 6; omega, by omega⟩ (v := .int (σ 15 zz a)) rfl dX3_choose_68 ?_
                    refine lv_iload_n hx hb dX3_choose_69 rfl (lv_at hl 3 rfl) ?_
                    refine lv_icmp_ne (tgt := 81) hx hb dX3_choose_70 (by decide) (fun c_6 => ?_) (fun c_6 => ?_)
                    · skip
                      refine lv_iinc (v := nI (zz + 1)) (lv' := [(4, .int (nI (zz + 1))), (0, .ref (gad g 8 0)), (1, .int (nI o)), (2, .int (c)), (3, .int (nI mi))]) hx hb dX3_choose_81 hl (k := 4) rfl (nI_1 _) (by decide) rfl (fun ls hl => ?_)
                      refine lv_goto (tgt := 29) hx hb dX3_choose_84 (by decide) ?_
                      exact ih rz (zz + 1) (c) (by omega) (by omega) (by rw [← hz]; simp only [rChZ, ea, hia2, c_3, c_4, c_5, c_6, reduceIte]) ls (lv_sub hl [1, 2, 3, 4, 0] rfl)
                    · skip
                      refine lv_aload_n hx hb dX3_choose_73 rfl (lv_at hl 0 rfl) ?_
                      refine lv_iload_n hx hb dX3_choose_74 rfl (lv_at hl 1 rfl) ?_
                      refine lv_iload hx hb dX3_choose_75 (lv_at hl 4 rfl) ?_
                      refine gx_cR (gx_runV (As := [.int (nI o), .int (nI zz)]) (rest := []) ⟨hx, hb, hml, hown, hts⟩ (c_X3_first l g σ w o zz hR ho (by omega) (hQ zz (by omega))) (cwV 2 hts gX3_choose_X3_first rfl rfl rfl (by decide +kernel) ⟨Nat.le_of_ble_eq_true rfl, Nat.le_of_ble_eq_true rfl⟩) (gx_obj hZ hG 8 0 hR.k8 rfl) hZ hG hS rfl hl.1 rfl (Nat.le_of_ble_eq_true rfl) dX3_choose_77 ⟨Nat.le_of_ble_eq_true rfl, Nat.le_of_ble_eq_true rfl⟩) ?_
                      refine lv_istore_n (lv' := [(2, .int (rFi σ o zz)), (0, .ref (gad g 8 0)), (1, .int (nI o)), (3, .int (nI mi)), (4, .int (nI zz))]) hx hb dX3_choose_80 rfl hl (by decide) rfl (fun ls hl => ?_)
                      refine lv_iinc (v := nI (zz + 1)) (lv' := [(4, .int (nI (zz + 1))), (2, .int (rFi σ o zz)), (0, .ref (gad g 8 0)), (1, .int (nI o)), (3, .int (nI mi))]) hx hb dX3_choose_81 hl (k := 4) rfl (nI_1 _) (by decide) rfl (fun ls hl => ?_)
                      refine lv_goto (tgt := 29) hx hb dX3_choose_84 (by decide) ?_
                      exact ih rz (zz + 1) (rFi σ o zz) (by omega) (by omega) (by rw [← hz]; simp only [rChZ, ea, hia2, c_3, c_4, c_5, c_6, reduceIte]) ls (lv_sub hl [2, 3, 1, 4, 0] rfl)
          exact loop_29 7 6 0 cm (by omega) (by omega) rfl ls (lv_sub hl [1, 2, 3, 4, 0] rfl)
  exact loop_16 121 120 1 (rFi σ o a) (by omega) (by omega) (by omega) (by unfold rCh; rw [hia]) ls (lv_sub hl [2, 3, 1, 0] rfl)
theorem rOffN_17 {g : gG} {σ : Mem} (n o : Nat) {f : Nat} (h4 : f ≠ 4) (h5 : f ≠ 5) : rOffN n σ 17 o f = σ 17 o f := by
  induction n with
  | zero => rfl
  | succ n ih =>
    show rOff1 (rOffN n σ) 17 o f = _
    unfold rOff1
    rw [gst_nf h5, gst_nf h4, gst_nk (by decide), gst_nk (by decide), ih]
theorem rOffN_18 {σ : Mem} (n z j : Nat) : rOffN n σ 18 z j = σ 18 z j := by
  induction n with
  | zero => rfl
  | succ n ih =>
    show rOff1 (rOffN n σ) 18 z j = _
    unfold rOff1
    rw [gst_nk (by decide), gst_nk (by decide), gst_nk (by decide), gst_nk (by decide), ih]
theorem rQw.cong {m z : Nat} {σ σ' : Mem} (h : rQw m σ z) (e : ∀ j, σ' 18 z j = σ 18 z j) : rQw m σ' z := by
  have en : rQn σ' z = rQn σ z := by unfold rQn; rw [e]
  unfold rQw
  rw [en, e 0]
  exact ⟨h.1, h.2.1, fun j h1 h2 => by rw [e]; exact h.2.2 j h1 h2⟩
set_option maxHeartbeats 4000000 in
set_option maxRecDepth 100000 in
theorem c_X3_offer (l : Launch) (g : gG) (σ : Mem) (w : Int64) (N : Nat) (hR : Rr g σ) (hQ : ∀ z, z < 6 → rQw (gcn g 16) σ z) (ha : ∀ o, o < gcn g 17 → inN 6 (σ 17 o 0)) (hN : ∀ i, i < N → ¬ rBest (rOffN i σ) < 0) (hE : rBest (rOffN N σ) < 0) : Met l yX3_offer wsX3_offer ({ frames := 2, cells := 0, slots := 0, locals := 48 } : Room) (gPc g σ w [.ref (gad g 8 0)]) (gM g g (rOffN N σ) w (none)) 0 0 (gA g) := by
  refine gx_ofW (cc := cX3_offer) (maxL := 3) (ret := none) (by decide) rfl (Nat.le_of_ble_eq_true rfl) ?_
  intro p e s m below meth c0 hx hb hr hml hts hown hlocks hin hG hZ hS ls hl
  have hown : s.vm.findClass RX3 = some m.cls := hown
  have hl : lv_has ls 3 [(0, .ref (gad g 8 0))] := hl
  have k1 := hts (.fieldLink RX3 44 "TaxiRankLaw$Rank" "all" "I") (by decide +kernel)
  have k2 := hts (.fieldLink RX3 16 "TaxiRankLaw$Rank" "cabs" "[[I") (by decide +kernel)
  have k3 := hts (.fieldLink RX3 47 "TaxiRankLaw$Rank" "now" "I") (by decide +kernel)
  have k4 := hts (.fieldLink RX3 19 "TaxiRankLaw$Rank" "orders" "[[I") (by decide +kernel)
  have hc10 := hR.c10
  have ho60 := hR.o60
  have loop_0 : ∀ (nf : Nat) (r : Nat) (i : Nat) (σ1 : Mem), r < nf → (i + r = N) → (σ1 = rOffN i σ) → ∀ (H : Heap) (locs : List Loc), GW g σ1 w H → va_S (gA g) s.heap H locs → ∀ ls : Array Slot, lv_has ls 3 [(0, .ref (gad g 8 0))] → W p l e ({ frames := 2, cells := 0, slots := 0, locals := 48 } : Room) s m ([.ref (gad g 8 0)] : List Value).toArray below meth c0 H locs 0 0 (MQ below (gM g g (rOffN N σ) w (none)) ([.ref (gad g 8 0)] : List Value).toArray s 0 0 (gA g)) (F0 m 0 ls []) := by
    intro nf
    induction nf with
    | zero => intro r i σ1 hn; exact absurd hn (Nat.not_lt_zero _)
    | succ nf ih =>
      intro r i σ1 hn hk hσ H locs hG hS ls hl
      have ih0 := ih
      have hR : Rr g σ1 := by rw [hσ]; exact hR.offN i
      have hQ1 : ∀ z, z < 6 → rQw (gcn g 16) σ1 z := fun z hz => by rw [hσ]; exact (hQ z hz).cong (fun j => rOffN_18 i z j)
      have ha1 : ∀ o, o < gcn g 17 → inN 6 (σ1 17 o 0) := fun o ho => by rw [hσ, rOffN_17 (g := g) i o (by decide) (by decide)]; exact ha o ho
      have hna := hR.na
      refine lv_iconst (v := (-1)) hx hb dX3_offer_0 (by decide) ?_
      refine lv_istore_n (lv' := [(1, .int (-1)), (0, .ref (gad g 8 0))]) hx hb dX3_offer_1 rfl hl (by decide) rfl (fun ls hl => ?_)
      refine lv_aload_n hx hb dX3_offer_2 rfl (lv_at hl 1 rfl) ?_
      refine gx_get hx hb hown hZ hG 8 0 7 hR.k8 rfl (by decide) k1 (fun _ h => h) (v := .int (nI (gcn g 17))) (congrArg Value.int hna) dX3_offer_3 ?_
      refine lv_iconst (v := 1) hx hb dX3_offer_6 (by decide) ?_
      refine lv_isub hx hb dX3_offer_7 ?_
      refine lv_istore_n (lv' := [(2, .int ((nI (gcn g 17)) - 1)), (1, .int (-1)), (0, .ref (gad g 8 0))]) hx hb dX3_offer_8 rfl hl (by decide) rfl (fun ls hl => ?_)
      have loop_9 : ∀ (nf : Nat) (n : Nat) (b : Int32), n < nf → (n ≤ gcn g 17) → (rBeGo σ1 n b = rBest σ1) → (b = -1 ∨ ∃ j, j < gcn g 17 ∧ b = nI j ∧ ¬ rCh σ1 j < 0 ∧ σ1 17 j 4 = 0) → ∀ ls : Array Slot, lv_has ls 3 [(0, .ref (gad g 8 0)), (1, .int (b)), (2, .int (nI n - 1))] → W p l e ({ frames := 2, cells := 0, slots := 0, locals := 48 } : Room) s m ([.ref (gad g 8 0)] : List Value).toArray below meth c0 H locs 0 0 (MQ below (gM g g (rOffN N σ) w (none)) ([.ref (gad g 8 0)] : List Value).toArray s 0 0 (gA g)) (F0 m 9 ls []) := by
        intro nf
        induction nf with
        | zero => intro n b hn; exact absurd hn (Nat.not_lt_zero _)
        | succ nf ih =>
          intro n b hn hn17 hres hbo ls hl
          refine lv_iload_n hx hb dX3_offer_9 rfl (lv_at hl 2 rfl) ?_
          refine lv_if_lt (tgt := 81) hx hb dX3_offer_10 (by decide) (fun c_1 => ?_) (fun c_1 => ?_)
          · skip
            have hn0 : n = 0 := by
              rcases Nat.eq_zero_or_pos n with q | q
              · exact q
              · exfalso
                obtain ⟨q2, rfl⟩ : ∃ q2, n = q2 + 1 := ⟨n - 1, by omega⟩
                rw [nI_pm] at c_1
                exact nI_pos (by omega) c_1
            subst hn0
            have hres : b = rBest σ1 := hres
            refine lv_iload_n hx hb dX3_offer_81 rfl (lv_at hl 1 rfl) ?_
            refine lv_if_ge (tgt := 86) hx hb dX3_offer_82 (by decide) (fun c_2 => ?_) (fun c_2 => ?_)
            · skip
              obtain ⟨jb, hjb, rfl, hcj, h4j⟩ := hbo.resolve_left (fun q => by rw [q] at c_2; exact absurd c_2 (by decide))
              have hiN : i < N := by
                rcases Nat.lt_or_ge i N with q | q
                · exact q
                · exfalso
                  rw [show N = i by omega, ← hσ, ← hres] at hE
                  exact nI_pos (by omega) hE
              obtain ⟨r, rfl⟩ : ∃ q, r = q + 1 := ⟨r - 1, by omega⟩
              obtain ⟨d, hd, ed⟩ := (rCh_ok hQ1 (ha1 jb hjb)).resolve_left (fun q => hcj (by rw [q]; decide))
              refine lv_aload_n hx hb dX3_offer_86 rfl (lv_at hl 0 rfl) ?_
              refine lv_iload_n hx hb dX3_offer_87 rfl (lv_at hl 1 rfl) ?_
              refine gx_cR (gx_runV (As := [.int (nI jb)]) (rest := []) ⟨hx, hb, hml, hown, hts⟩ (c_X3_choose l g σ1 w jb hR hjb hQ1 (ha1 jb hjb)) (cwV 1 hts gX3_offer_X3_choose rfl rfl rfl (by decide +kernel) ⟨Nat.le_of_ble_eq_true rfl, Nat.le_of_ble_eq_true rfl⟩) (gx_obj hZ hG 8 0 hR.k8 rfl) hZ hG hS rfl hl.1 rfl (Nat.le_of_ble_eq_true rfl) dX3_offer_88 ⟨Nat.le_of_ble_eq_true rfl, Nat.le_of_ble_eq_true rfl⟩) ?_
              refine gx_topN ed ?_
              refine lv_istore_n (lv' := [(2, .int (nI d)), (0, .ref (gad g 8 0)), (1, .int (nI jb))]) hx hb dX3_offer_91 rfl hl (by decide) rfl (fun ls hl => ?_)
              refine lv_aload_n hx hb dX3_offer_92 rfl (lv_at hl 1 rfl) ?_
              refine gx_get hx hb hown hZ hG 8 0 1 hR.k8 rfl (by decide) k2 (fun _ h => h) (v := .ref (gad g 10 0)) (grf_z (hR.rf (f := 1) (by decide))) dX3_offer_93 ?_
              refine lv_iload_n hx hb dX3_offer_96 rfl (lv_at hl 0 rfl) ?_
              refine gx_rt hx hb hZ hG hR 10 d (by rfl) (by decide) (by decide) hd (by decide) dX3_offer_97 ?_
              refine lv_iconst (v := 3) hx hb dX3_offer_98 (by decide) ?_
              refine lv_iload_n hx hb dX3_offer_99 rfl (lv_at hl 2 rfl) ?_
              refine gx_astN hx hb hZ hG hS 16 d 3 (by rfl) (hR.rb 10 (by decide) (by decide) hd) rfl rfl ⟨by rw [hR.ln 16 (by decide) (by decide) (hR.rb 10 (by decide) (by decide) hd)]; decide, by decide⟩ rfl trivial dX3_offer_100 (fun H locs hG hS => ?_)
              have hR := hR.st (k := 16) (i := d) (f := 3) (v := nI jb) (by decide)
              refine lv_aload_n hx hb dX3_offer_101 rfl (lv_at hl 1 rfl) ?_
              refine gx_get hx hb hown hZ hG 8 0 1 hR.k8 rfl (by decide) k2 (fun _ h => h) (v := .ref (gad g 10 0)) (grf_z (hR.rf (f := 1) (by decide))) dX3_offer_102 ?_
              refine lv_iload_n hx hb dX3_offer_105 rfl (lv_at hl 0 rfl) ?_
              refine gx_rt hx hb hZ hG hR 10 d (by rfl) (by decide) (by decide) hd (by decide) dX3_offer_106 ?_
              refine lv_iconst (v := 4) hx hb dX3_offer_107 (by decide) ?_
              refine lv_aload_n hx hb dX3_offer_108 rfl (lv_at hl 1 rfl) ?_
              refine gx_get hx hb hown hZ hG 8 0 8 hR.k8 rfl (by decide) k3 (fun _ h => h) (v := .int (σ1 8 0 8)) (congrArg Value.int (by simp [gst_app])) dX3_offer_109 ?_
              refine gx_astN hx hb hZ hG hS 16 d 4 (by rfl) (hR.rb 10 (by decide) (by decide) hd) rfl rfl ⟨by rw [hR.ln 16 (by decide) (by decide) (hR.rb 10 (by decide) (by decide) hd)]; decide, by decide⟩ rfl trivial dX3_offer_112 (fun H locs hG hS => ?_)
              have hR := hR.st (k := 16) (i := d) (f := 4) (v := σ1 8 0 8) (by decide)
              refine lv_aload_n hx hb dX3_offer_113 rfl (lv_at hl 1 rfl) ?_
              refine gx_get hx hb hown hZ hG 8 0 2 hR.k8 rfl (by decide) k4 (fun _ h => h) (v := .ref (gad g 11 0)) (grf_z (hR.rf (f := 2) (by decide))) dX3_offer_114 ?_
              refine lv_iload_n hx hb dX3_offer_117 rfl (lv_at hl 2 rfl) ?_
              refine gx_rt hx hb hZ hG hR 11 jb (by rfl) (by decide) (by decide) hjb (by decide) dX3_offer_118 ?_
              refine lv_iconst (v := 4) hx hb dX3_offer_119 (by decide) ?_
              refine lv_iconst (v := 1) hx hb dX3_offer_120 (by decide) ?_
              refine gx_astN hx hb hZ hG hS 17 jb 4 (by rfl) (hR.rb 11 (by decide) (by decide) hjb) rfl rfl ⟨by rw [hR.ln 17 (by decide) (by decide) (hR.rb 11 (by decide) (by decide) hjb)]; decide, by decide⟩ rfl trivial dX3_offer_121 (fun H locs hG hS => ?_)
              have hR := hR.st (k := 17) (i := jb) (f := 4) (v := 1) (by decide)
              refine lv_aload_n hx hb dX3_offer_122 rfl (lv_at hl 1 rfl) ?_
              refine gx_get hx hb hown hZ hG 8 0 2 hR.k8 rfl (by decide) k4 (fun _ h => h) (v := .ref (gad g 11 0)) (grf_z (hR.rf (f := 2) (by decide))) dX3_offer_123 ?_
              refine lv_iload_n hx hb dX3_offer_126 rfl (lv_at hl 2 rfl) ?_
              refine gx_rt hx hb hZ hG hR 11 jb (by rfl) (by decide) (by decide) hjb (by decide) dX3_offer_127 ?_
              refine lv_iconst (v := 5) hx hb dX3_offer_128 (by decide) ?_
              refine lv_iload_n hx hb dX3_offer_129 rfl (lv_at hl 0 rfl) ?_
              refine gx_astN hx hb hZ hG hS 17 jb 5 (by rfl) (hR.rb 11 (by decide) (by decide) hjb) rfl rfl ⟨by rw [hR.ln 17 (by decide) (by decide) (hR.rb 11 (by decide) (by decide) hjb)]; decide, by decide⟩ rfl trivial dX3_offer_130 (fun H locs hG hS => ?_)
              have hR := hR.st (k := 17) (i := jb) (f := 5) (v := nI d) (by decide)
              refine lv_goto (tgt := 0) hx hb dX3_offer_131 (by decide) ?_
              exact ih0 r (i + 1) (gst (gst (gst (gst σ1 16 d 3 (nI jb)) 16 d 4 (σ1 8 0 8)) 17 jb 4 1) 17 jb 5 (nI d)) (by omega) (by omega) (by show _ = rOff1 (rOffN i σ); rw [← hσ]; unfold rOff1; simp only [← hres, ix_nI (show jb < 2 ^ 31 by omega), ed, ix_nI (show d < 2 ^ 31 by omega)]) H locs hG hS ls (lv_sub hl [1] rfl)
            · skip
              have hiN : i = N := by
                rcases Nat.lt_or_ge i N with q | q
                · exact absurd (by rw [← hσ, ← hres]; exact i0_lt.mpr c_2) (hN i q)
                · omega
              exact gx_vretM hx hb hr hlocks hG hS (by rw [hσ, hiN]) (Nat.le_of_ble_eq_true rfl) (Nat.le_of_ble_eq_true rfl) dX3_offer_85
          · skip
            obtain ⟨n, rfl⟩ : ∃ q, n = q + 1 := by
              rcases Nat.eq_zero_or_pos n with q | q
              · exact absurd (by rw [q]; decide) c_1
              · exact ⟨n - 1, by omega⟩
            rw [nI_pm] at hl
            have hno : n < gcn g 17 := hn17
            refine lv_aload_n hx hb dX3_offer_13 rfl (lv_at hl 0 rfl) ?_
            refine gx_get hx hb hown hZ hG 8 0 2 hR.k8 rfl (by decide) k4 (fun _ h => h) (v := .ref (gad g 11 0)) (grf_z (hR.rf (f := 2) (by decide))) dX3_offer_14 ?_
            refine lv_iload_n hx hb dX3_offer_17 rfl (lv_at hl 2 rfl) ?_
            refine gx_rt hx hb hZ hG hR 11 n (by rfl) (by decide) (by decide) hno (by decide) dX3_offer_18 ?_
            refine lv_iconst (v := 4) hx hb dX3_offer_19 (by decide) ?_
            refine gx_aldN hx hb hZ hG 17 n 4 (by rfl) (hR.rb 11 (by decide) (by decide) hno) rfl rfl ⟨by rw [hR.ln 17 (by decide) (by decide) (hR.rb 11 (by decide) (by decide) hno)]; decide, by decide⟩ (v := .int (σ1 17 n 4)) rfl dX3_offer_20 ?_
            refine lv_if_ne (tgt := 75) hx hb dX3_offer_21 (by decide) (fun c_3 => ?_) (fun c_3 => ?_)
            · skip
              refine lv_iinc (v := nI n - 1) (lv' := [(2, .int (nI n - 1)), (0, .ref (gad g 8 0)), (1, .int (b))]) hx hb dX3_offer_75 hl (k := 2) rfl (i_m1 _) (by decide) rfl (fun ls hl => ?_)
              refine lv_goto (tgt := 9) hx hb dX3_offer_78 (by decide) ?_
              exact ih n (b) (by omega) (by omega) (by rw [← hres]; first | (simp only [rBeGo, c_3, reduceIte]; done) | (simp only [rBeGo, hixb, c_3, reduceIte]; done)) hbo ls (lv_sub hl [1, 2, 0] rfl)
            · skip
              have hst4 := c_3
              refine lv_aload_n hx hb dX3_offer_24 rfl (lv_at hl 0 rfl) ?_
              refine gx_get hx hb hown hZ hG 8 0 8 hR.k8 rfl (by decide) k3 (fun _ h => h) (v := .int (σ1 8 0 8)) rfl dX3_offer_25 ?_
              refine lv_aload_n hx hb dX3_offer_28 rfl (lv_at hl 0 rfl) ?_
              refine gx_get hx hb hown hZ hG 8 0 2 hR.k8 rfl (by decide) k4 (fun _ h => h) (v := .ref (gad g 11 0)) (grf_z (hR.rf (f := 2) (by decide))) dX3_offer_29 ?_
              refine lv_iload_n hx hb dX3_offer_32 rfl (lv_at hl 2 rfl) ?_
              refine gx_rt hx hb hZ hG hR 11 n (by rfl) (by decide) (by decide) hno (by decide) dX3_offer_33 ?_
              refine lv_iconst (v := 3) hx hb dX3_offer_34 (by decide) ?_
              refine gx_aldN hx hb hZ hG 17 n 3 (by rfl) (hR.rb 11 (by decide) (by decide) hno) rfl rfl ⟨by rw [hR.ln 17 (by decide) (by decide) (hR.rb 11 (by decide) (by decide) hno)]; decide, by decide⟩ (v := .int (σ1 17 n 3)) rfl dX3_offer_35 ?_
              refine lv_bipush (v := 15) hx hb dX3_offer_36 (by decide) ?_
              refine lv_isub hx hb dX3_offer_38 ?_
              refine lv_icmp_lt (tgt := 75) hx hb dX3_offer_39 (by decide) (fun c_4 => ?_) (fun c_4 => ?_)
              · skip
                refine lv_iinc (v := nI n - 1) (lv' := [(2, .int (nI n - 1)), (0, .ref (gad g 8 0)), (1, .int (b))]) hx hb dX3_offer_75 hl (k := 2) rfl (i_m1 _) (by decide) rfl (fun ls hl => ?_)
                refine lv_goto (tgt := 9) hx hb dX3_offer_78 (by decide) ?_
                exact ih n (b) (by omega) (by omega) (by rw [← hres]; first | (simp only [rBeGo, c_3, c_4, reduceIte]; done) | (simp only [rBeGo, hixb, c_3, c_4, reduceIte]; done)) hbo ls (lv_sub hl [1, 2, 0] rfl)
              · skip
                refine lv_aload_n hx hb dX3_offer_42 rfl (lv_at hl 0 rfl) ?_
                refine lv_iload_n hx hb dX3_offer_43 rfl (lv_at hl 2 rfl) ?_
                refine gx_cR (gx_runV (As := [.int (nI n)]) (rest := []) ⟨hx, hb, hml, hown, hts⟩ (c_X3_choose l g σ1 w n hR hno hQ1 (ha1 n hno)) (cwV 1 hts gX3_offer_X3_choose rfl rfl rfl (by decide +kernel) ⟨Nat.le_of_ble_eq_true rfl, Nat.le_of_ble_eq_true rfl⟩) (gx_obj hZ hG 8 0 hR.k8 rfl) hZ hG hS rfl hl.1 rfl (Nat.le_of_ble_eq_true rfl) dX3_offer_44 ⟨Nat.le_of_ble_eq_true rfl, Nat.le_of_ble_eq_true rfl⟩) ?_
                refine lv_if_lt (tgt := 75) hx hb dX3_offer_47 (by decide) (fun c_5 => ?_) (fun c_5 => ?_)
                · skip
                  refine lv_iinc (v := nI n - 1) (lv' := [(2, .int (nI n - 1)), (0, .ref (gad g 8 0)), (1, .int (b))]) hx hb dX3_offer_75 hl (k := 2) rfl (i_m1 _) (by decide) rfl (fun ls hl => ?_)
                  refine lv_goto (tgt := 9) hx hb dX3_offer_78 (by decide) ?_
                  exact ih n (b) (by omega) (by omega) (by rw [← hres]; first | (simp only [rBeGo, c_3, c_4, c_5, reduceIte]; done) | (simp only [rBeGo, hixb, c_3, c_4, c_5, reduceIte]; done)) hbo ls (lv_sub hl [1, 2, 0] rfl)
                · skip
                  have hch := c_5
                  refine lv_iload_n hx hb dX3_offer_50 rfl (lv_at hl 1 rfl) ?_
                  refine lv_if_lt (tgt := 73) hx hb dX3_offer_51 (by decide) (fun c_6 => ?_) (fun c_6 => ?_)
                  · skip
                    refine lv_iload_n hx hb dX3_offer_73 rfl (lv_at hl 2 rfl) ?_
                    refine lv_istore_n (lv' := [(1, .int (nI n)), (0, .ref (gad g 8 0)), (2, .int (nI n))]) hx hb dX3_offer_74 rfl hl (by decide) rfl (fun ls hl => ?_)
                    refine lv_iinc (v := nI n - 1) (lv' := [(2, .int (nI n - 1)), (1, .int (nI n)), (0, .ref (gad g 8 0))]) hx hb dX3_offer_75 hl (k := 2) rfl (i_m1 _) (by decide) rfl (fun ls hl => ?_)
                    refine lv_goto (tgt := 9) hx hb dX3_offer_78 (by decide) ?_
                    exact ih n (nI n) (by omega) (by omega) (by rw [← hres]; first | (simp only [rBeGo, c_3, c_4, c_5, c_6, reduceIte]; done) | (simp only [rBeGo, hixb, c_3, c_4, c_5, c_6, reduceIte]; done)) (Or.inr ⟨n, hno, rfl, hch, hst4⟩) ls (lv_sub hl [2, 1, 0] rfl)
                  · skip
                    obtain ⟨jb, hjb, rfl, hcj, h4j⟩ := hbo.resolve_left (fun q => c_6 (by rw [q]; decide))
                    have hixb : ix (nI jb) = jb := ix_nI (by omega)
                    refine lv_aload_n hx hb dX3_offer_54 rfl (lv_at hl 0 rfl) ?_
                    refine gx_get hx hb hown hZ hG 8 0 2 hR.k8 rfl (by decide) k4 (fun _ h => h) (v := .ref (gad g 11 0)) (grf_z (hR.rf (f := 2) (by decide))) dX3_offer_55 ?_
                    refine lv_iload_n hx hb dX3_offer_58 rfl (lv_at hl 2 rfl) ?_
                    refine gx_rt hx hb hZ hG hR 11 n (by rfl) (by decide) (by decide) hno (by decide) dX3_offer_59 ?_
                    refine lv_iconst (v := 3) hx hb dX3_offer_60 (by decide) ?_
                    refine gx_aldN hx hb hZ hG 17 n 3 (by rfl) (hR.rb 11 (by decide) (by decide) hno) rfl rfl ⟨by rw [hR.ln 17 (by decide) (by decide) (hR.rb 11 (by decide) (by decide) hno)]; decide, by decide⟩ (v := .int (σ1 17 n 3)) rfl dX3_offer_61 ?_
                    refine lv_aload_n hx hb dX3_offer_62 rfl (lv_at hl 0 rfl) ?_
                    refine gx_get hx hb hown hZ hG 8 0 2 hR.k8 rfl (by decide) k4 (fun _ h => h) (v := .ref (gad g 11 0)) (grf_z (hR.rf (f := 2) (by decide))) dX3_offer_63 ?_
                    refine lv_iload_n hx hb dX3_offer_66 rfl (lv_at hl 1 rfl) ?_
                    refine gx_rt hx hb hZ hG hR 11 jb (by rfl) (by decide) (by decide) hjb (by decide) dX3_offer_67 ?_
                    refine lv_iconst (v := 3) hx hb dX3_offer_68 (by decide) ?_
                    refine gx_aldN hx hb hZ hG 17 jb 3 (by rfl) (hR.rb 11 (by decide) (by decide) hjb) rfl rfl ⟨by rw [hR.ln 17 (by decide) (by decide) (hR.rb 11 (by decide) (by decide) hjb)]; decide, by decide⟩ (v := .int (σ1 17 jb 3)) rfl dX3_offer_69 ?_
                    refine lv_icmp_gt (tgt := 75) hx hb dX3_offer_70 (by decide) (fun c_7 => ?_) (fun c_7 => ?_)
                    · skip
                      refine lv_iinc (v := nI n - 1) (lv' := [(2, .int (nI n - 1)), (0, .ref (gad g 8 0)), (1, .int (nI jb))]) hx hb dX3_offer_75 hl (k := 2) rfl (i_m1 _) (by decide) rfl (fun ls hl => ?_)
                      refine lv_goto (tgt := 9) hx hb dX3_offer_78 (by decide) ?_
                      exact ih n (nI jb) (by omega) (by omega) (by rw [← hres]; first | (simp only [rBeGo, c_3, c_4, c_5, c_6, c_7, reduceIte]; done) | (simp only [rBeGo, hixb, c_3, c_4, c_5, c_6, c_7, reduceIte]; done)) (Or.inr ⟨jb, hjb, rfl, hcj, h4j⟩) ls (lv_sub hl [1, 2, 0] rfl)
                    · skip
                      refine lv_iload_n hx hb dX3_offer_73 rfl (lv_at hl 2 rfl) ?_
                      refine lv_istore_n (lv' := [(1, .int (nI n)), (0, .ref (gad g 8 0)), (2, .int (nI n))]) hx hb dX3_offer_74 rfl hl (by decide) rfl (fun ls hl => ?_)
                      refine lv_iinc (v := nI n - 1) (lv' := [(2, .int (nI n - 1)), (1, .int (nI n)), (0, .ref (gad g 8 0))]) hx hb dX3_offer_75 hl (k := 2) rfl (i_m1 _) (by decide) rfl (fun ls hl => ?_)
                      refine lv_goto (tgt := 9) hx hb dX3_offer_78 (by decide) ?_
                      exact ih n (nI n) (by omega) (by omega) (by rw [← hres]; first | (simp only [rBeGo, c_3, c_4, c_5, c_6, c_7, reduceIte]; done) | (simp only [rBeGo, hixb, c_3, c_4, c_5, c_6, c_7, reduceIte]; done)) (Or.inr ⟨n, hno, rfl, hch, hst4⟩) ls (lv_sub hl [2, 1, 0] rfl)
      exact loop_9 (gcn g 17 + 1) (gcn g 17) (-1) (by omega) (Nat.le_refl _) (by unfold rBest; rw [hna, ix_nI (by omega)]) (Or.inl rfl) ls (lv_sub hl [2, 1, 0] rfl)
  exact loop_0 (N + 1) N 0 σ (by omega) (by omega) rfl _ _ hG hS ls (lv_sub hl [0] rfl)
