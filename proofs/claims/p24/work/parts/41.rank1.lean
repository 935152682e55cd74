set_option maxHeartbeats 4000000 in
set_option maxRecDepth 100000 in
theorem c_X3_join (l : Launch) (g : gG) (σ : Mem) (w : Int64) (z c : Nat) (hR : Rr g σ) (hz : z < 6) (hq : σ 18 z 0 = nI (rQn σ z)) (hn : rQn σ z ≤ 9) : Met l yX3_join wsX3_join ({ frames := 0, cells := 0, slots := 0, locals := 0 } : Room) (gPc g σ w [.ref (gad g 8 0), .int (nI z), .int (nI c)]) (gM g g (rJoin σ z c) w (some (.int (nI (rQn σ z))))) 0 0 (gA g) := by
  refine gx_ofW (cc := cX3_join) (maxL := 3) (ret := (some .int)) (by decide) rfl (Nat.le_of_ble_eq_true rfl) ?_
  intro p e s m below meth c0 hx hb hr hml hts hown hlocks hin hG hZ hS ls hl
  have hown : s.vm.findClass RX3 = some m.cls := hown
  have hl : lv_has ls 3 [(0, .ref (gad g 8 0)), (1, .int (nI z)), (2, .int (nI c))] := hl
  have k1 := hts (.fieldLink RX3 22 "TaxiRankLaw$Rank" "queues" "[[I") (by decide +kernel)
  refine lv_aload_n hx hb dX3_join_0 rfl (lv_at hl 0 rfl) ?_
  refine gx_get hx hb hown hZ hG 8 0 3 hR.k8 rfl (by decide) k1 (fun _ h => h) (v := .ref (gad g 12 0)) (grf_z (hR.rf (f := 3) (by decide))) dX3_join_1 ?_
  refine lv_iload_n hx hb dX3_join_4 rfl (lv_at hl 1 rfl) ?_
  refine gx_rt hx hb hZ hG hR 12 z (by rfl) (by decide) (by decide) hz (by decide) dX3_join_5 ?_
  refine lv_iconst (v := 0) hx hb dX3_join_6 (by decide) ?_
  refine lv_dup2_11 hx hb dX3_join_7 rfl rfl ?_
  refine gx_aldN hx hb hZ hG 18 z 0 (by rfl) (hR.rb 12 (by decide) (by decide) hz) rfl rfl ⟨by rw [hR.ln 18 (by decide) (by decide) (hR.rb 12 (by decide) (by decide) hz)]; decide, by decide⟩ (v := .int (nI (rQn σ z))) (congrArg Value.int hq) dX3_join_8 ?_
  refine lv_iconst (v := 1) hx hb dX3_join_9 (by decide) ?_
  refine lv_iadd hx hb dX3_join_10 ?_
  refine gx_topN (y := nI ((rQn σ z) + 1)) (by rw [show (1 : Int32) = nI 1 from rfl, nI_add]) ?_
  refine gx_astN hx hb hZ hG hS 18 z 0 (by rfl) (hR.rb 12 (by decide) (by decide) hz) rfl rfl ⟨by rw [hR.ln 18 (by decide) (by decide) (hR.rb 12 (by decide) (by decide) hz)]; decide, by decide⟩ rfl trivial dX3_join_11 (fun H locs hG hS => ?_)
  have hR := hR.st (k := 18) (i := z) (f := 0) (v := nI ((rQn σ z) + 1)) (by decide)
  refine lv_aload_n hx hb dX3_join_12 rfl (lv_at hl 0 rfl) ?_
  refine gx_get hx hb hown hZ hG 8 0 3 hR.k8 rfl (by decide) k1 (fun _ h => h) (v := .ref (gad g 12 0)) (grf_z (hR.rf (f := 3) (by decide))) dX3_join_13 ?_
  refine lv_iload_n hx hb dX3_join_16 rfl (lv_at hl 1 rfl) ?_
  refine gx_rt hx hb hZ hG hR 12 z (by rfl) (by decide) (by decide) hz (by decide) dX3_join_17 ?_
  refine lv_aload_n hx hb dX3_join_18 rfl (lv_at hl 0 rfl) ?_
  refine gx_get hx hb hown hZ hG 8 0 3 hR.k8 rfl (by decide) k1 (fun _ h => h) (v := .ref (gad g 12 0)) (grf_z (hR.rf (f := 3) (by decide))) dX3_join_19 ?_
  refine lv_iload_n hx hb dX3_join_22 rfl (lv_at hl 1 rfl) ?_
  refine gx_rt hx hb hZ hG hR 12 z (by rfl) (by decide) (by decide) hz (by decide) dX3_join_23 ?_
  refine lv_iconst (v := 0) hx hb dX3_join_24 (by decide) ?_
  refine gx_aldN hx hb hZ hG 18 z 0 (by rfl) (hR.rb 12 (by decide) (by decide) hz) rfl rfl ⟨by rw [hR.ln 18 (by decide) (by decide) (hR.rb 12 (by decide) (by decide) hz)]; decide, by decide⟩ (v := .int (nI ((rQn σ z) + 1))) (congrArg Value.int (by simp [gst_app])) dX3_join_25 ?_
  refine lv_iload_n hx hb dX3_join_26 rfl (lv_at hl 2 rfl) ?_
  refine gx_astN hx hb hZ hG hS 18 z ((rQn σ z) + 1) (by rfl) (hR.rb 12 (by decide) (by decide) hz) rfl rfl ⟨by rw [hR.ln 18 (by decide) (by decide) (hR.rb 12 (by decide) (by decide) hz)]; show (rQn σ z) + 1 < 11; omega, by omega⟩ rfl trivial dX3_join_27 (fun H locs hG hS => ?_)
  have hR := hR.st (k := 18) (i := z) (f := (rQn σ z) + 1) (v := nI c) (by decide)
  refine lv_aload_n hx hb dX3_join_28 rfl (lv_at hl 0 rfl) ?_
  refine gx_get hx hb hown hZ hG 8 0 3 hR.k8 rfl (by decide) k1 (fun _ h => h) (v := .ref (gad g 12 0)) (grf_z (hR.rf (f := 3) (by decide))) dX3_join_29 ?_
  refine lv_iload_n hx hb dX3_join_32 rfl (lv_at hl 1 rfl) ?_
  refine gx_rt hx hb hZ hG hR 12 z (by rfl) (by decide) (by decide) hz (by decide) dX3_join_33 ?_
  refine lv_iconst (v := 0) hx hb dX3_join_34 (by decide) ?_
  refine gx_aldN hx hb hZ hG 18 z 0 (by rfl) (hR.rb 12 (by decide) (by decide) hz) rfl rfl ⟨by rw [hR.ln 18 (by decide) (by decide) (hR.rb 12 (by decide) (by decide) hz)]; decide, by decide⟩ (v := .int (nI ((rQn σ z) + 1))) (congrArg Value.int (by simp [gst_app])) dX3_join_35 ?_
  refine lv_iconst (v := 1) hx hb dX3_join_36 (by decide) ?_
  refine lv_isub hx hb dX3_join_37 ?_
  exact gx_iretM hx hb hr hlocks hG hS (pk_sub (a := rQn σ z + 1) (b := 1) (by omega)) rfl (Nat.le_of_ble_eq_true rfl) (Nat.le_of_ble_eq_true rfl) dX3_join_38
set_option maxHeartbeats 4000000 in
set_option maxRecDepth 100000 in
theorem c_X3_leave (l : Launch) (g : gG) (σ : Mem) (w : Int64) (z c : Nat) (hR : Rr g σ) (hz : z < 6) (hq : σ 18 z 0 = nI (rQn σ z)) (hn : rQn σ z ≤ 10) (hA : 1 ≤ rAt σ z c ∧ rAt σ z c ≤ rQn σ z ∧ σ 18 z (rAt σ z c) = nI c ∧ ∀ j, 1 ≤ j → j < rAt σ z c → ¬ σ 18 z j = nI c) : Met l yX3_leave wsX3_leave ({ frames := 0, cells := 0, slots := 0, locals := 0 } : Room) (gPc g σ w [.ref (gad g 8 0), .int (nI z), .int (nI c)]) (gM g g (rLv σ z c) w (none)) 0 0 (gA g) := by
  refine gx_ofW (cc := cX3_leave) (maxL := 4) (ret := none) (by decide) rfl (Nat.le_of_ble_eq_true rfl) ?_
  intro p e s m below meth c0 hx hb hr hml hts hown hlocks hin hG hZ hS ls hl
  have hown : s.vm.findClass RX3 = some m.cls := hown
  have hl : lv_has ls 4 [(0, .ref (gad g 8 0)), (1, .int (nI z)), (2, .int (nI c))] := hl
  have k1 := hts (.fieldLink RX3 22 "TaxiRankLaw$Rank" "queues" "[[I") (by decide +kernel)
  obtain ⟨ha1, ha2, hac, hlt⟩ := hA
  refine lv_iconst (v := 1) hx hb dX3_leave_0 (by decide) ?_
  refine lv_istore_n (lv' := [(3, .int (1)), (0, .ref (gad g 8 0)), (1, .int (nI z)), (2, .int (nI c))]) hx hb dX3_leave_1 rfl hl (by decide) rfl (fun ls hl => ?_)
  have loop_2 : ∀ (nf : Nat) (r : Nat) (k : Nat), r < nf → (k + r = rAt σ z c) → (1 ≤ k) → ∀ ls : Array Slot, lv_has ls 4 [(0, .ref (gad g 8 0)), (1, .int (nI z)), (2, .int (nI c)), (3, .int (nI k))] → W p l e ({ frames := 0, cells := 0, slots := 0, locals := 0 } : Room) s m ([.ref (gad g 8 0), .int (nI z), .int (nI c)] : List Value).toArray below meth c0 s.heap [] 0 0 (MQ below (gM g g (rLv σ z c) w (none)) ([.ref (gad g 8 0), .int (nI z), .int (nI c)] : List Value).toArray s 0 0 (gA g)) (F0 m 2 ls []) := by
    intro nf
    induction nf with
    | zero => intro r k hn; exact absurd hn (Nat.not_lt_zero _)
    | succ nf ih =>
      intro r k hn hk h1 ls hl
      refine lv_aload_n hx hb dX3_leave_2 rfl (lv_at hl 0 rfl) ?_
      refine gx_get hx hb hown hZ hG 8 0 3 hR.k8 rfl (by decide) k1 (fun _ h => h) (v := .ref (gad g 12 0)) (grf_z (hR.rf (f := 3) (by decide))) dX3_leave_3 ?_
      refine lv_iload_n hx hb dX3_leave_6 rfl (lv_at hl 1 rfl) ?_
      refine gx_rt hx hb hZ hG hR 12 z (by rfl) (by decide) (by decide) hz (by decide) dX3_leave_7 ?_
      refine lv_iload_n hx hb dX3_leave_8 rfl (lv_at hl 3 rfl) ?_
      refine gx_aldN hx hb hZ hG 18 z k (by rfl) (hR.rb 12 (by decide) (by decide) hz) rfl rfl ⟨by rw [hR.ln 18 (by decide) (by decide) (hR.rb 12 (by decide) (by decide) hz)]; show k < 11; omega, by omega⟩ (v := .int (σ 18 z k)) rfl dX3_leave_9 ?_
      refine lv_iload_n hx hb dX3_leave_10 rfl (lv_at hl 2 rfl) ?_
      refine lv_icmp_eq (tgt := 20) hx hb dX3_leave_11 (by decide) (fun c_1 => ?_) (fun c_1 => ?_)
      · skip
        have hka : k = rAt σ z c := by
          rcases Nat.lt_or_ge k (rAt σ z c) with q | q
          · exact absurd c_1 (hlt k h1 q)
          · omega
        have loop_20 : ∀ (nf : Nat) (r : Nat) (k : Nat) (σ1 : Mem), r < nf → (k + r = rQn σ z) → (1 ≤ k) → (Rr g σ1) → (rSh z r k σ1 = rSh z (rQn σ z - rAt σ z c) (rAt σ z c) σ) → (σ1 18 z 0 = nI (rQn σ z)) → ∀ (H : Heap) (locs : List Loc), GW g σ1 w H → va_S (gA g) s.heap H locs → ∀ ls : Array Slot, lv_has ls 4 [(0, .ref (gad g 8 0)), (1, .int (nI z)), (2, .int (nI c)), (3, .int (nI k))] → W p l e ({ frames := 0, cells := 0, slots := 0, locals := 0 } : Room) s m ([.ref (gad g 8 0), .int (nI z), .int (nI c)] : List Value).toArray below meth c0 H locs 0 0 (MQ below (gM g g (rLv σ z c) w (none)) ([.ref (gad g 8 0), .int (nI z), .int (nI c)] : List Value).toArray s 0 0 (gA g)) (F0 m 20 ls []) := by
          intro nf
          induction nf with
          | zero => intro r k σ1 hn; exact absurd hn (Nat.not_lt_zero _)
          | succ nf ih =>
            intro r k σ1 hn hk h1 hR hres h0 H locs hG hS ls hl
            refine lv_iload_n hx hb dX3_leave_20 rfl (lv_at hl 3 rfl) ?_
            refine lv_aload_n hx hb dX3_leave_21 rfl (lv_at hl 0 rfl) ?_
            refine gx_get hx hb hown hZ hG 8 0 3 hR.k8 rfl (by decide) k1 (fun _ h => h) (v := .ref (gad g 12 0)) (grf_z (hR.rf (f := 3) (by decide))) dX3_leave_22 ?_
            refine lv_iload_n hx hb dX3_leave_25 rfl (lv_at hl 1 rfl) ?_
            refine gx_rt hx hb hZ hG hR 12 z (by rfl) (by decide) (by decide) hz (by decide) dX3_leave_26 ?_
            refine lv_iconst (v := 0) hx hb dX3_leave_27 (by decide) ?_
            refine gx_aldN hx hb hZ hG 18 z 0 (by rfl) (hR.rb 12 (by decide) (by decide) hz) rfl rfl ⟨by rw [hR.ln 18 (by decide) (by decide) (hR.rb 12 (by decide) (by decide) hz)]; decide, by decide⟩ (v := .int (nI (rQn σ z))) (congrArg Value.int h0) dX3_leave_28 ?_
            refine lv_icmp_ge (tgt := 56) hx hb dX3_leave_29 (by decide) (fun c_2 => ?_) (fun c_2 => ?_)
            · skip
              have hkq : rQn σ z ≤ k := le_of_nIle c_2 (by omega) (by omega)
              obtain rfl : r = 0 := by omega
              refine lv_aload_n hx hb dX3_leave_56 rfl (lv_at hl 0 rfl) ?_
              refine gx_get hx hb hown hZ hG 8 0 3 hR.k8 rfl (by decide) k1 (fun _ h => h) (v := .ref (gad g 12 0)) (grf_z (hR.rf (f := 3) (by decide))) dX3_leave_57 ?_
              refine lv_iload_n hx hb dX3_leave_60 rfl (lv_at hl 1 rfl) ?_
              refine gx_rt hx hb hZ hG hR 12 z (by rfl) (by decide) (by decide) hz (by decide) dX3_leave_61 ?_
              refine lv_iconst (v := 0) hx hb dX3_leave_62 (by decide) ?_
              refine lv_dup2_11 hx hb dX3_leave_63 rfl rfl ?_
              refine gx_aldN hx hb hZ hG 18 z 0 (by rfl) (hR.rb 12 (by decide) (by decide) hz) rfl rfl ⟨by rw [hR.ln 18 (by decide) (by decide) (hR.rb 12 (by decide) (by decide) hz)]; decide, by decide⟩ (v := .int (nI (rQn σ z))) (congrArg Value.int h0) dX3_leave_64 ?_
              refine lv_iconst (v := 1) hx hb dX3_leave_65 (by decide) ?_
              refine lv_isub hx hb dX3_leave_66 ?_
              refine gx_astN hx hb hZ hG hS 18 z 0 (by rfl) (hR.rb 12 (by decide) (by decide) hz) rfl rfl ⟨by rw [hR.ln 18 (by decide) (by decide) (hR.rb 12 (by decide) (by decide) hz)]; decide, by decide⟩ rfl trivial dX3_leave_67 (fun H locs hG hS => ?_)
              have hR := hR.st (k := 18) (i := z) (f := 0) (v := (nI (rQn σ z)) - 1) (by decide)
              exact gx_vretM hx hb hr hlocks hG hS (by unfold rLv; rw [← hres]; rfl) (Nat.le_of_ble_eq_true rfl) (Nat.le_of_ble_eq_true rfl) dX3_leave_68
            · skip
              have hkq : k < rQn σ z := by
                rcases Nat.lt_or_ge k (rQn σ z) with q | q
                · exact q
                · exact absurd (nI_le q (by omega)) c_2
              obtain ⟨r, rfl⟩ : ∃ q, r = q + 1 := ⟨r - 1, by omega⟩
              refine lv_aload_n hx hb dX3_leave_32 rfl (lv_at hl 0 rfl) ?_
              refine gx_get hx hb hown hZ hG 8 0 3 hR.k8 rfl (by decide) k1 (fun _ h => h) (v := .ref (gad g 12 0)) (grf_z (hR.rf (f := 3) (by decide))) dX3_leave_33 ?_
              refine lv_iload_n hx hb dX3_leave_36 rfl (lv_at hl 1 rfl) ?_
              refine gx_rt hx hb hZ hG hR 12 z (by rfl) (by decide) (by decide) hz (by decide) dX3_leave_37 ?_
              refine lv_iload_n hx hb dX3_leave_38 rfl (lv_at hl 3 rfl) ?_
              refine lv_aload_n hx hb dX3_leave_39 rfl (lv_at hl 0 rfl) ?_
              refine gx_get hx hb hown hZ hG 8 0 3 hR.k8 rfl (by decide) k1 (fun _ h => h) (v := .ref (gad g 12 0)) (grf_z (hR.rf (f := 3) (by decide))) dX3_leave_40 ?_
              refine lv_iload_n hx hb dX3_leave_43 rfl (lv_at hl 1 rfl) ?_
              refine gx_rt hx hb hZ hG hR 12 z (by rfl) (by decide) (by decide) hz (by decide) dX3_leave_44 ?_
              refine lv_iload_n hx hb dX3_leave_45 rfl (lv_at hl 3 rfl) ?_
              refine lv_iconst (v := 1) hx hb dX3_leave_46 (by decide) ?_
              refine lv_iadd hx hb dX3_leave_47 ?_
              refine gx_topN (y := nI (k + 1)) (by rw [show (1 : Int32) = nI 1 from rfl, nI_add]) ?_
              refine gx_aldN hx hb hZ hG 18 z (k + 1) (by rfl) (hR.rb 12 (by decide) (by decide) hz) rfl rfl ⟨by rw [hR.ln 18 (by decide) (by decide) (hR.rb 12 (by decide) (by decide) hz)]; show k + 1 < 11; omega, by omega⟩ (v := .int (σ1 18 z (k + 1))) rfl dX3_leave_48 ?_
              refine gx_astN hx hb hZ hG hS 18 z k (by rfl) (hR.rb 12 (by decide) (by decide) hz) rfl rfl ⟨by rw [hR.ln 18 (by decide) (by decide) (hR.rb 12 (by decide) (by decide) hz)]; show k < 11; omega, by omega⟩ rfl trivial dX3_leave_49 (fun H locs hG hS => ?_)
              have hR := hR.st (k := 18) (i := z) (f := k) (v := σ1 18 z (k + 1)) (by decide)
              refine lv_iinc (v := nI (k + 1)) (lv' := [(3, .int (nI (k + 1))), (0, .ref (gad g 8 0)), (1, .int (nI z)), (2, .int (nI c))]) hx hb dX3_leave_50 hl (k := 3) rfl (nI_1 _) (by decide) rfl (fun ls hl => ?_)
              refine lv_goto (tgt := 20) hx hb dX3_leave_53 (by decide) ?_
              exact ih r (k + 1) (gst σ1 18 z k (σ1 18 z (k + 1))) (by omega) (by omega) (by omega) hR (by rw [← hres]; rfl) (by rw [gst_nf (by omega)]; exact h0) H locs hG hS ls (lv_sub hl [1, 2, 3, 0] rfl)
        exact loop_20 (rQn σ z - rAt σ z c + 1) (rQn σ z - rAt σ z c) k σ (by omega) (by omega) h1 hR (by rw [hka]) hq _ _ hG hS ls (lv_sub hl [0, 1, 2, 3] rfl)
      · skip
        have hka : k < rAt σ z c := by
          rcases Nat.lt_or_ge k (rAt σ z c) with q | q
          · exact q
          · exact absurd (by rw [show k = rAt σ z c by omega]; exact hac) c_1
        refine lv_iinc (v := nI (k + 1)) (lv' := [(3, .int (nI (k + 1))), (0, .ref (gad g 8 0)), (1, .int (nI z)), (2, .int (nI c))]) hx hb dX3_leave_14 hl (k := 3) rfl (nI_1 _) (by decide) rfl (fun ls hl => ?_)
        refine lv_goto (tgt := 2) hx hb dX3_leave_17 (by decide) ?_
        exact ih (r - 1) (k + 1) (by omega) (by omega) (by omega) ls (lv_sub hl [1, 2, 3, 0] rfl)
  exact loop_2 (rAt σ z c) (rAt σ z c - 1) 1 (by omega) (by omega) (by omega) ls (lv_sub hl [1, 2, 3, 0] rfl)
set_option maxHeartbeats 4000000 in
set_option maxRecDepth 100000 in
theorem c_X3_first (l : Launch) (g : gG) (σ : Mem) (w : Int64) (o z : Nat) (hR : Rr g σ) (ho : o < gcn g 17) (hz : z < 6) (hq : rQw (gcn g 16) σ z) : Met l yX3_first wsX3_first ({ frames := 0, cells := 0, slots := 0, locals := 0 } : Room) (gPc g σ w [.ref (gad g 8 0), .int (nI o), .int (nI z)]) (gR (.int (rFi σ o z))) 0 0 (fun _ => False) := by
  refine gx_ofW (cc := cX3_first) (maxL := 5) (ret := (some .int)) (by decide) rfl (Nat.le_of_ble_eq_true rfl) ?_
  intro p e s m below meth c0 hx hb hr hml hts hown hlocks hin hG hZ hS ls hl
  have hown : s.vm.findClass RX3 = some m.cls := hown
  have hl : lv_has ls 5 [(0, .ref (gad g 8 0)), (1, .int (nI o)), (2, .int (nI z))] := hl
  have k1 := hts (.fieldLink RX3 22 "TaxiRankLaw$Rank" "queues" "[[I") (by decide +kernel)
  have k2 := hts (.fieldLink RX3 16 "TaxiRankLaw$Rank" "cabs" "[[I") (by decide +kernel)
  have k3 := hts (.fieldLink RX3 19 "TaxiRankLaw$Rank" "orders" "[[I") (by decide +kernel)
  have k4 := hts (.fieldLink RX3 27 "TaxiRankLaw$Rank" "refused" "[[Z") (by decide +kernel)
  have hn := hq.2.1
  have hc10 := hR.c10
  refine lv_iconst (v := 1) hx hb dX3_first_0 (by decide) ?_
  refine lv_istore_n (lv' := [(3, .int (1)), (0, .ref (gad g 8 0)), (1, .int (nI o)), (2, .int (nI z))]) hx hb dX3_first_1 rfl hl (by decide) rfl (fun ls hl => ?_)
  have loop_2 : ∀ (nf : Nat) (r : Nat) (k : Nat), r < nf → (k + r = rQn σ z + 1) → (1 ≤ k) → (rFiGo σ o z r k = rFi σ o z) → ∀ ls : Array Slot, lv_has ls 5 [(0, .ref (gad g 8 0)), (1, .int (nI o)), (2, .int (nI z)), (3, .int (nI k))] → W p l e ({ frames := 0, cells := 0, slots := 0, locals := 0 } : Room) s m ([.ref (gad g 8 0), .int (nI o), .int (nI z)] : List Value).toArray below meth c0 s.heap [] 0 0 (MQ below (gR (.int (rFi σ o z))) ([.ref (gad g 8 0), .int (nI o), .int (nI z)] : List Value).toArray s 0 0 (fun _ => False)) (F0 m 2 ls []) := by
    intro nf
    induction nf with
    | zero => intro r k hn; exact absurd hn (Nat.not_lt_zero _)
    | succ nf ih =>
      intro r k hn hk h1 hres ls hl
      refine lv_iload_n hx hb dX3_first_2 rfl (lv_at hl 3 rfl) ?_
      refine lv_aload_n hx hb dX3_first_3 rfl (lv_at hl 0 rfl) ?_
      refine gx_get hx hb hown hZ hG 8 0 3 hR.k8 rfl (by decide) k1 (fun _ h => h) (v := .ref (gad g 12 0)) (grf_z (hR.rf (f := 3) (by decide))) dX3_first_4 ?_
      refine lv_iload_n hx hb dX3_first_7 rfl (lv_at hl 2 rfl) ?_
      refine gx_rt hx hb hZ hG hR 12 z (by rfl) (by decide) (by decide) hz (by decide) dX3_first_8 ?_
      refine lv_iconst (v := 0) hx hb dX3_first_9 (by decide) ?_
      refine gx_aldN hx hb hZ hG 18 z 0 (by rfl) (hR.rb 12 (by decide) (by decide) hz) rfl rfl ⟨by rw [hR.ln 18 (by decide) (by decide) (hR.rb 12 (by decide) (by decide) hz)]; decide, by decide⟩ (v := .int (nI (rQn σ z))) (congrArg Value.int hq.1) dX3_first_10 ?_
      refine lv_icmp_gt (tgt := 77) hx hb dX3_first_11 (by decide) (fun c_1 => ?_) (fun c_1 => ?_)
      · skip
        have hr0 : r = 0 := by
          rcases Nat.eq_zero_or_pos r with q | q
          · exact q
          · exact absurd c_1 (nI_nlt (by omega) (by omega))
        subst hr0
        refine lv_iconst (v := (-1)) hx hb dX3_first_77 (by decide) ?_
        exact gx_iretR hx hb hr hlocks (by rw [← hres]; rfl) (Nat.le_of_ble_eq_true rfl) (Nat.le_of_ble_eq_true rfl) dX3_first_78
      · skip
        have hkq : k ≤ rQn σ z := by
          rcases Nat.lt_or_ge (rQn σ z) k with q | q
          · exact absurd (nI_lt q (by omega)) c_1
          · exact q
        obtain ⟨r, rfl⟩ : ∃ q, r = q + 1 := ⟨r - 1, by omega⟩
        obtain ⟨d, hd, ed⟩ := hq.2.2 k h1 hkq
        have hix : ix (σ 18 z k) = d := by rw [ed]; exact ix_nI (by omega)
        refine lv_aload_n hx hb dX3_first_14 rfl (lv_at hl 0 rfl) ?_
        refine gx_get hx hb hown hZ hG 8 0 3 hR.k8 rfl (by decide) k1 (fun _ h => h) (v := .ref (gad g 12 0)) (grf_z (hR.rf (f := 3) (by decide))) dX3_first_15 ?_
        refine lv_iload_n hx hb dX3_first_18 rfl (lv_at hl 2 rfl) ?_
        refine gx_rt hx hb hZ hG hR 12 z (by rfl) (by decide) (by decide) hz (by decide) dX3_first_19 ?_
        refine lv_iload_n hx hb dX3_first_20 rfl (lv_at hl 3 rfl) ?_
        refine gx_aldN hx hb hZ hG 18 z k (by rfl) (hR.rb 12 (by decide) (by decide) hz) rfl rfl ⟨by rw [hR.ln 18 (by decide) (by decide) (hR.rb 12 (by decide) (by decide) hz)]; show k < 11; omega, by omega⟩ (v := .int (nI d)) (congrArg Value.int ed) dX3_first_21 ?_
        refine lv_istore (lv' := [(4, .int (nI d)), (0, .ref (gad g 8 0)), (1, .int (nI o)), (2, .int (nI z)), (3, .int (nI k))]) hx hb dX3_first_22 hl (by decide) rfl (fun ls hl => ?_)
        refine lv_aload_n hx hb dX3_first_24 rfl (lv_at hl 1 rfl) ?_
        refine gx_get hx hb hown hZ hG 8 0 1 hR.k8 rfl (by decide) k2 (fun _ h => h) (v := .ref (gad g 10 0)) (grf_z (hR.rf (f := 1) (by decide))) dX3_first_25 ?_
        refine lv_iload hx hb dX3_first_28 (lv_at hl 0 rfl) ?_
        refine gx_rt hx hb hZ hG hR 10 d (by rfl) (by decide) (by decide) hd (by decide) dX3_first_30 ?_
        refine lv_iconst (v := 3) hx hb dX3_first_31 (by decide) ?_
        refine gx_aldN hx hb hZ hG 16 d 3 (by rfl) (hR.rb 10 (by decide) (by decide) hd) rfl rfl ⟨by rw [hR.ln 16 (by decide) (by decide) (hR.rb 10 (by decide) (by decide) hd)]; decide, by decide⟩ (v := .int (σ 16 d 3)) rfl dX3_first_32 ?_
        refine lv_if_ge (tgt := 71) hx hb dX3_first_33 (by decide) (fun c_2 => ?_) (fun c_2 => ?_)
        · skip
          refine lv_iinc (v := nI (k + 1)) (lv' := [(3, .int (nI (k + 1))), (4, .int (nI d)), (0, .ref (gad g 8 0)), (1, .int (nI o)), (2, .int (nI z))]) hx hb dX3_first_71 hl (k := 4) rfl (nI_1 _) (by decide) rfl (fun ls hl => ?_)
          refine lv_goto (tgt := 2) hx hb dX3_first_74 (by decide) ?_
          exact ih r (k + 1) (by omega) (by omega) (by omega) (by rw [← hres]; simp only [rFiGo, hix, c_1, c_2, reduceIte]) ls (lv_sub hl [2, 3, 4, 0] rfl)
        · skip
          refine lv_aload_n hx hb dX3_first_36 rfl (lv_at hl 1 rfl) ?_
          refine gx_get hx hb hown hZ hG 8 0 1 hR.k8 rfl (by decide) k2 (fun _ h => h) (v := .ref (gad g 10 0)) (grf_z (hR.rf (f := 1) (by decide))) dX3_first_37 ?_
          refine lv_iload hx hb dX3_first_40 (lv_at hl 0 rfl) ?_
          refine gx_rt hx hb hZ hG hR 10 d (by rfl) (by decide) (by decide) hd (by decide) dX3_first_42 ?_
          refine lv_iconst (v := 0) hx hb dX3_first_43 (by decide) ?_
          refine gx_aldN hx hb hZ hG 16 d 0 (by rfl) (hR.rb 10 (by decide) (by decide) hd) rfl rfl ⟨by rw [hR.ln 16 (by decide) (by decide) (hR.rb 10 (by decide) (by decide) hd)]; decide, by decide⟩ (v := .int (σ 16 d 0)) rfl dX3_first_44 ?_
          refine lv_aload_n hx hb dX3_first_45 rfl (lv_at hl 1 rfl) ?_
          refine gx_get hx hb hown hZ hG 8 0 2 hR.k8 rfl (by decide) k3 (fun _ h => h) (v := .ref (gad g 11 0)) (grf_z (hR.rf (f := 2) (by decide))) dX3_first_46 ?_
          refine lv_iload_n hx hb dX3_first_49 rfl (lv_at hl 2 rfl) ?_
          refine gx_rt hx hb hZ hG hR 11 o (by rfl) (by decide) (by decide) ho (by decide) dX3_first_50 ?_
          refine lv_iconst (v := 2) hx hb dX3_first_51 (by decide) ?_
          refine gx_aldN hx hb hZ hG 17 o 2 (by rfl) (hR.rb 11 (by decide) (by decide) ho) rfl rfl ⟨by rw [hR.ln 17 (by decide) (by decide) (hR.rb 11 (by decide) (by decide) ho)]; decide, by decide⟩ (v := .int (σ 17 o 2)) rfl dX3_first_52 ?_
          refine lv_icmp_lt (tgt := 71) hx hb dX3_first_53 (by decide) (fun c_3 => ?_) (fun c_3 => ?_)
          · skip
            refine lv_iinc (v := nI (k + 1)) (lv' := [(3, .int (nI (k + 1))), (4, .int (nI d)), (0, .ref (gad g 8 0)), (1, .int (nI o)), (2, .int (nI z))]) hx hb dX3_first_71 hl (k := 4) rfl (nI_1 _) (by decide) rfl (fun ls hl => ?_)
            refine lv_goto (tgt := 2) hx hb dX3_first_74 (by decide) ?_
            exact ih r (k + 1) (by omega) (by omega) (by omega) (by rw [← hres]; simp only [rFiGo, hix, c_1, c_2, c_3, reduceIte]) ls (lv_sub hl [2, 3, 4, 0] rfl)
          · skip
            refine lv_aload_n hx hb dX3_first_56 rfl (lv_at hl 1 rfl) ?_
            refine gx_get hx hb hown hZ hG 8 0 4 hR.k8 rfl (by decide) k4 (fun _ h => h) (v := .ref (gad g 13 0)) (grf_z (hR.rf (f := 4) (by decide))) dX3_first_57 ?_
            refine lv_iload_n hx hb dX3_first_60 rfl (lv_at hl 2 rfl) ?_
            refine gx_rt hx hb hZ hG hR 13 o (by rfl) (by decide) (by decide) (show o < 60 from Nat.lt_of_lt_of_le ho hR.o60) (by decide) dX3_first_61 ?_
            refine lv_iload hx hb dX3_first_62 (lv_at hl 0 rfl) ?_
            refine gx_zaldN hx hb hZ hG 19 o d (by rfl) (hR.rb 13 (by decide) (by decide) (show o < 60 from Nat.lt_of_lt_of_le ho hR.o60)) rfl rfl ⟨by rw [hR.ln 19 (by decide) (by decide) (hR.rb 13 (by decide) (by decide) (show o < 60 from Nat.lt_of_lt_of_le ho hR.o60))]; show d < 10; omega, by omega⟩ (v := .int (σ 19 o d)) rfl dX3_first_64 ?_
            refine lv_if_ne (tgt := 71) hx hb dX3_first_65 (by decide) (fun c_4 => ?_) (fun c_4 => ?_)
            · skip
              refine lv_iinc (v := nI (k + 1)) (lv' := [(3, .int (nI (k + 1))), (4, .int (nI d)), (0, .ref (gad g 8 0)), (1, .int (nI o)), (2, .int (nI z))]) hx hb dX3_first_71 hl (k := 4) rfl (nI_1 _) (by decide) rfl (fun ls hl => ?_)
              refine lv_goto (tgt := 2) hx hb dX3_first_74 (by decide) ?_
              exact ih r (k + 1) (by omega) (by omega) (by omega) (by rw [← hres]; simp only [rFiGo, hix, c_1, c_2, c_3, c_4, reduceIte]) ls (lv_sub hl [2, 3, 4, 0] rfl)
            · skip
              refine lv_iload hx hb dX3_first_68 (lv_at hl 0 rfl) ?_
              exact gx_iretR hx hb hr hlocks (by rw [← hres]; simp only [rFiGo, hix, c_2, c_3, c_4, reduceIte]; exact ed.symm) (Nat.le_of_ble_eq_true rfl) (Nat.le_of_ble_eq_true rfl) dX3_first_70
  exact loop_2 (rQn σ z + 1) (rQn σ z) 1 (by omega) (by omega) (by omega) rfl ls (lv_sub hl [1, 2, 3, 0] rfl)
