set_option maxHeartbeats 4000000 in
set_option maxRecDepth 100000 in
theorem c_X3_cancelB (l : Launch) (g : gG) (σ : Mem) (w : Int64) (n : Int32) (hF : Mf g σ) (hca : ∀ o, o < 60 → mT σ o 4 = 1 ∨ mT σ o 4 = 2 → o < mO σ → ∃ c, c < 10 ∧ mT σ o 5 = nI c) : Met l yX3_cancel wsX3_cancel ({ frames := 4, cells := 0, slots := 0, locals := 97 } : Room) (gPc g σ w [.ref (gad g 8 0), .int (n)]) (gM g g ((mCancel (gst σ 8 0 0 0) n).2) w (some (.int (mCancel (gst σ 8 0 0 0) n).1))) 0 0 (gA g) := by
  refine gx_ofW (cc := cX3_cancel) (maxL := 4) (ret := (some .int)) (by decide) rfl (Nat.le_of_ble_eq_true rfl) ?_
  intro p e s m below meth c0 hx hb hr hml hts hown hlocks hin hG hZ hS ls hl
  have hown : s.vm.findClass RX3 = some m.cls := hown
  have hl : lv_has ls 4 [(0, .ref (gad g 8 0)), (1, .int (n))] := hl
  have k1 := hts (.fieldLink RX3 53 "TaxiRankModel" "thrown" "I") (by decide +kernel)
  have k2 := hts (.fieldLink RX3 23 "TaxiRankModel" "zones" "[I") (by decide +kernel)
  have k3 := hts (.fieldLink RX3 29 "TaxiRankModel" "orderOf" "[I") (by decide +kernel)
  have hM := hF.1
  have hc10 := hM.c10
  have ho60 := hM.o60
  refine lv_aload_n hx hb dX3_cancel_0 rfl (lv_at hl 0 rfl) ?_
  refine lv_iconst (v := 0) hx hb dX3_cancel_1 (by decide) ?_
  refine gx_put hx hb hown hZ hG hS 8 0 0 (0) hM.b8 rfl (by decide) k1 (fun _ h => h) rfl rfl trivial rfl rfl dX3_cancel_2 (fun H locs hG hS => ?_)
  have hM := hM.st8 (f := 0) (v := 0) rfl
  have hF := hF.thr (v := 0)
  obtain ⟨σ0, hσ0⟩ : ∃ z : Mem, z = gst σ 8 0 0 0 := ⟨_, rfl⟩
  rw [← hσ0] at hG hF
  rw [← hσ0]
  have hM := hF.1
  have hc10 := hM.c10
  have ho60 := hM.o60
  refine lv_aload_n hx hb dX3_cancel_5 rfl (lv_at hl 0 rfl) ?_
  refine lv_iload_n hx hb dX3_cancel_6 rfl (lv_at hl 1 rfl) ?_
  refine gx_cR (gx_runV (As := [.int (n)]) (rest := []) ⟨hx, hb, hml, hown, hts⟩ (c_X3_isOrder l g σ0 w n hM) (cwV 1 hts gX3_cancel_X3_isOrder rfl rfl rfl (by decide +kernel) ⟨Nat.le_of_ble_eq_true rfl, Nat.le_of_ble_eq_true rfl⟩) (gx_obj hZ hG 8 0 hM.b8 rfl) hZ hG hS rfl hl.1 rfl (Nat.le_of_ble_eq_true rfl) dX3_cancel_7 ⟨Nat.le_of_ble_eq_true rfl, Nat.le_of_ble_eq_true rfl⟩) ?_
  refine lv_if_ne (tgt := 19) hx hb dX3_cancel_10 (by decide) (fun c_1 => ?_) (fun c_1 => ?_)
  · skip
    have c_1 := bI_ne0.mp c_1
    have hcn := hM.isO c_1
    have hcn1 := hcn.1
    rw [hcn.2] at hl
    refine lv_aload_n hx hb dX3_cancel_19 rfl (lv_at hl 0 rfl) ?_
    refine lv_iload_n hx hb dX3_cancel_20 rfl (lv_at hl 1 rfl) ?_
    refine gx_cR (gx_runV (As := [.int (nI (ix n))]) (rest := []) ⟨hx, hb, hml, hown, hts⟩ (c_X3_state l g σ0 w (ix n) hM (by omega)) (cwV 1 hts gX3_cancel_X3_state rfl rfl rfl (by decide +kernel) ⟨Nat.le_of_ble_eq_true rfl, Nat.le_of_ble_eq_true rfl⟩) (gx_obj hZ hG 8 0 hM.b8 rfl) hZ hG hS rfl hl.1 rfl (Nat.le_of_ble_eq_true rfl) dX3_cancel_21 ⟨Nat.le_of_ble_eq_true rfl, Nat.le_of_ble_eq_true rfl⟩) ?_
    refine lv_istore_n (lv' := [(2, .int (mT σ0 (ix n) 4)), (0, .ref (gad g 8 0)), (1, .int (nI (ix n)))]) hx hb dX3_cancel_24 rfl hl (by decide) rfl (fun ls hl => ?_)
    refine lv_iload_n hx hb dX3_cancel_25 rfl (lv_at hl 0 rfl) ?_
    refine lv_iconst (v := 2) hx hb dX3_cancel_26 (by decide) ?_
    refine lv_icmp_le (tgt := 36) hx hb dX3_cancel_27 (by decide) (fun c_2 => ?_) (fun c_2 => ?_)
    · skip
      have hcc9 : mT σ0 (ix n) 4 = 1 ∨ mT σ0 (ix n) 4 = 2 → ix (mT σ0 (ix n) 5) < 10 ∧ mT σ0 (ix n) 5 = nI (ix (mT σ0 (ix n) 5)) := fun z => by
        obtain ⟨c, hc, e⟩ := hca (ix n) (by omega) (by rw [hσ0] at z; exact z) (by rw [hσ0] at hcn1; simpa [mO, gst_app] using hcn1)
        have e : mT σ0 (ix n) 5 = nI c := by rw [hσ0]; exact e
        rw [e, ix_nI (by omega)]; exact ⟨hc, rfl⟩
      refine lv_aload_n hx hb dX3_cancel_36 rfl (lv_at hl 1 rfl) ?_
      refine lv_iload_n hx hb dX3_cancel_37 rfl (lv_at hl 2 rfl) ?_
      refine lv_iconst (v := 5) hx hb dX3_cancel_38 (by decide) ?_
      refine gx_cR (gx_runV (As := [.int (nI (ix n)), .int (5)]) (rest := []) ⟨hx, hb, hml, hown, hts⟩ (c_X3_get l g σ0 w (ix n) 5 hM (by omega) (by decide)) (cwV 2 hts gX3_cancel_X3_get rfl rfl rfl (by decide +kernel) ⟨Nat.le_of_ble_eq_true rfl, Nat.le_of_ble_eq_true rfl⟩) (gx_obj hZ hG 8 0 hM.b8 rfl) hZ hG hS rfl hl.1 rfl (Nat.le_of_ble_eq_true rfl) dX3_cancel_39 ⟨Nat.le_of_ble_eq_true rfl, Nat.le_of_ble_eq_true rfl⟩) ?_
      refine lv_istore_n (lv' := [(3, .int (mT σ0 (ix n) 5)), (2, .int (mT σ0 (ix n) 4)), (0, .ref (gad g 8 0)), (1, .int (nI (ix n)))]) hx hb dX3_cancel_42 rfl hl (by decide) rfl (fun ls hl => ?_)
      refine lv_iload_n hx hb dX3_cancel_43 rfl (lv_at hl 1 rfl) ?_
      refine lv_iconst (v := 1) hx hb dX3_cancel_44 (by decide) ?_
      refine lv_icmp_ne (tgt := 55) hx hb dX3_cancel_45 (by decide) (fun c_3 => ?_) (fun c_3 => ?_)
      · skip
        refine lv_iload_n hx hb dX3_cancel_55 rfl (lv_at hl 1 rfl) ?_
        refine lv_iconst (v := 2) hx hb dX3_cancel_56 (by decide) ?_
        refine lv_icmp_ne (tgt := 71) hx hb dX3_cancel_57 (by decide) (fun c_4 => ?_) (fun c_4 => ?_)
        · skip
          refine lv_aload_n hx hb dX3_cancel_71 rfl (lv_at hl 2 rfl) ?_
          refine lv_iload_n hx hb dX3_cancel_72 rfl (lv_at hl 3 rfl) ?_
          refine lv_iconst (v := 4) hx hb dX3_cancel_73 (by decide) ?_
          refine lv_iconst (v := 5) hx hb dX3_cancel_74 (by decide) ?_
          refine gx_cM (gx_runV (As := [.int (nI (ix n)), .int (4), .int (5)]) (rest := []) ⟨hx, hb, hml, hown, hts⟩ (c_X3_set l g σ0 w (ix n) 4 5 hM (by omega) (by decide)) (cwV 3 hts gX3_cancel_X3_set rfl rfl rfl (by decide +kernel) ⟨Nat.le_of_ble_eq_true rfl, Nat.le_of_ble_eq_true rfl⟩) (gx_obj hZ hG 8 0 hM.b8 rfl) hZ hG hS rfl hl.1 rfl (Nat.le_of_ble_eq_true rfl) dX3_cancel_75 ⟨Nat.le_of_ble_eq_true rfl, Nat.le_of_ble_eq_true rfl⟩) hS (fun H locs hG hS hsz => ?_)
          have hM := hM.stT (o := ix n) (k := 4) (v := 5) (by decide)
          refine lv_aload_n hx hb dX3_cancel_78 rfl (lv_at hl 2 rfl) ?_
          refine lv_iload_n hx hb dX3_cancel_79 rfl (lv_at hl 3 rfl) ?_
          refine lv_iconst (v := 5) hx hb dX3_cancel_80 (by decide) ?_
          refine lv_iconst (v := (-1)) hx hb dX3_cancel_81 (by decide) ?_
          refine gx_cM (gx_runV (As := [.int (nI (ix n)), .int (5), .int (-1)]) (rest := []) ⟨hx, hb, hml, hown, hts⟩ (c_X3_set l g (gst σ0 9 9 (8 * (ix n) + 4) 5) w (ix n) 5 (-1) hM (by omega) (by decide)) (cwV 3 hts gX3_cancel_X3_set rfl rfl rfl (by decide +kernel) ⟨Nat.le_of_ble_eq_true rfl, Nat.le_of_ble_eq_true rfl⟩) (gx_obj hZ hG 8 0 hM.b8 rfl) hZ hG hS rfl hl.1 rfl (Nat.le_of_ble_eq_true rfl) dX3_cancel_82 ⟨Nat.le_of_ble_eq_true rfl, Nat.le_of_ble_eq_true rfl⟩) hS (fun H locs hG hS hsz => ?_)
          have hM := hM.stT (o := ix n) (k := 5) (v := -1) (by decide)
          refine lv_aload_n hx hb dX3_cancel_85 rfl (lv_at hl 2 rfl) ?_
          refine gx_cM (gx_runV (As := []) (rest := []) ⟨hx, hb, hml, hown, hts⟩ (c_X3_offerAll l g (gst (gst σ0 9 9 (8 * (ix n) + 4) 5) 9 9 (8 * (ix n) + 5) (-1)) w hM) (cwV 0 hts gX3_cancel_X3_offerAll rfl rfl rfl (by decide +kernel) ⟨Nat.le_of_ble_eq_true rfl, Nat.le_of_ble_eq_true rfl⟩) (gx_obj hZ hG 8 0 hM.b8 rfl) hZ hG hS rfl hl.1 rfl (Nat.le_of_ble_eq_true rfl) dX3_cancel_86 ⟨Nat.le_of_ble_eq_true rfl, Nat.le_of_ble_eq_true rfl⟩) hS (fun H locs hG hS hsz => ?_)
          refine lv_iload_n hx hb dX3_cancel_89 rfl (lv_at hl 1 rfl) ?_
          exact gx_iretM hx hb hr hlocks hG hS (by unfold mCancel; (try first | rw [if_pos c_1] | rw [if_neg c_1] | rw [if_neg (ne_true_of_eq_false c_1)]); (try first | rw [if_pos c_2] | rw [if_neg c_2] | rw [if_neg (ne_true_of_eq_false c_2)]); (try first | rw [if_pos c_3] | rw [if_neg c_3] | rw [if_neg (ne_true_of_eq_false c_3)]); (try first | rw [if_pos c_4] | rw [if_neg c_4] | rw [if_neg (ne_true_of_eq_false c_4)]); try rfl) (by unfold mCancel mCan2 mCan1; (try first | rw [if_pos c_1] | rw [if_neg c_1] | rw [if_neg (ne_true_of_eq_false c_1)]); (try first | rw [if_pos c_2] | rw [if_neg c_2] | rw [if_neg (ne_true_of_eq_false c_2)]); (try first | rw [if_pos c_3] | rw [if_neg c_3] | rw [if_neg (ne_true_of_eq_false c_3)]); (try first | rw [if_pos c_4] | rw [if_neg c_4] | rw [if_neg (ne_true_of_eq_false c_4)]); try rfl) (Nat.le_of_ble_eq_true rfl) (Nat.le_of_ble_eq_true rfl) dX3_cancel_90
        · skip
          have hcc := hcc9 (Or.inr c_4)
          rw [hcc.2] at hl
          refine lv_aload_n hx hb dX3_cancel_60 rfl (lv_at hl 2 rfl) ?_
          refine lv_iload_n hx hb dX3_cancel_61 rfl (lv_at hl 0 rfl) ?_
          refine lv_aload_n hx hb dX3_cancel_62 rfl (lv_at hl 2 rfl) ?_
          refine gx_get hx hb hown hZ hG 8 0 7 hM.b8 rfl (by decide) k2 (fun _ h => h) (v := .ref (gad g 9 2)) (grf_j (hM.rf (f := 7) rfl) (by decide)) dX3_cancel_63 ?_
          refine lv_iload_n hx hb dX3_cancel_66 rfl (lv_at hl 0 rfl) ?_
          refine gx_aldN hx hb hZ hG 9 2 (ix (mT σ0 (ix n) 5)) (by rfl) (hM.b9 (by decide)) rfl rfl ⟨by rw [hM.lc (i := 2) (by decide) (by decide)]; omega, by omega⟩ (v := .int (σ0 9 2 (ix (mT σ0 (ix n) 5)))) rfl dX3_cancel_67 ?_
          refine gx_cM (gx_runV (As := [.int (nI (ix (mT σ0 (ix n) 5))), .int (σ0 9 2 (ix (mT σ0 (ix n) 5)))]) (rest := []) ⟨hx, hb, hml, hown, hts⟩ (c_X3_free l g σ0 w (ix (mT σ0 (ix n) 5)) (σ0 9 2 (ix (mT σ0 (ix n) 5))) hM hcc.1 (hM.z hcc.1)) (cwV 2 hts gX3_cancel_X3_free rfl rfl rfl (by decide +kernel) ⟨Nat.le_of_ble_eq_true rfl, Nat.le_of_ble_eq_true rfl⟩) (gx_obj hZ hG 8 0 hM.b8 rfl) hZ hG hS rfl hl.1 rfl (Nat.le_of_ble_eq_true rfl) dX3_cancel_68 ⟨Nat.le_of_ble_eq_true rfl, Nat.le_of_ble_eq_true rfl⟩) hS (fun H locs hG hS hsz => ?_)
          have hM := hM.free (c := ix (mT σ0 (ix n) 5)) (z := σ0 9 2 (ix (mT σ0 (ix n) 5))) (hM.z hcc.1)
          refine lv_aload_n hx hb dX3_cancel_71 rfl (lv_at hl 2 rfl) ?_
          refine lv_iload_n hx hb dX3_cancel_72 rfl (lv_at hl 3 rfl) ?_
          refine lv_iconst (v := 4) hx hb dX3_cancel_73 (by decide) ?_
          refine lv_iconst (v := 5) hx hb dX3_cancel_74 (by decide) ?_
          refine gx_cM (gx_runV (As := [.int (nI (ix n)), .int (4), .int (5)]) (rest := []) ⟨hx, hb, hml, hown, hts⟩ (c_X3_set l g (mFree (σ0) (ix (mT σ0 (ix n) 5)) (σ0 9 2 (ix (mT σ0 (ix n) 5)))) w (ix n) 4 5 hM (by omega) (by decide)) (cwV 3 hts gX3_cancel_X3_set rfl rfl rfl (by decide +kernel) ⟨Nat.le_of_ble_eq_true rfl, Nat.le_of_ble_eq_true rfl⟩) (gx_obj hZ hG 8 0 hM.b8 rfl) hZ hG hS rfl hl.1 rfl (Nat.le_of_ble_eq_true rfl) dX3_cancel_75 ⟨Nat.le_of_ble_eq_true rfl, Nat.le_of_ble_eq_true rfl⟩) hS (fun H locs hG hS hsz => ?_)
          have hM := hM.stT (o := ix n) (k := 4) (v := 5) (by decide)
          refine lv_aload_n hx hb dX3_cancel_78 rfl (lv_at hl 2 rfl) ?_
          refine lv_iload_n hx hb dX3_cancel_79 rfl (lv_at hl 3 rfl) ?_
          refine lv_iconst (v := 5) hx hb dX3_cancel_80 (by decide) ?_
          refine lv_iconst (v := (-1)) hx hb dX3_cancel_81 (by decide) ?_
          refine gx_cM (gx_runV (As := [.int (nI (ix n)), .int (5), .int (-1)]) (rest := []) ⟨hx, hb, hml, hown, hts⟩ (c_X3_set l g (gst (mFree (σ0) (ix (mT σ0 (ix n) 5)) (σ0 9 2 (ix (mT σ0 (ix n) 5)))) 9 9 (8 * (ix n) + 4) 5) w (ix n) 5 (-1) hM (by omega) (by decide)) (cwV 3 hts gX3_cancel_X3_set rfl rfl rfl (by decide +kernel) ⟨Nat.le_of_ble_eq_true rfl, Nat.le_of_ble_eq_true rfl⟩) (gx_obj hZ hG 8 0 hM.b8 rfl) hZ hG hS rfl hl.1 rfl (Nat.le_of_ble_eq_true rfl) dX3_cancel_82 ⟨Nat.le_of_ble_eq_true rfl, Nat.le_of_ble_eq_true rfl⟩) hS (fun H locs hG hS hsz => ?_)
          have hM := hM.stT (o := ix n) (k := 5) (v := -1) (by decide)
          refine lv_aload_n hx hb dX3_cancel_85 rfl (lv_at hl 2 rfl) ?_
          refine gx_cM (gx_runV (As := []) (rest := []) ⟨hx, hb, hml, hown, hts⟩ (c_X3_offerAll l g (gst (gst (mFree (σ0) (ix (mT σ0 (ix n) 5)) (σ0 9 2 (ix (mT σ0 (ix n) 5)))) 9 9 (8 * (ix n) + 4) 5) 9 9 (8 * (ix n) + 5) (-1)) w hM) (cwV 0 hts gX3_cancel_X3_offerAll rfl rfl rfl (by decide +kernel) ⟨Nat.le_of_ble_eq_true rfl, Nat.le_of_ble_eq_true rfl⟩) (gx_obj hZ hG 8 0 hM.b8 rfl) hZ hG hS rfl hl.1 rfl (Nat.le_of_ble_eq_true rfl) dX3_cancel_86 ⟨Nat.le_of_ble_eq_true rfl, Nat.le_of_ble_eq_true rfl⟩) hS (fun H locs hG hS hsz => ?_)
          refine lv_iload_n hx hb dX3_cancel_89 rfl (lv_at hl 1 rfl) ?_
          exact gx_iretM hx hb hr hlocks hG hS (by unfold mCancel; (try first | rw [if_pos c_1] | rw [if_neg c_1] | rw [if_neg (ne_true_of_eq_false c_1)]); (try first | rw [if_pos c_2] | rw [if_neg c_2] | rw [if_neg (ne_true_of_eq_false c_2)]); (try first | rw [if_pos c_3] | rw [if_neg c_3] | rw [if_neg (ne_true_of_eq_false c_3)]); (try first | rw [if_pos c_4] | rw [if_neg c_4] | rw [if_neg (ne_true_of_eq_false c_4)]); try rfl) (by unfold mCancel mCan2 mCan1; (try first | rw [if_pos c_1] | rw [if_neg c_1] | rw [if_neg (ne_true_of_eq_false c_1)]); (try first | rw [if_pos c_2] | rw [if_neg c_2] | rw [if_neg (ne_true_of_eq_false c_2)]); (try first | rw [if_pos c_3] | rw [if_neg c_3] | rw [if_neg (ne_true_of_eq_false c_3)]); (try first | rw [if_pos c_4] | rw [if_neg c_4] | rw [if_neg (ne_true_of_eq_false c_4)]); try rfl) (Nat.le_of_ble_eq_true rfl) (Nat.le_of_ble_eq_true rfl) dX3_cancel_90
      · skip
        have hcc := hcc9 (Or.inl c_3)
        rw [hcc.2] at hl
        refine lv_aload_n hx hb dX3_cancel_48 rfl (lv_at hl 2 rfl) ?_
        refine gx_get hx hb hown hZ hG 8 0 9 hM.b8 rfl (by decide) k3 (fun _ h => h) (v := .ref (gad g 9 4)) (grf_j (hM.rf (f := 9) rfl) (by decide)) dX3_cancel_49 ?_
        refine lv_iload_n hx hb dX3_cancel_52 rfl (lv_at hl 0 rfl) ?_
        refine lv_iconst (v := (-1)) hx hb dX3_cancel_53 (by decide) ?_
        refine gx_astN hx hb hZ hG hS 9 4 (ix (mT σ0 (ix n) 5)) (by rfl) (hM.b9 (by decide)) rfl rfl ⟨by rw [hM.lc (i := 4) (by decide) (by decide)]; omega, by omega⟩ rfl trivial dX3_cancel_54 (fun H locs hG hS => ?_)
        have hM := hM.st9 (i := 4) (f := ix (mT σ0 (ix n) 5)) (v := -1) (by decide)
        refine lv_iload_n hx hb dX3_cancel_55 rfl (lv_at hl 1 rfl) ?_
        refine lv_iconst (v := 2) hx hb dX3_cancel_56 (by decide) ?_
        refine lv_icmp_ne (tgt := 71) hx hb dX3_cancel_57 (by decide) (fun c_5 => ?_) (fun c_5 => ?_)
        · skip
          refine lv_aload_n hx hb dX3_cancel_71 rfl (lv_at hl 2 rfl) ?_
          refine lv_iload_n hx hb dX3_cancel_72 rfl (lv_at hl 3 rfl) ?_
          refine lv_iconst (v := 4) hx hb dX3_cancel_73 (by decide) ?_
          refine lv_iconst (v := 5) hx hb dX3_cancel_74 (by decide) ?_
          refine gx_cM (gx_runV (As := [.int (nI (ix n)), .int (4), .int (5)]) (rest := []) ⟨hx, hb, hml, hown, hts⟩ (c_X3_set l g (gst σ0 9 4 (ix (mT σ0 (ix n) 5)) (-1)) w (ix n) 4 5 hM (by omega) (by decide)) (cwV 3 hts gX3_cancel_X3_set rfl rfl rfl (by decide +kernel) ⟨Nat.le_of_ble_eq_true rfl, Nat.le_of_ble_eq_true rfl⟩) (gx_obj hZ hG 8 0 hM.b8 rfl) hZ hG hS rfl hl.1 rfl (Nat.le_of_ble_eq_true rfl) dX3_cancel_75 ⟨Nat.le_of_ble_eq_true rfl, Nat.le_of_ble_eq_true rfl⟩) hS (fun H locs hG hS hsz => ?_)
          have hM := hM.stT (o := ix n) (k := 4) (v := 5) (by decide)
          refine lv_aload_n hx hb dX3_cancel_78 rfl (lv_at hl 2 rfl) ?_
          refine lv_iload_n hx hb dX3_cancel_79 rfl (lv_at hl 3 rfl) ?_
          refine lv_iconst (v := 5) hx hb dX3_cancel_80 (by decide) ?_
          refine lv_iconst (v := (-1)) hx hb dX3_cancel_81 (by decide) ?_
          refine gx_cM (gx_runV (As := [.int (nI (ix n)), .int (5), .int (-1)]) (rest := []) ⟨hx, hb, hml, hown, hts⟩ (c_X3_set l g (gst (gst σ0 9 4 (ix (mT σ0 (ix n) 5)) (-1)) 9 9 (8 * (ix n) + 4) 5) w (ix n) 5 (-1) hM (by omega) (by decide)) (cwV 3 hts gX3_cancel_X3_set rfl rfl rfl (by decide +kernel) ⟨Nat.le_of_ble_eq_true rfl, Nat.le_of_ble_eq_true rfl⟩) (gx_obj hZ hG 8 0 hM.b8 rfl) hZ hG hS rfl hl.1 rfl (Nat.le_of_ble_eq_true rfl) dX3_cancel_82 ⟨Nat.le_of_ble_eq_true rfl, Nat.le_of_ble_eq_true rfl⟩) hS (fun H locs hG hS hsz => ?_)
          have hM := hM.stT (o := ix n) (k := 5) (v := -1) (by decide)
          refine lv_aload_n hx hb dX3_cancel_85 rfl (lv_at hl 2 rfl) ?_
          refine gx_cM (gx_runV (As := []) (rest := []) ⟨hx, hb, hml, hown, hts⟩ (c_X3_offerAll l g (gst (gst (gst σ0 9 4 (ix (mT σ0 (ix n) 5)) (-1)) 9 9 (8 * (ix n) + 4) 5) 9 9 (8 * (ix n) + 5) (-1)) w hM) (cwV 0 hts gX3_cancel_X3_offerAll rfl rfl rfl (by decide +kernel) ⟨Nat.le_of_ble_eq_true rfl, Nat.le_of_ble_eq_true rfl⟩) (gx_obj hZ hG 8 0 hM.b8 rfl) hZ hG hS rfl hl.1 rfl (Nat.le_of_ble_eq_true rfl) dX3_cancel_86 ⟨Nat.le_of_ble_eq_true rfl, Nat.le_of_ble_eq_true rfl⟩) hS (fun H locs hG hS hsz => ?_)
          refine lv_iload_n hx hb dX3_cancel_89 rfl (lv_at hl 1 rfl) ?_
          exact gx_iretM hx hb hr hlocks hG hS (by unfold mCancel; (try first | rw [if_pos c_1] | rw [if_neg c_1] | rw [if_neg (ne_true_of_eq_false c_1)]); (try first | rw [if_pos c_2] | rw [if_neg c_2] | rw [if_neg (ne_true_of_eq_false c_2)]); (try first | rw [if_pos c_3] | rw [if_neg c_3] | rw [if_neg (ne_true_of_eq_false c_3)]); (try first | rw [if_pos c_5] | rw [if_neg c_5] | rw [if_neg (ne_true_of_eq_false c_5)]); try rfl) (by unfold mCancel mCan2 mCan1; (try first | rw [if_pos c_1] | rw [if_neg c_1] | rw [if_neg (ne_true_of_eq_false c_1)]); (try first | rw [if_pos c_2] | rw [if_neg c_2] | rw [if_neg (ne_true_of_eq_false c_2)]); (try first | rw [if_pos c_3] | rw [if_neg c_3] | rw [if_neg (ne_true_of_eq_false c_3)]); (try first | rw [if_pos c_5] | rw [if_neg c_5] | rw [if_neg (ne_true_of_eq_false c_5)]); try rfl) (Nat.le_of_ble_eq_true rfl) (Nat.le_of_ble_eq_true rfl) dX3_cancel_90
        · skip
          exact absurd (c_3.symm.trans c_5) (by decide)
    · skip
      refine lv_aload_n hx hb dX3_cancel_30 rfl (lv_at hl 1 rfl) ?_
      refine lv_iconst (v := 2) hx hb dX3_cancel_31 (by decide) ?_
      refine gx_cM (gx_runV (As := [.int (2)]) (rest := []) ⟨hx, hb, hml, hown, hts⟩ (c_X3_fail l g σ0 w 2 hM) (cwV 1 hts gX3_cancel_X3_fail rfl rfl rfl (by decide +kernel) ⟨Nat.le_of_ble_eq_true rfl, Nat.le_of_ble_eq_true rfl⟩) (gx_obj hZ hG 8 0 hM.b8 rfl) hZ hG hS rfl hl.1 rfl (Nat.le_of_ble_eq_true rfl) dX3_cancel_32 ⟨Nat.le_of_ble_eq_true rfl, Nat.le_of_ble_eq_true rfl⟩) hS (fun H locs hG hS hsz => ?_)
      exact gx_iretM hx hb hr hlocks hG hS (by unfold mCancel; (try first | rw [if_pos c_1] | rw [if_neg c_1] | rw [if_neg (ne_true_of_eq_false c_1)]); (try first | rw [if_pos c_2] | rw [if_neg c_2] | rw [if_neg (ne_true_of_eq_false c_2)]); try rfl) (by unfold mCancel mCan2 mCan1; (try first | rw [if_pos c_1] | rw [if_neg c_1] | rw [if_neg (ne_true_of_eq_false c_1)]); (try first | rw [if_pos c_2] | rw [if_neg c_2] | rw [if_neg (ne_true_of_eq_false c_2)]); try rfl) (Nat.le_of_ble_eq_true rfl) (Nat.le_of_ble_eq_true rfl) dX3_cancel_35
  · skip
    have c_1 := bI_eq0.mp c_1
    refine lv_aload_n hx hb dX3_cancel_13 rfl (lv_at hl 0 rfl) ?_
    refine lv_iconst (v := 1) hx hb dX3_cancel_14 (by decide) ?_
    refine gx_cM (gx_runV (As := [.int (1)]) (rest := []) ⟨hx, hb, hml, hown, hts⟩ (c_X3_fail l g σ0 w 1 hM) (cwV 1 hts gX3_cancel_X3_fail rfl rfl rfl (by decide +kernel) ⟨Nat.le_of_ble_eq_true rfl, Nat.le_of_ble_eq_true rfl⟩) (gx_obj hZ hG 8 0 hM.b8 rfl) hZ hG hS rfl hl.1 rfl (Nat.le_of_ble_eq_true rfl) dX3_cancel_15 ⟨Nat.le_of_ble_eq_true rfl, Nat.le_of_ble_eq_true rfl⟩) hS (fun H locs hG hS hsz => ?_)
    exact gx_iretM hx hb hr hlocks hG hS (by unfold mCancel; (try first | rw [if_pos c_1] | rw [if_neg c_1] | rw [if_neg (ne_true_of_eq_false c_1)]); try rfl) (by unfold mCancel mCan2 mCan1; (try first | rw [if_pos c_1] | rw [if_neg c_1] | rw [if_neg (ne_true_of_eq_false c_1)]); try rfl) (Nat.le_of_ble_eq_true rfl) (Nat.le_of_ble_eq_true rfl) dX3_cancel_18
