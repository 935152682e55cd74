theorem m32 : ¬ (3 : Int32) = 2 := by decide
theorem mC_1 {σ : Mem} {v : Int32} : mC (gst σ 8 0 1 v) = mC σ := by unfold mC; rw [gst_nf (by decide)]
theorem mC_0 {σ : Mem} {v : Int32} : mC (gst σ 8 0 0 v) = mC σ := by unfold mC; rw [gst_nf (by decide)]
set_option maxHeartbeats 4000000 in
set_option maxRecDepth 100000 in
theorem c_X3_minute (l : Launch) (g : gG) (σ : Mem) (w : Int64) (hF : Mf g σ) : Met l yX3_minute wsX3_minute ({ frames := 4, cells := 0, slots := 0, locals := 95 } : Room) (gPc g σ w [.ref (gad g 8 0)]) (gM g g ((mMin σ).2) w (some (.int (mMin σ).1))) 0 0 (gA g) := by
  refine gx_ofW (cc := cX3_minute) (maxL := 3) (ret := (some .int)) (by decide) rfl (Nat.le_of_ble_eq_true rfl) ?_
  intro p e s m below meth c0 hx hb hr hml hts hown hlocks hin hG hZ hS ls hl
  have hown : s.vm.findClass RX3 = some m.cls := hown
  have hl : lv_has ls 3 [(0, .ref (gad g 8 0))] := hl
  have k1 := hts (.fieldLink RX3 121 "TaxiRankModel" "now" "I") (by decide +kernel)
  have k2 := hts (.fieldLink RX3 60 "TaxiRankModel" "cabs" "I") (by decide +kernel)
  have k3 := hts (.fieldLink RX3 26 "TaxiRankModel" "doing" "[I") (by decide +kernel)
  have k4 := hts (.fieldLink RX3 32 "TaxiRankModel" "times" "[I") (by decide +kernel)
  have k5 := hts (.fieldLink RX3 29 "TaxiRankModel" "orderOf" "[I") (by decide +kernel)
  have hM := hF.1
  have hc10 := hM.c10
  have ho60 := hM.o60
  refine lv_aload_n hx hb dX3_minute_0 rfl (lv_at hl 0 rfl) ?_
  refine lv_dup hx hb dX3_minute_1 rfl ?_
  refine gx_get hx hb hown hZ hG 8 0 1 hM.b8 rfl (by decide) k1 (fun _ h => h) (v := .int (σ 8 0 1)) rfl dX3_minute_2 ?_
  refine lv_iconst (v := 1) hx hb dX3_minute_5 (by decide) ?_
  refine lv_iadd hx hb dX3_minute_6 ?_
  refine gx_put hx hb hown hZ hG hS 8 0 1 ((σ 8 0 1) + 1) hM.b8 rfl (by decide) k1 (fun _ h => h) rfl rfl trivial rfl rfl dX3_minute_7 (fun H locs hG hS => ?_)
  have hM := hM.st8 (f := 1) (v := (σ 8 0 1) + 1) rfl
  refine lv_iconst (v := 0) hx hb dX3_minute_10 (by decide) ?_
  refine lv_istore_n (lv' := [(1, .int (0)), (0, .ref (gad g 8 0))]) hx hb dX3_minute_11 rfl hl (by decide) rfl (fun ls hl => ?_)
  have loop_12 : ∀ (nf : Nat) (r : Nat) (k : Nat) (σ1 : Mem), r < nf → (k + r = mC σ1) → (Mf g σ1) → (mAgeGo r k σ1 = mAge (gst σ 8 0 1 (σ 8 0 1 + 1))) → ∀ (H : Heap) (locs : List Loc), GW g σ1 w H → va_S (gA g) s.heap H locs → ∀ ls : Array Slot, lv_has ls 3 [(0, .ref (gad g 8 0)), (1, .int (nI k))] → W p l e ({ frames := 4, cells := 0, slots := 0, locals := 95 } : Room) s m ([.ref (gad g 8 0)] : List Value).toArray below meth c0 H locs 0 0 (MQ below (gM g g ((mMin σ).2) w (some (.int (mMin σ).1))) ([.ref (gad g 8 0)] : List Value).toArray s 0 0 (gA g)) (F0 m 12 ls []) := by
    intro nf
    induction nf with
    | zero => intro r k σ1 hn; exact absurd hn (Nat.not_lt_zero _)
    | succ nf ih =>
      intro r k σ1 hn hk hF hres H locs hG hS ls hl
      have hM := hF.1
      have hc10 := hM.c10
      have ho60 := hM.o60
      refine lv_iload_n hx hb dX3_minute_12 rfl (lv_at hl 1 rfl) ?_
      refine lv_aload_n hx hb dX3_minute_13 rfl (lv_at hl 0 rfl) ?_
      refine gx_get hx hb hown hZ hG 8 0 5 hM.b8 rfl (by decide) k2 (fun _ h => h) (v := .int (σ1 8 0 5)) rfl dX3_minute_14 ?_
      refine lv_icmp_ge (tgt := 62) hx hb dX3_minute_17 (by decide) (fun c_1 => ?_) (fun c_1 => ?_)
      · skip
        have hge := le_of_nIle (hM.eC ▸ c_1) (by omega) (by omega)
        obtain rfl : r = 0 := by omega
        have hσ1 : σ1 = mAge (gst σ 8 0 1 (σ 8 0 1 + 1)) := hres
        refine lv_iconst (v := 0) hx hb dX3_minute_62 (by decide) ?_
        refine lv_istore_n (lv' := [(1, .int (0)), (0, .ref (gad g 8 0))]) hx hb dX3_minute_63 rfl hl (by decide) rfl (fun ls hl => ?_)
        refine lv_iconst (v := 0) hx hb dX3_minute_64 (by decide) ?_
        refine lv_istore_n (lv' := [(2, .int (0)), (1, .int (0)), (0, .ref (gad g 8 0))]) hx hb dX3_minute_65 rfl hl (by decide) rfl (fun ls hl => ?_)
        have loop_66 : ∀ (nf : Nat) (r : Nat) (k : Nat) (acc : Int32) (σ2 : Mem), r < nf → (k + r = mC σ2) → (Mf g σ2) → (mRunGo r k acc σ2 = mRun (mAge (gst σ 8 0 1 (σ 8 0 1 + 1)))) → ∀ (H : Heap) (locs : List Loc), GW g σ2 w H → va_S (gA g) s.heap H locs → ∀ ls : Array Slot, lv_has ls 3 [(0, .ref (gad g 8 0)), (1, .int (acc)), (2, .int (nI k))] → W p l e ({ frames := 4, cells := 0, slots := 0, locals := 95 } : Room) s m ([.ref (gad g 8 0)] : List Value).toArray below meth c0 H locs 0 0 (MQ below (gM g g ((mMin σ).2) w (some (.int (mMin σ).1))) ([.ref (gad g 8 0)] : List Value).toArray s 0 0 (gA g)) (F0 m 66 ls []) := by
          intro nf
          induction nf with
          | zero => intro r k acc σ2 hn; exact absurd hn (Nat.not_lt_zero _)
          | succ nf ih =>
            intro r k acc σ2 hn hk hF hres H locs hG hS ls hl
            have hM := hF.1
            have hc10 := hM.c10
            have ho60 := hM.o60
            refine lv_iload_n hx hb dX3_minute_66 rfl (lv_at hl 2 rfl) ?_
            refine lv_aload_n hx hb dX3_minute_67 rfl (lv_at hl 0 rfl) ?_
            refine gx_get hx hb hown hZ hG 8 0 5 hM.b8 rfl (by decide) k2 (fun _ h => h) (v := .int (σ2 8 0 5)) rfl dX3_minute_68 ?_
            refine lv_icmp_ge (tgt := 160) hx hb dX3_minute_71 (by decide) (fun c_2 => ?_) (fun c_2 => ?_)
            · skip
              have hge := le_of_nIle (hM.eC ▸ c_2) (by omega) (by omega)
              obtain rfl : r = 0 := by omega
              have hres : (acc, σ2) = mRun (mAge (gst σ 8 0 1 (σ 8 0 1 + 1))) := hres
              refine lv_aload_n hx hb dX3_minute_160 rfl (lv_at hl 0 rfl) ?_
              refine gx_cM (gx_runV (As := []) (rest := []) ⟨hx, hb, hml, hown, hts⟩ (c_X3_offerAll l g σ2 w hM) (cwV 0 hts gX3_minute_X3_offerAll rfl rfl rfl (by decide +kernel) ⟨Nat.le_of_ble_eq_true rfl, Nat.le_of_ble_eq_true rfl⟩) (gx_obj hZ hG 8 0 hM.b8 rfl) hZ hG hS rfl hl.1 rfl (Nat.le_of_ble_eq_true rfl) dX3_minute_161 ⟨Nat.le_of_ble_eq_true rfl, Nat.le_of_ble_eq_true rfl⟩) hS (fun H locs hG hS hsz => ?_)
              refine lv_iload_n hx hb dX3_minute_164 rfl (lv_at hl 1 rfl) ?_
              exact gx_iretM hx hb hr hlocks hG hS (by rw [mMin, ← hres]) (by rw [mMin, ← hres]) (Nat.le_of_ble_eq_true rfl) (Nat.le_of_ble_eq_true rfl) dX3_minute_165
            · skip
              have hkc := lt_of_nle (hM.eC ▸ c_2) (by omega)
              obtain ⟨r, rfl⟩ : ∃ q, r = q + 1 := ⟨r - 1, by omega⟩
              refine lv_aload_n hx hb dX3_minute_74 rfl (lv_at hl 0 rfl) ?_
              refine gx_get hx hb hown hZ hG 8 0 8 hM.b8 rfl (by decide) k3 (fun _ h => h) (v := .ref (gad g 9 3)) (grf_j (hM.rf (f := 8) rfl) (by decide)) dX3_minute_75 ?_
              refine lv_iload_n hx hb dX3_minute_78 rfl (lv_at hl 2 rfl) ?_
              refine gx_aldN hx hb hZ hG 9 3 k (by rfl) (hM.b9 (by decide)) rfl rfl ⟨by rw [hM.lc (i := 3) (by decide) (by decide)]; omega, by omega⟩ (v := .int (σ2 9 3 k)) rfl dX3_minute_79 ?_
              refine lv_iconst (v := 2) hx hb dX3_minute_80 (by decide) ?_
              refine lv_icmp_ne (tgt := 123) hx hb dX3_minute_81 (by decide) (fun c_3 => ?_) (fun c_3 => ?_)
              · skip
                refine lv_aload_n hx hb dX3_minute_123 rfl (lv_at hl 0 rfl) ?_
                refine gx_get hx hb hown hZ hG 8 0 8 hM.b8 rfl (by decide) k3 (fun _ h => h) (v := .ref (gad g 9 3)) (grf_j (hM.rf (f := 8) rfl) (by decide)) dX3_minute_124 ?_
                refine lv_iload_n hx hb dX3_minute_127 rfl (lv_at hl 2 rfl) ?_
                refine gx_aldN hx hb hZ hG 9 3 k (by rfl) (hM.b9 (by decide)) rfl rfl ⟨by rw [hM.lc (i := 3) (by decide) (by decide)]; omega, by omega⟩ (v := .int (σ2 9 3 k)) rfl dX3_minute_128 ?_
                refine lv_iconst (v := 3) hx hb dX3_minute_129 (by decide) ?_
                refine lv_icmp_ne (tgt := 154) hx hb dX3_minute_130 (by decide) (fun c_4 => ?_) (fun c_4 => ?_)
                · skip
                  refine lv_iinc (v := nI (k + 1)) (lv' := [(2, .int (nI (k + 1))), (0, .ref (gad g 8 0)), (1, .int (acc))]) hx hb dX3_minute_154 hl (k := 2) rfl (nI_1 _) (by decide) rfl (fun ls hl => ?_)
                  refine lv_goto (tgt := 66) hx hb dX3_minute_157 (by decide) ?_
                  exact ih r (k + 1) (acc) (σ2) (by omega) (by omega) hF (by rw [← hres]; simp only [mRunGo, c_2, c_3, c_4, m32, reduceIte]) H locs hG hS ls (lv_sub hl [1, 2, 0] rfl)
                · skip
                  have hod := hF.ord (c := k) (by omega) (Or.inr c_4)
                  refine lv_aload_n hx hb dX3_minute_133 rfl (lv_at hl 0 rfl) ?_
                  refine gx_get hx hb hown hZ hG 8 0 1 hM.b8 rfl (by decide) k1 (fun _ h => h) (v := .int (σ2 8 0 1)) rfl dX3_minute_134 ?_
                  refine lv_aload_n hx hb dX3_minute_137 rfl (lv_at hl 0 rfl) ?_
                  refine gx_get hx hb hown hZ hG 8 0 10 hM.b8 rfl (by decide) k4 (fun _ h => h) (v := .ref (gad g 9 5)) (grf_j (hM.rf (f := 10) rfl) (by decide)) dX3_minute_138 ?_
                  refine lv_iload_n hx hb dX3_minute_141 rfl (lv_at hl 2 rfl) ?_
                  refine gx_aldN hx hb hZ hG 9 5 k (by rfl) (hM.b9 (by decide)) rfl rfl ⟨by rw [hM.lc (i := 5) (by decide) (by decide)]; omega, by omega⟩ (v := .int (σ2 9 5 k)) rfl dX3_minute_142 ?_
                  refine lv_icmp_lt (tgt := 154) hx hb dX3_minute_143 (by decide) (fun c_5 => ?_) (fun c_5 => ?_)
                  · skip
                    refine lv_iinc (v := nI (k + 1)) (lv' := [(2, .int (nI (k + 1))), (0, .ref (gad g 8 0)), (1, .int (acc))]) hx hb dX3_minute_154 hl (k := 2) rfl (nI_1 _) (by decide) rfl (fun ls hl => ?_)
                    refine lv_goto (tgt := 66) hx hb dX3_minute_157 (by decide) ?_
                    exact ih r (k + 1) (acc) (σ2) (by omega) (by omega) hF (by rw [← hres]; simp only [mRunGo, c_2, c_3, c_4, c_5, m32, reduceIte]) H locs hG hS ls (lv_sub hl [1, 2, 0] rfl)
                  · skip
                    refine lv_aload_n hx hb dX3_minute_146 rfl (lv_at hl 0 rfl) ?_
                    refine lv_iload_n hx hb dX3_minute_147 rfl (lv_at hl 2 rfl) ?_
                    refine gx_cM (gx_runV (As := [.int (nI k)]) (rest := []) ⟨hx, hb, hml, hown, hts⟩ (c_X3_done l g σ2 w k (ix (σ2 9 4 k)) hM (by omega) hod.1 hod.2) (cwV 1 hts gX3_minute_X3_done rfl rfl rfl (by decide +kernel) ⟨Nat.le_of_ble_eq_true rfl, Nat.le_of_ble_eq_true rfl⟩) (gx_obj hZ hG 8 0 hM.b8 rfl) hZ hG hS rfl hl.1 rfl (Nat.le_of_ble_eq_true rfl) dX3_minute_148 ⟨Nat.le_of_ble_eq_true rfl, Nat.le_of_ble_eq_true rfl⟩) hS (fun H locs hG hS hsz => ?_)
                    have hF := hF.done (c := k) hod.1
                    have hM := hF.1
                    have hkC : mC (mDone σ2 k (ix (σ2 9 4 k))) = mC σ2 := mC_done
                    refine lv_iinc (v := acc + 1) (lv' := [(1, .int (acc + 1)), (0, .ref (gad g 8 0)), (2, .int (nI k))]) hx hb dX3_minute_151 hl (k := 1) rfl rfl (by decide) rfl (fun ls hl => ?_)
                    refine lv_iinc (v := nI (k + 1)) (lv' := [(2, .int (nI (k + 1))), (1, .int (acc + 1)), (0, .ref (gad g 8 0))]) hx hb dX3_minute_154 hl (k := 2) rfl (nI_1 _) (by decide) rfl (fun ls hl => ?_)
                    refine lv_goto (tgt := 66) hx hb dX3_minute_157 (by decide) ?_
                    exact ih r (k + 1) (acc + 1) (mDone σ2 k (ix (σ2 9 4 k))) (by omega) (by rw [hkC]; omega) hF (by rw [← hres]; simp only [mRunGo, c_2, c_3, c_4, c_5, m32, reduceIte]) H locs hG hS ls (lv_sub hl [2, 1, 0] rfl)
              · skip
                have hdo : σ2 9 3 k = 2 := c_3
                have hod := hF.ord (c := k) (by omega) (Or.inl hdo)
                refine lv_aload_n hx hb dX3_minute_84 rfl (lv_at hl 0 rfl) ?_
                refine gx_get hx hb hown hZ hG 8 0 1 hM.b8 rfl (by decide) k1 (fun _ h => h) (v := .int (σ2 8 0 1)) rfl dX3_minute_85 ?_
                refine lv_aload_n hx hb dX3_minute_88 rfl (lv_at hl 0 rfl) ?_
                refine gx_get hx hb hown hZ hG 8 0 10 hM.b8 rfl (by decide) k4 (fun _ h => h) (v := .ref (gad g 9 5)) (grf_j (hM.rf (f := 10) rfl) (by decide)) dX3_minute_89 ?_
                refine lv_iload_n hx hb dX3_minute_92 rfl (lv_at hl 2 rfl) ?_
                refine gx_aldN hx hb hZ hG 9 5 k (by rfl) (hM.b9 (by decide)) rfl rfl ⟨by rw [hM.lc (i := 5) (by decide) (by decide)]; omega, by omega⟩ (v := .int (σ2 9 5 k)) rfl dX3_minute_93 ?_
                refine lv_icmp_lt (tgt := 123) hx hb dX3_minute_94 (by decide) (fun c_6 => ?_) (fun c_6 => ?_)
                · skip
                  refine lv_aload_n hx hb dX3_minute_123 rfl (lv_at hl 0 rfl) ?_
                  refine gx_get hx hb hown hZ hG 8 0 8 hM.b8 rfl (by decide) k3 (fun _ h => h) (v := .ref (gad g 9 3)) (grf_j (hM.rf (f := 8) rfl) (by decide)) dX3_minute_124 ?_
                  refine lv_iload_n hx hb dX3_minute_127 rfl (lv_at hl 2 rfl) ?_
                  refine gx_aldN hx hb hZ hG 9 3 k (by rfl) (hM.b9 (by decide)) rfl rfl ⟨by rw [hM.lc (i := 3) (by decide) (by decide)]; omega, by omega⟩ (v := .int (σ2 9 3 k)) rfl dX3_minute_128 ?_
                  refine lv_iconst (v := 3) hx hb dX3_minute_129 (by decide) ?_
                  refine lv_icmp_ne (tgt := 154) hx hb dX3_minute_130 (by decide) (fun c_7 => ?_) (fun c_7 => ?_)
                  · skip
                    refine lv_iinc (v := nI (k + 1)) (lv' := [(2, .int (nI (k + 1))), (0, .ref (gad g 8 0)), (1, .int (acc))]) hx hb dX3_minute_154 hl (k := 2) rfl (nI_1 _) (by decide) rfl (fun ls hl => ?_)
                    refine lv_goto (tgt := 66) hx hb dX3_minute_157 (by decide) ?_
                    exact ih r (k + 1) (acc) (σ2) (by omega) (by omega) hF (by rw [← hres]; simp only [mRunGo, c_2, c_3, c_6, c_7, m32, reduceIte]) H locs hG hS ls (lv_sub hl [1, 2, 0] rfl)
                  · skip
                    exact absurd (hdo.symm.trans c_7) (by decide)
                · skip
                  refine lv_aload_n hx hb dX3_minute_97 rfl (lv_at hl 0 rfl) ?_
                  refine gx_get hx hb hown hZ hG 8 0 1 hM.b8 rfl (by decide) k1 (fun _ h => h) (v := .int (σ2 8 0 1)) rfl dX3_minute_98 ?_
                  refine lv_aload_n hx hb dX3_minute_101 rfl (lv_at hl 0 rfl) ?_
                  refine lv_aload_n hx hb dX3_minute_102 rfl (lv_at hl 0 rfl) ?_
                  refine gx_get hx hb hown hZ hG 8 0 9 hM.b8 rfl (by decide) k5 (fun _ h => h) (v := .ref (gad g 9 4)) (grf_j (hM.rf (f := 9) rfl) (by decide)) dX3_minute_103 ?_
                  refine lv_iload_n hx hb dX3_minute_106 rfl (lv_at hl 2 rfl) ?_
                  refine gx_aldN hx hb hZ hG 9 4 k (by rfl) (hM.b9 (by decide)) rfl rfl ⟨by rw [hM.lc (i := 4) (by decide) (by decide)]; omega, by omega⟩ (v := .int (σ2 9 4 k)) rfl dX3_minute_107 ?_
                  refine gx_topN hod.2 ?_
                  refine lv_iconst (v := 3) hx hb dX3_minute_108 (by decide) ?_
                  refine gx_cR (gx_runV (As := [.int (nI (ix (σ2 9 4 k))), .int (3)]) (rest := [.int (σ2 8 0 1)]) ⟨hx, hb, hml, hown, hts⟩ (c_X3_get l g σ2 w (ix (σ2 9 4 k)) 3 hM hod.1 (by decide)) (cwV 2 hts gX3_minute_X3_get rfl rfl rfl (by decide +kernel) ⟨Nat.le_of_ble_eq_true rfl, Nat.le_of_ble_eq_true rfl⟩) (gx_obj hZ hG 8 0 hM.b8 rfl) hZ hG hS rfl hl.1 rfl (Nat.le_of_ble_eq_true rfl) dX3_minute_109 ⟨Nat.le_of_ble_eq_true rfl, Nat.le_of_ble_eq_true rfl⟩) ?_
                  refine lv_icmp_lt (tgt := 123) hx hb dX3_minute_112 (by decide) (fun c_8 => ?_) (fun c_8 => ?_)
                  · skip
                    refine lv_aload_n hx hb dX3_minute_123 rfl (lv_at hl 0 rfl) ?_
                    refine gx_get hx hb hown hZ hG 8 0 8 hM.b8 rfl (by decide) k3 (fun _ h => h) (v := .ref (gad g 9 3)) (grf_j (hM.rf (f := 8) rfl) (by decide)) dX3_minute_124 ?_
                    refine lv_iload_n hx hb dX3_minute_127 rfl (lv_at hl 2 rfl) ?_
                    refine gx_aldN hx hb hZ hG 9 3 k (by rfl) (hM.b9 (by decide)) rfl rfl ⟨by rw [hM.lc (i := 3) (by decide) (by decide)]; omega, by omega⟩ (v := .int (σ2 9 3 k)) rfl dX3_minute_128 ?_
                    refine lv_iconst (v := 3) hx hb dX3_minute_129 (by decide) ?_
                    refine lv_icmp_ne (tgt := 154) hx hb dX3_minute_130 (by decide) (fun c_9 => ?_) (fun c_9 => ?_)
                    · skip
                      refine lv_iinc (v := nI (k + 1)) (lv' := [(2, .int (nI (k + 1))), (0, .ref (gad g 8 0)), (1, .int (acc))]) hx hb dX3_minute_154 hl (k := 2) rfl (nI_1 _) (by decide) rfl (fun ls hl => ?_)
                      refine lv_goto (tgt := 66) hx hb dX3_minute_157 (by decide) ?_
                      exact ih r (k + 1) (acc) (σ2) (by omega) (by omega) hF (by rw [← hres]; simp only [mRunGo, c_2, c_3, c_6, c_8, c_9, m32, reduceIte]) H locs hG hS ls (lv_sub hl [1, 2, 0] rfl)
                    · skip
                      exact absurd (hdo.symm.trans c_9) (by decide)
                  · skip
                    refine lv_aload_n hx hb dX3_minute_115 rfl (lv_at hl 0 rfl) ?_
                    refine lv_iload_n hx hb dX3_minute_116 rfl (lv_at hl 2 rfl) ?_
                    refine gx_cM (gx_runV (As := [.int (nI k)]) (rest := []) ⟨hx, hb, hml, hown, hts⟩ (c_X3_ride l g σ2 w k (ix (σ2 9 4 k)) hM (by omega) hod.1 hod.2) (cwV 1 hts gX3_minute_X3_ride rfl rfl rfl (by decide +kernel) ⟨Nat.le_of_ble_eq_true rfl, Nat.le_of_ble_eq_true rfl⟩) (gx_obj hZ hG 8 0 hM.b8 rfl) hZ hG hS rfl hl.1 rfl (Nat.le_of_ble_eq_true rfl) dX3_minute_117 ⟨Nat.le_of_ble_eq_true rfl, Nat.le_of_ble_eq_true rfl⟩) hS (fun H locs hG hS hsz => ?_)
                    have hF := hF.ride (c := k) hod.1 (hF.2.2 k (by omega) (Or.inl hdo))
                    have hM := hF.1
                    have hkC : mC (mRide σ2 k (ix (σ2 9 4 k))) = mC σ2 := mC_ride
                    refine lv_goto (tgt := 154) hx hb dX3_minute_120 (by decide) ?_
                    refine lv_iinc (v := nI (k + 1)) (lv' := [(2, .int (nI (k + 1))), (0, .ref (gad g 8 0)), (1, .int (acc))]) hx hb dX3_minute_154 hl (k := 2) rfl (nI_1 _) (by decide) rfl (fun ls hl => ?_)
                    refine lv_goto (tgt := 66) hx hb dX3_minute_157 (by decide) ?_
                    exact ih r (k + 1) (acc) (mRide σ2 k (ix (σ2 9 4 k))) (by omega) (by rw [hkC]; omega) hF (by rw [← hres]; simp only [mRunGo, c_2, c_3, c_6, c_8, m32, reduceIte]) H locs hG hS ls (lv_sub hl [1, 2, 0] rfl)
        exact loop_66 (mC σ1 + 1) (mC σ1) 0 0 σ1 (by omega) (by omega) hF (by rw [mRun, hσ1]) _ _ hG hS ls (lv_sub hl [2, 1, 0] rfl)
      · skip
        have hkc := lt_of_nle (hM.eC ▸ c_1) (by omega)
        obtain ⟨r, rfl⟩ : ∃ q, r = q + 1 := ⟨r - 1, by omega⟩
        refine lv_aload_n hx hb dX3_minute_20 rfl (lv_at hl 0 rfl) ?_
        refine lv_iload_n hx hb dX3_minute_21 rfl (lv_at hl 1 rfl) ?_
        refine gx_cR (gx_runV (As := [.int (nI k)]) (rest := []) ⟨hx, hb, hml, hown, hts⟩ (c_X3_isOffered l g σ1 w k hM (by omega)) (cwV 1 hts gX3_minute_X3_isOffered rfl rfl rfl (by decide +kernel) ⟨Nat.le_of_ble_eq_true rfl, Nat.le_of_ble_eq_true rfl⟩) (gx_obj hZ hG 8 0 hM.b8 rfl) hZ hG hS rfl hl.1 rfl (Nat.le_of_ble_eq_true rfl) dX3_minute_22 ⟨Nat.le_of_ble_eq_true rfl, Nat.le_of_ble_eq_true rfl⟩) ?_
        refine lv_if_eq (tgt := 56) hx hb dX3_minute_25 (by decide) (fun c_10 => ?_) (fun c_10 => ?_)
        · skip
          have c_10 := bI_eq0.mp c_10
          refine lv_iinc (v := nI (k + 1)) (lv' := [(1, .int (nI (k + 1))), (0, .ref (gad g 8 0))]) hx hb dX3_minute_56 hl (k := 1) rfl (nI_1 _) (by decide) rfl (fun ls hl => ?_)
          refine lv_goto (tgt := 12) hx hb dX3_minute_59 (by decide) ?_
          exact ih r (k + 1) (σ1) (by omega) (by omega) hF (by rw [← hres]; simp only [mAgeGo, c_1, c_10, reduceIte, Bool.false_eq_true]) H locs hG hS ls (lv_sub hl [1, 0] rfl)
        · skip
          have c_10 := bI_ne0.mp c_10
          have hdo := mIsOff_1 c_10
          refine lv_aload_n hx hb dX3_minute_28 rfl (lv_at hl 0 rfl) ?_
          refine gx_get hx hb hown hZ hG 8 0 1 hM.b8 rfl (by decide) k1 (fun _ h => h) (v := .int (σ1 8 0 1)) rfl dX3_minute_29 ?_
          refine lv_aload_n hx hb dX3_minute_32 rfl (lv_at hl 0 rfl) ?_
          refine gx_get hx hb hown hZ hG 8 0 10 hM.b8 rfl (by decide) k4 (fun _ h => h) (v := .ref (gad g 9 5)) (grf_j (hM.rf (f := 10) rfl) (by decide)) dX3_minute_33 ?_
          refine lv_iload_n hx hb dX3_minute_36 rfl (lv_at hl 1 rfl) ?_
          refine gx_aldN hx hb hZ hG 9 5 k (by rfl) (hM.b9 (by decide)) rfl rfl ⟨by rw [hM.lc (i := 5) (by decide) (by decide)]; omega, by omega⟩ (v := .int (σ1 9 5 k)) rfl dX3_minute_37 ?_
          refine lv_isub hx hb dX3_minute_38 ?_
          refine lv_iconst (v := 2) hx hb dX3_minute_39 (by decide) ?_
          refine lv_icmp_ge (tgt := 46) hx hb dX3_minute_40 (by decide) (fun c_11 => ?_) (fun c_11 => ?_)
          · skip
            refine lv_aload_n hx hb dX3_minute_46 rfl (lv_at hl 0 rfl) ?_
            refine lv_iload_n hx hb dX3_minute_47 rfl (lv_at hl 1 rfl) ?_
            refine gx_cM (gx_runV (As := [.int (nI k)]) (rest := []) ⟨hx, hb, hml, hown, hts⟩ (c_X3_refused l g σ1 w k hM (by omega) (hF.2.1 k (by omega))) (cwV 1 hts gX3_minute_X3_refused rfl rfl rfl (by decide +kernel) ⟨Nat.le_of_ble_eq_true rfl, Nat.le_of_ble_eq_true rfl⟩) (gx_obj hZ hG 8 0 hM.b8 rfl) hZ hG hS rfl hl.1 rfl (Nat.le_of_ble_eq_true rfl) dX3_minute_48 ⟨Nat.le_of_ble_eq_true rfl, Nat.le_of_ble_eq_true rfl⟩) hS (fun H locs hG hS hsz => ?_)
            have hF := hF.rfd hdo.1
            have hM := hF.1
            refine lv_aload_n hx hb dX3_minute_51 rfl (lv_at hl 0 rfl) ?_
            refine lv_iload_n hx hb dX3_minute_52 rfl (lv_at hl 1 rfl) ?_
            refine gx_cM (gx_runV (As := [.int (nI k)]) (rest := []) ⟨hx, hb, hml, hown, hts⟩ (c_X3_queueUp l g (mRfd σ1 k) w k hM (by omega)) (cwV 1 hts gX3_minute_X3_queueUp rfl rfl rfl (by decide +kernel) ⟨Nat.le_of_ble_eq_true rfl, Nat.le_of_ble_eq_true rfl⟩) (gx_obj hZ hG 8 0 hM.b8 rfl) hZ hG hS rfl hl.1 rfl (Nat.le_of_ble_eq_true rfl) dX3_minute_53 ⟨Nat.le_of_ble_eq_true rfl, Nat.le_of_ble_eq_true rfl⟩) hS (fun H locs hG hS hsz => ?_)
            have hF := hF.qup (c := k)
            have hM := hF.1
            have hkC : mC (mQup (mRfd σ1 k) k) = mC σ1 := by rw [mC_qup, mC_rfd]
            refine lv_iinc (v := nI (k + 1)) (lv' := [(1, .int (nI (k + 1))), (0, .ref (gad g 8 0))]) hx hb dX3_minute_56 hl (k := 1) rfl (nI_1 _) (by decide) rfl (fun ls hl => ?_)
            refine lv_goto (tgt := 12) hx hb dX3_minute_59 (by decide) ?_
            exact ih r (k + 1) (mQup (mRfd σ1 k) k) (by omega) (by rw [hkC]; omega) hF (by rw [← hres]; simp only [mAgeGo, c_1, c_10, c_11, reduceIte, Bool.false_eq_true]) H locs hG hS ls (lv_sub hl [1, 0] rfl)
          · skip
            refine lv_goto (tgt := 56) hx hb dX3_minute_43 (by decide) ?_
            refine lv_iinc (v := nI (k + 1)) (lv' := [(1, .int (nI (k + 1))), (0, .ref (gad g 8 0))]) hx hb dX3_minute_56 hl (k := 1) rfl (nI_1 _) (by decide) rfl (fun ls hl => ?_)
            refine lv_goto (tgt := 12) hx hb dX3_minute_59 (by decide) ?_
            exact ih r (k + 1) (σ1) (by omega) (by omega) hF (by rw [← hres]; simp only [mAgeGo, c_1, c_10, c_11, reduceIte, Bool.false_eq_true]) H locs hG hS ls (lv_sub hl [1, 0] rfl)
  exact loop_12 (mC (gst σ 8 0 1 (σ 8 0 1 + 1)) + 1) (mC (gst σ 8 0 1 (σ 8 0 1 + 1))) 0 (gst σ 8 0 1 (σ 8 0 1 + 1)) (by omega) (by omega) hF.now rfl _ _ hG hS ls (lv_sub hl [1, 0] rfl)
