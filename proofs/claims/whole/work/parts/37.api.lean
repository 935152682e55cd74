def mFl (σ : Mem) (e : Int32) : Int32 × Mem := (0, gst σ 8 0 0 e)
def mSetWay (σ : Mem) (a b n : Int32) : Int32 × Mem := if mZo a = true then (if mZo b = true then (if a = b then mFl σ 2 else if mIn n 1 120 = true then (mWay σ a b, gst (gst σ 9 0 (ix (6 * a + b)) n) 9 0 (ix (6 * b + a)) n) else mFl σ 2) else mFl σ 1) else mFl σ 1
def mAddCab (σ : Mem) (a b : Int32) : Int32 × Mem := if mIn a 1 8 = true then (if mZo b = true then (if σ 8 0 5 = 10 then mFl σ 2 else (σ 8 0 5 + 1 - 1, gst (gst (gst σ 9 1 (mC σ) a) 9 2 (mC σ) b) 8 0 5 (σ 8 0 5 + 1))) else mFl σ 1) else mFl σ 1
def mStart (σ : Mem) (n : Int32) : Int32 × Mem := if mIsC σ n = true then (if σ 9 3 (ix n) = 0 then (mPl (mFree σ (ix n) (σ 9 2 (ix n))) (ix n), mOA (mFree σ (ix n) (σ 9 2 (ix n)))) else mFl σ 2) else mFl σ 1
def mStop (σ : Mem) (n : Int32) : Int32 × Mem := if mIsC σ n = true then (if σ 9 3 (ix n) = 1 then (mOA (gst (mRfd σ (ix n)) 9 3 (ix n) 0) 9 2 (ix n), mOA (gst (mRfd σ (ix n)) 9 3 (ix n) 0)) else mFl σ 2) else mFl σ 1
def mSetRates (σ : Mem) (a b : Int32) : Int32 × Mem := if mIn a 0 100 = true then (if mIn b 0 20 = true then (σ 8 0 3, gst (gst σ 8 0 3 a) 8 0 4 b) else mFl σ 1) else mFl σ 1
def mCab (σ : Mem) (n x : Int32) : Int32 × Mem := if mIsC σ n = true then (if mIn x 0 4 = true then (mCabTold σ (ix n) x, σ) else mFl σ 1) else mFl σ 1
def mAccWay (σ : Mem) (c : Nat) : Int32 := mWay σ (σ 9 2 c) (mT σ (ix (σ 9 4 c)) 0)
def mAccept (σ : Mem) (n : Int32) : Int32 × Mem := if mIsC σ n = true then (if mIsOff σ (ix n) = true then (mAccWay σ (ix n), mOA (gst (gst (gst σ 9 3 (ix n) 2) 9 5 (ix n) (σ 8 0 1 + mAccWay σ (ix n))) 9 9 (8 * ix (σ 9 4 (ix n)) + 4) 2)) else mFl σ 2) else mFl σ 1
def mRefuse (σ : Mem) (n : Int32) : Int32 × Mem := if mIsC σ n = true then (if mIsOff σ (ix n) = true then (σ 9 4 (ix n), mOA (mQup (mRfd σ (ix n)) (ix n))) else mFl σ 2) else mFl σ 1
def mCan1 (σ : Mem) (o : Nat) : Mem := if mT σ o 4 = 1 then gst σ 9 4 (ix (mT σ o 5)) (-1) else σ
def mCan2 (σ : Mem) (o : Nat) : Mem := if mT σ o 4 = 2 then mFree (mCan1 σ o) (ix (mT σ o 5)) (mCan1 σ o 9 2 (ix (mT σ o 5))) else mCan1 σ o
def mCancel (σ : Mem) (n : Int32) : Int32 × Mem := if mIsO σ n = true then (if mT σ (ix n) 4 ≤ 2 then (mT σ (ix n) 4, mOA (gst (gst (mCan2 σ (ix n)) 9 9 (8 * ix n + 4) 5) 9 9 (8 * ix n + 5) (-1))) else mFl σ 2) else mFl σ 1
def mTold (σ : Mem) (n x : Int32) : Int32 × Mem := if mIsO σ n = true then (if mIn x 0 4 = true then (mOrdTold σ (ix n) (ix x), σ) else mFl σ 1) else mFl σ 1
def mFareX (σ : Mem) (n x : Int32) : Int32 × Mem := if mIsO σ n = true then (if mIn x 0 4 = true then (mFare σ (ix n) (ix x), σ) else mFl σ 1) else mFl σ 1
def mTickGo : Nat → Int32 → Mem → Int32 × Mem
  | 0, acc, σ => (acc, σ)
  | r + 1, acc, σ => mTickGo r (acc + (mMin σ).1) (mMin σ).2
def mTick (σ : Mem) (n : Int32) : Int32 × Mem := if mIn n 1 300 = true then (if σ 8 0 1 + n ≤ 9999 then mTickGo (ix n) 0 σ else mFl σ 1) else mFl σ 1
def mQdGo (σ : Mem) (z p : Int32) : Nat → Nat → Int32
  | 0, _ => -1
  | r + 1, k => if σ 9 2 k = z then (if mPl σ k = p then nI k else mQdGo σ z p r (k + 1)) else mQdGo σ z p r (k + 1)
def mQd (σ : Mem) (z p : Int32) : Int32 := mQdGo σ z p (mC σ) 0
def mQueue (σ : Mem) (z p : Int32) : Int32 × Mem := if mZo z = true then (if p < 0 then mFl σ 1 else (mQd σ z p, σ)) else mFl σ 1
def mCntGo (σ : Mem) (x : Int32) : Nat → Nat → Int32 → Int32
  | 0, _, acc => acc
  | r + 1, k, acc => if mT σ k 4 = x - 2 then mCntGo σ x r (k + 1) (acc + 1) else mCntGo σ x r (k + 1) (acc + 0)
def mCount (σ : Mem) (x : Int32) : Int32 × Mem := if mIn x 0 7 = true then (if 2 ≤ x then (mCntGo σ x (mO σ) 0 0, σ) else if x = 0 then (σ 8 0 5, σ) else (σ 8 0 15, σ)) else mFl σ 1
def mMoney (σ : Mem) (n b : Int32) : Int32 × Mem := if mIsC σ n = true then (if b = 0 then (σ 9 7 (ix n), σ) else (σ 9 8 (ix n), σ)) else mFl σ 1
def mSettle (σ : Mem) (n : Int32) : Int32 × Mem := if mIsC σ n = true then (σ 9 8 (ix n), gst σ 9 8 (ix n) 0) else mFl σ 1
def mLaGo (σ : Mem) : Nat → Nat → Int32 → Int32 → Int32 × Int32
  | 0, _, n, t => (n, t)
  | r + 1, k, n, t => if mT σ k 6 = -1 then mLaGo σ r (k + 1) n t else mLaGo σ r (k + 1) (n + 1) (t + (mT σ k 6 - mT σ k 3))
def mLa (σ : Mem) : Int32 × Int32 := mLaGo σ (mO σ) 0 0 0
def mNeGo (σ : Mem) (z n : Int32) : Nat → Nat → Int32 → Int32
  | 0, _, best => best
  | r + 1, k, best => if σ 9 3 k = 1 then (if σ 9 4 k = -1 then (if σ 9 1 k < n then mNeGo σ z n r (k + 1) best else if best = -1 then mNeGo σ z n r (k + 1) (mWay σ (σ 9 2 k) z) else if best ≤ mWay σ (σ 9 2 k) z then mNeGo σ z n r (k + 1) best else mNeGo σ z n r (k + 1) (mWay σ (σ 9 2 k) z))
      else mNeGo σ z n r (k + 1) best) else mNeGo σ z n r (k + 1) best
def mNearest (σ : Mem) (z n : Int32) : Int32 × Mem := if mZo z = true then (if mIn n 1 8 = true then (mNeGo σ z n (mC σ) 0 (-1), σ) else mFl σ 2) else mFl σ 1
theorem mIn_4 {n : Int32} (h : mIn n 0 4 = true) : ix n ≤ 4 ∧ n = nI (ix n) := by
  have h2 := mIn_n (n := n) (m := 5) (by decide) (by rw [show nI 5 - 1 = 4 from by decide]; exact h)
  exact ⟨Nat.le_of_lt_succ h2.1, h2.2⟩
theorem Mf.can1 {g : gG} {σ : Mem} {o : Nat} (h : Mok g σ) : Mok g (mCan1 σ o) := by
  unfold mCan1
  split
  · exact h.st9 (by decide)
  · exact h
theorem mIn_300 {n : Int32} (h : mIn n 1 300 = true) : n = nI (ix n) ∧ ix n ≤ 300 := by
  unfold mIn at h
  split at h
  · cases h
  · next h1 =>
    split at h
    · cases h
    · next h2 => exact tick_n h1 (Int32.not_lt.mp h2)
theorem mC_lt10 {g : gG} {σ : Mem} (h : Mok g σ) (hc : ¬ σ 8 0 5 = 10) : mC σ < 10 := by
  have h1 := h.c10
  rcases Nat.lt_or_ge (mC σ) 10 with z | z
  · exact z
  · exact absurd (by rw [h.eC, show mC σ = 10 by omega]; rfl) hc
set_option maxHeartbeats 4000000 in
set_option maxRecDepth 100000 in
theorem c_X3_setWay (l : Launch) (g : gG) (σ : Mem) (w : Int64) (a b n : Int32) (hF : Mf g σ) : Met l yX3_setWay wsX3_setWay ({ frames := 2, cells := 0, slots := 0, locals := 48 } : Room) (gPc g σ w [.ref (gad g 8 0), .int (a), .int (b), .int (n)]) (gM g g ((mSetWay (gst σ 8 0 0 0) a b n).2) w (some (.int (mSetWay (gst σ 8 0 0 0) a b n).1))) 0 0 (gA g) := by
  refine gx_ofW (cc := cX3_setWay) (maxL := 5) (ret := (some .int)) (by decide) rfl (Nat.le_of_ble_eq_true rfl) ?_
  intro p e s m below meth c0 hx hb hr hml hts hown hlocks hin hG hZ hS ls hl
  have hown : s.vm.findClass RX3 = some m.cls := hown
  have hl : lv_has ls 5 [(0, .ref (gad g 8 0)), (1, .int (a)), (2, .int (b)), (3, .int (n))] := hl
  have k1 := hts (.fieldLink RX3 53 "TaxiRankModel" "thrown" "I") (by decide +kernel)
  have k2 := hts (.fieldLink RX3 9 "TaxiRankModel" "ways" "[I") (by decide +kernel)
  have hM := hF.1
  have hc10 := hM.c10
  have ho60 := hM.o60
  refine lv_aload_n hx hb dX3_setWay_0 rfl (lv_at hl 0 rfl) ?_
  refine lv_iconst (v := 0) hx hb dX3_setWay_1 (by decide) ?_
  refine gx_put hx hb hown hZ hG hS 8 0 0 (0) hM.b8 rfl (by decide) k1 (fun _ h => h) rfl rfl trivial rfl rfl dX3_setWay_2 (fun H locs hG hS => ?_)
  have hM := hM.st8 (f := 0) (v := 0) rfl
  have hF := hF.thr (v := 0)
  obtain ⟨σ0, hσ0⟩ : ∃ z : Mem, z = gst σ 8 0 0 0 := ⟨_, rfl⟩
  rw [← hσ0] at hG hF
  rw [← hσ0]
  have hM := hF.1
  have hc10 := hM.c10
  have ho60 := hM.o60
  refine lv_iload_n hx hb dX3_setWay_5 rfl (lv_at hl 1 rfl) ?_
  refine gx_cR (gx_runS (As := [.int (a)]) (rest := []) ⟨hx, hb, hml, hown, hts⟩ (c_X3_isZone l g σ0 w a) (va_cwS 1 hts gX3_setWay_X3_isZone rfl rfl rfl (by decide +kernel) ⟨Nat.le_of_ble_eq_true rfl, Nat.le_of_ble_eq_true rfl⟩) hZ hG hS rfl hl.1 rfl (Nat.le_of_ble_eq_true rfl) dX3_setWay_6 ⟨Nat.le_of_ble_eq_true rfl, Nat.le_of_ble_eq_true rfl⟩) ?_
  refine lv_if_eq (tgt := 19) hx hb dX3_setWay_9 (by decide) (fun c_1 => ?_) (fun c_1 => ?_)
  · skip
    have c_1 := bI_eq0.mp c_1
    refine lv_aload_n hx hb dX3_setWay_19 rfl (lv_at hl 0 rfl) ?_
    refine lv_iconst (v := 1) hx hb dX3_setWay_20 (by decide) ?_
    refine gx_cM (gx_runV (As := [.int (1)]) (rest := []) ⟨hx, hb, hml, hown, hts⟩ (c_X3_fail l g σ0 w 1 hM) (cwV 1 hts gX3_setWay_X3_fail rfl rfl rfl (by decide +kernel) ⟨Nat.le_of_ble_eq_true rfl, Nat.le_of_ble_eq_true rfl⟩) (gx_obj hZ hG 8 0 hM.b8 rfl) hZ hG hS rfl hl.1 rfl (Nat.le_of_ble_eq_true rfl) dX3_setWay_21 ⟨Nat.le_of_ble_eq_true rfl, Nat.le_of_ble_eq_true rfl⟩) hS (fun H locs hG hS hsz => ?_)
    exact gx_iretM hx hb hr hlocks hG hS (by unfold mSetWay; (try first | rw [if_pos c_1] | rw [if_neg c_1] | rw [if_neg (ne_true_of_eq_false c_1)]); try rfl) (by unfold mSetWay; (try first | rw [if_pos c_1] | rw [if_neg c_1] | rw [if_neg (ne_true_of_eq_false c_1)]); try rfl) (Nat.le_of_ble_eq_true rfl) (Nat.le_of_ble_eq_true rfl) dX3_setWay_24
  · skip
    have c_1 := bI_ne0.mp c_1
    refine lv_iload_n hx hb dX3_setWay_12 rfl (lv_at hl 2 rfl) ?_
    refine gx_cR (gx_runS (As := [.int (b)]) (rest := []) ⟨hx, hb, hml, hown, hts⟩ (c_X3_isZone l g σ0 w b) (va_cwS 1 hts gX3_setWay_X3_isZone rfl rfl rfl (by decide +kernel) ⟨Nat.le_of_ble_eq_true rfl, Nat.le_of_ble_eq_true rfl⟩) hZ hG hS rfl hl.1 rfl (Nat.le_of_ble_eq_true rfl) dX3_setWay_13 ⟨Nat.le_of_ble_eq_true rfl, Nat.le_of_ble_eq_true rfl⟩) ?_
    refine lv_if_ne (tgt := 25) hx hb dX3_setWay_16 (by decide) (fun c_2 => ?_) (fun c_2 => ?_)
    · skip
      have c_2 := bI_ne0.mp c_2
      refine lv_iload_n hx hb dX3_setWay_25 rfl (lv_at hl 1 rfl) ?_
      refine lv_iload_n hx hb dX3_setWay_26 rfl (lv_at hl 2 rfl) ?_
      refine lv_icmp_eq (tgt := 40) hx hb dX3_setWay_27 (by decide) (fun c_3 => ?_) (fun c_3 => ?_)
      · skip
        refine lv_aload_n hx hb dX3_setWay_40 rfl (lv_at hl 0 rfl) ?_
        refine lv_iconst (v := 2) hx hb dX3_setWay_41 (by decide) ?_
        refine gx_cM (gx_runV (As := [.int (2)]) (rest := []) ⟨hx, hb, hml, hown, hts⟩ (c_X3_fail l g σ0 w 2 hM) (cwV 1 hts gX3_setWay_X3_fail rfl rfl rfl (by decide +kernel) ⟨Nat.le_of_ble_eq_true rfl, Nat.le_of_ble_eq_true rfl⟩) (gx_obj hZ hG 8 0 hM.b8 rfl) hZ hG hS rfl hl.1 rfl (Nat.le_of_ble_eq_true rfl) dX3_setWay_42 ⟨Nat.le_of_ble_eq_true rfl, Nat.le_of_ble_eq_true rfl⟩) hS (fun H locs hG hS hsz => ?_)
        exact gx_iretM hx hb hr hlocks hG hS (by unfold mSetWay; (try first | rw [if_pos c_1] | rw [if_neg c_1] | rw [if_neg (ne_true_of_eq_false c_1)]); (try first | rw [if_pos c_2] | rw [if_neg c_2] | rw [if_neg (ne_true_of_eq_false c_2)]); (try first | rw [if_pos c_3] | rw [if_neg c_3] | rw [if_neg (ne_true_of_eq_false c_3)]); try rfl) (by unfold mSetWay; (try first | rw [if_pos c_1] | rw [if_neg c_1] | rw [if_neg (ne_true_of_eq_false c_1)]); (try first | rw [if_pos c_2] | rw [if_neg c_2] | rw [if_neg (ne_true_of_eq_false c_2)]); (try first | rw [if_pos c_3] | rw [if_neg c_3] | rw [if_neg (ne_true_of_eq_false c_3)]); try rfl) (Nat.le_of_ble_eq_true rfl) (Nat.le_of_ble_eq_true rfl) dX3_setWay_45
      · skip
        refine lv_iload_n hx hb dX3_setWay_30 rfl (lv_at hl 3 rfl) ?_
        refine lv_iconst (v := 1) hx hb dX3_setWay_31 (by decide) ?_
        refine lv_bipush (v := 120) hx hb dX3_setWay_32 (by decide) ?_
        refine gx_cR (gx_runS (As := [.int (n), .int (1), .int (120)]) (rest := []) ⟨hx, hb, hml, hown, hts⟩ (c_X3_isIn l g σ0 w n 1 120) (va_cwS 3 hts gX3_setWay_X3_isIn rfl rfl rfl (by decide +kernel) ⟨Nat.le_of_ble_eq_true rfl, Nat.le_of_ble_eq_true rfl⟩) hZ hG hS rfl hl.1 rfl (Nat.le_of_ble_eq_true rfl) dX3_setWay_34 ⟨Nat.le_of_ble_eq_true rfl, Nat.le_of_ble_eq_true rfl⟩) ?_
        refine lv_if_ne (tgt := 46) hx hb dX3_setWay_37 (by decide) (fun c_4 => ?_) (fun c_4 => ?_)
        · skip
          have c_4 := bI_ne0.mp c_4
          have ha : mZ a := mZo_z (by assumption)
          have hb2 : mZ b := mZo_z (by assumption)
          refine lv_aload_n hx hb dX3_setWay_46 rfl (lv_at hl 0 rfl) ?_
          refine lv_iload_n hx hb dX3_setWay_47 rfl (lv_at hl 1 rfl) ?_
          refine lv_iload_n hx hb dX3_setWay_48 rfl (lv_at hl 2 rfl) ?_
          refine gx_cR (gx_runV (As := [.int (a), .int (b)]) (rest := []) ⟨hx, hb, hml, hown, hts⟩ (c_X3_way l g σ0 w a b hM ha hb2) (cwV 2 hts gX3_setWay_X3_way rfl rfl rfl (by decide +kernel) ⟨Nat.le_of_ble_eq_true rfl, Nat.le_of_ble_eq_true rfl⟩) (gx_obj hZ hG 8 0 hM.b8 rfl) hZ hG hS rfl hl.1 rfl (Nat.le_of_ble_eq_true rfl) dX3_setWay_49 ⟨Nat.le_of_ble_eq_true rfl, Nat.le_of_ble_eq_true rfl⟩) ?_
          refine lv_istore (lv' := [(4, .int (mWay σ0 a b)), (0, .ref (gad g 8 0)), (1, .int (a)), (2, .int (b)), (3, .int (n))]) hx hb dX3_setWay_52 hl (by decide) rfl (fun ls hl => ?_)
          refine lv_aload_n hx hb dX3_setWay_54 rfl (lv_at hl 1 rfl) ?_
          refine gx_get hx hb hown hZ hG 8 0 2 hM.b8 rfl (by decide) k2 (fun _ h => h) (v := .ref (gad g 9 0)) (grf_j (hM.rf (f := 2) rfl) (by decide)) dX3_setWay_55 ?_
          refine lv_bipush (v := 6) hx hb dX3_setWay_58 (by decide) ?_
          refine lv_iload_n hx hb dX3_setWay_60 rfl (lv_at hl 2 rfl) ?_
          refine lv_imul hx hb dX3_setWay_61 ?_
          refine lv_iload_n hx hb dX3_setWay_62 rfl (lv_at hl 3 rfl) ?_
          refine lv_iadd hx hb dX3_setWay_63 ?_
          refine lv_iload_n hx hb dX3_setWay_64 rfl (lv_at hl 4 rfl) ?_
          refine gx_ast hx hb hZ hG hS 9 0 (hM.b9 (by decide)) rfl rfl (by rw [hM.l0]; exact mZ_in ha hb2) rfl trivial dX3_setWay_65 (fun H locs hG hS => ?_)
          have hM := hM.st9 (i := 0) (f := ix ((6 * a) + b)) (v := n) (by decide)
          refine lv_aload_n hx hb dX3_setWay_66 rfl (lv_at hl 1 rfl) ?_
          refine gx_get hx hb hown hZ hG 8 0 2 hM.b8 rfl (by decide) k2 (fun _ h => h) (v := .ref (gad g 9 0)) (grf_j (hM.rf (f := 2) rfl) (by decide)) dX3_setWay_67 ?_
          refine lv_bipush (v := 6) hx hb dX3_setWay_70 (by decide) ?_
          refine lv_iload_n hx hb dX3_setWay_72 rfl (lv_at hl 3 rfl) ?_
          refine lv_imul hx hb dX3_setWay_73 ?_
          refine lv_iload_n hx hb dX3_setWay_74 rfl (lv_at hl 2 rfl) ?_
          refine lv_iadd hx hb dX3_setWay_75 ?_
          refine lv_iload_n hx hb dX3_setWay_76 rfl (lv_at hl 4 rfl) ?_
          refine gx_ast hx hb hZ hG hS 9 0 (hM.b9 (by decide)) rfl rfl (by rw [hM.l0]; exact mZ_in hb2 ha) rfl trivial dX3_setWay_77 (fun H locs hG hS => ?_)
          have hM := hM.st9 (i := 0) (f := ix ((6 * b) + a)) (v := n) (by decide)
          refine lv_iload hx hb dX3_setWay_78 (lv_at hl 0 rfl) ?_
          exact gx_iretM hx hb hr hlocks hG hS (by unfold mSetWay; (try first | rw [if_pos c_1] | rw [if_neg c_1] | rw [if_neg (ne_true_of_eq_false c_1)]); (try first | rw [if_pos c_2] | rw [if_neg c_2] | rw [if_neg (ne_true_of_eq_false c_2)]); (try first | rw [if_pos c_3] | rw [if_neg c_3] | rw [if_neg (ne_true_of_eq_false c_3)]); (try first | rw [if_pos c_4] | rw [if_neg c_4] | rw [if_neg (ne_true_of_eq_false c_4)]); try rfl) (by unfold mSetWay; (try first | rw [if_pos c_1] | rw [if_neg c_1] | rw [if_neg (ne_true_of_eq_false c_1)]); (try first | rw [if_pos c_2] | rw [if_neg c_2] | rw [if_neg (ne_true_of_eq_false c_2)]); (try first | rw [if_pos c_3] | rw [if_neg c_3] | rw [if_neg (ne_true_of_eq_false c_3)]); (try first | rw [if_pos c_4] | rw [if_neg c_4] | rw [if_neg (ne_true_of_eq_false c_4)]); try rfl) (Nat.le_of_ble_eq_true rfl) (Nat.le_of_ble_eq_true rfl) dX3_setWay_80
        · skip
          have c_4 := bI_eq0.mp c_4
          refine lv_aload_n hx hb dX3_setWay_40 rfl (lv_at hl 0 rfl) ?_
          refine lv_iconst (v := 2) hx hb dX3_setWay_41 (by decide) ?_
          refine gx_cM (gx_runV (As := [.int (2)]) (rest := []) ⟨hx, hb, hml, hown, hts⟩ (c_X3_fail l g σ0 w 2 hM) (cwV 1 hts gX3_setWay_X3_fail rfl rfl rfl (by decide +kernel) ⟨Nat.le_of_ble_eq_true rfl, Nat.le_of_ble_eq_true rfl⟩) (gx_obj hZ hG 8 0 hM.b8 rfl) hZ hG hS rfl hl.1 rfl (Nat.le_of_ble_eq_true rfl) dX3_setWay_42 ⟨Nat.le_of_ble_eq_true rfl, Nat.le_of_ble_eq_true rfl⟩) hS (fun H locs hG hS hsz => ?_)
          exact gx_iretM hx hb hr hlocks hG hS (by unfold mSetWay; (try first | rw [if_pos c_1] | rw [if_neg c_1] | rw [if_neg (ne_true_of_eq_false c_1)]); (try first | rw [if_pos c_2] | rw [if_neg c_2] | rw [if_neg (ne_true_of_eq_false c_2)]); (try first | rw [if_pos c_3] | rw [if_neg c_3] | rw [if_neg (ne_true_of_eq_false c_3)]); (try first | rw [if_pos c_4] | rw [if_neg c_4] | rw [if_neg (ne_true_of_eq_false c_4)]); try rfl) (by unfold mSetWay; (try first | rw [if_pos c_1] | rw [if_neg c_1] | rw [if_neg (ne_true_of_eq_false c_1)]); (try first | rw [if_pos c_2] | rw [if_neg c_2] | rw [if_neg (ne_true_of_eq_false c_2)]); (try first | rw [if_pos c_3] | rw [if_neg c_3] | rw [if_neg (ne_true_of_eq_false c_3)]); (try first | rw [if_pos c_4] | rw [if_neg c_4] | rw [if_neg (ne_true_of_eq_false c_4)]); try rfl) (Nat.le_of_ble_eq_true rfl) (Nat.le_of_ble_eq_true rfl) dX3_setWay_45
    · skip
      have c_2 := bI_eq0.mp c_2
      refine lv_aload_n hx hb dX3_setWay_19 rfl (lv_at hl 0 rfl) ?_
      refine lv_iconst (v := 1) hx hb dX3_setWay_20 (by decide) ?_
      refine gx_cM (gx_runV (As := [.int (1)]) (rest := []) ⟨hx, hb, hml, hown, hts⟩ (c_X3_fail l g σ0 w 1 hM) (cwV 1 hts gX3_setWay_X3_fail rfl rfl rfl (by decide +kernel) ⟨Nat.le_of_ble_eq_true rfl, Nat.le_of_ble_eq_true rfl⟩) (gx_obj hZ hG 8 0 hM.b8 rfl) hZ hG hS rfl hl.1 rfl (Nat.le_of_ble_eq_true rfl) dX3_setWay_21 ⟨Nat.le_of_ble_eq_true rfl, Nat.le_of_ble_eq_true rfl⟩) hS (fun H locs hG hS hsz => ?_)
      exact gx_iretM hx hb hr hlocks hG hS (by unfold mSetWay; (try first | rw [if_pos c_1] | rw [if_neg c_1] | rw [if_neg (ne_true_of_eq_false c_1)]); (try first | rw [if_pos c_2] | rw [if_neg c_2] | rw [if_neg (ne_true_of_eq_false c_2)]); try rfl) (by unfold mSetWay; (try first | rw [if_pos c_1] | rw [if_neg c_1] | rw [if_neg (ne_true_of_eq_false c_1)]); (try first | rw [if_pos c_2] | rw [if_neg c_2] | rw [if_neg (ne_true_of_eq_false c_2)]); try rfl) (Nat.le_of_ble_eq_true rfl) (Nat.le_of_ble_eq_true rfl) dX3_setWay_24
set_option maxHeartbeats 4000000 in
set_option maxRecDepth 100000 in
theorem c_X3_addCab (l : Launch) (g : gG) (σ : Mem) (w : Int64) (a b : Int32) (hF : Mf g σ) : Met l yX3_addCab wsX3_addCab ({ frames := 2, cells := 0, slots := 0, locals := 46 } : Room) (gPc g σ w [.ref (gad g 8 0), .int (a), .int (b)]) (gM g g ((mAddCab (gst σ 8 0 0 0) a b).2) w (some (.int (mAddCab (gst σ 8 0 0 0) a b).1))) 0 0 (gA g) := by
  refine gx_ofW (cc := cX3_addCab) (maxL := 3) (ret := (some .int)) (by decide) rfl (Nat.le_of_ble_eq_true rfl) ?_
  intro p e s m below meth c0 hx hb hr hml hts hown hlocks hin hG hZ hS ls hl
  have hown : s.vm.findClass RX3 = some m.cls := hown
  have hl : lv_has ls 3 [(0, .ref (gad g 8 0)), (1, .int (a)), (2, .int (b))] := hl
  have k1 := hts (.fieldLink RX3 53 "TaxiRankModel" "thrown" "I") (by decide +kernel)
  have k2 := hts (.fieldLink RX3 60 "TaxiRankModel" "cabs" "I") (by decide +kernel)
  have k3 := hts (.fieldLink RX3 20 "TaxiRankModel" "seats" "[I") (by decide +kernel)
  have k4 := hts (.fieldLink RX3 23 "TaxiRankModel" "zones" "[I") (by decide +kernel)
  have hM := hF.1
  have hc10 := hM.c10
  have ho60 := hM.o60
  refine lv_aload_n hx hb dX3_addCab_0 rfl (lv_at hl 0 rfl) ?_
  refine lv_iconst (v := 0) hx hb dX3_addCab_1 (by decide) ?_
  refine gx_put hx hb hown hZ hG hS 8 0 0 (0) hM.b8 rfl (by decide) k1 (fun _ h => h) rfl rfl trivial rfl rfl dX3_addCab_2 (fun H locs hG hS => ?_)
  have hM := hM.st8 (f := 0) (v := 0) rfl
  have hF := hF.thr (v := 0)
  obtain ⟨σ0, hσ0⟩ : ∃ z : Mem, z = gst σ 8 0 0 0 := ⟨_, rfl⟩
  rw [← hσ0] at hG hF
  rw [← hσ0]
  have hM := hF.1
  have hc10 := hM.c10
  have ho60 := hM.o60
  refine lv_iload_n hx hb dX3_addCab_5 rfl (lv_at hl 1 rfl) ?_
  refine lv_iconst (v := 1) hx hb dX3_addCab_6 (by decide) ?_
  refine lv_bipush (v := 8) hx hb dX3_addCab_7 (by decide) ?_
  refine gx_cR (gx_runS (As := [.int (a), .int (1), .int (8)]) (rest := []) ⟨hx, hb, hml, hown, hts⟩ (c_X3_isIn l g σ0 w a 1 8) (va_cwS 3 hts gX3_addCab_X3_isIn rfl rfl rfl (by decide +kernel) ⟨Nat.le_of_ble_eq_true rfl, Nat.le_of_ble_eq_true rfl⟩) hZ hG hS rfl hl.1 rfl (Nat.le_of_ble_eq_true rfl) dX3_addCab_9 ⟨Nat.le_of_ble_eq_true rfl, Nat.le_of_ble_eq_true rfl⟩) ?_
  refine lv_if_eq (tgt := 22) hx hb dX3_addCab_12 (by decide) (fun c_1 => ?_) (fun c_1 => ?_)
  · skip
    have c_1 := bI_eq0.mp c_1
    refine lv_aload_n hx hb dX3_addCab_22 rfl (lv_at hl 0 rfl) ?_
    refine lv_iconst (v := 1) hx hb dX3_addCab_23 (by decide) ?_
    refine gx_cM (gx_runV (As := [.int (1)]) (rest := []) ⟨hx, hb, hml, hown, hts⟩ (c_X3_fail l g σ0 w 1 hM) (cwV 1 hts gX3_addCab_X3_fail rfl rfl rfl (by decide +kernel) ⟨Nat.le_of_ble_eq_true rfl, Nat.le_of_ble_eq_true rfl⟩) (gx_obj hZ hG 8 0 hM.b8 rfl) hZ hG hS rfl hl.1 rfl (Nat.le_of_ble_eq_true rfl) dX3_addCab_24 ⟨Nat.le_of_ble_eq_true rfl, Nat.le_of_ble_eq_true rfl⟩) hS (fun H locs hG hS hsz => ?_)
    exact gx_iretM hx hb hr hlocks hG hS (by unfold mAddCab; (try first | rw [if_pos c_1] | rw [if_neg c_1] | rw [if_neg (ne_true_of_eq_false c_1)]); try rfl) (by unfold mAddCab; (try first | rw [if_pos c_1] | rw [if_neg c_1] | rw [if_neg (ne_true_of_eq_false c_1)]); try rfl) (Nat.le_of_ble_eq_true rfl) (Nat.le_of_ble_eq_true rfl) dX3_addCab_27
  · skip
    have c_1 := bI_ne0.mp c_1
    refine lv_iload_n hx hb dX3_addCab_15 rfl (lv_at hl 2 rfl) ?_
    refine gx_cR (gx_runS (As := [.int (b)]) (rest := []) ⟨hx, hb, hml, hown, hts⟩ (c_X3_isZone l g σ0 w b) (va_cwS 1 hts gX3_addCab_X3_isZone rfl rfl rfl (by decide +kernel) ⟨Nat.le_of_ble_eq_true rfl, Nat.le_of_ble_eq_true rfl⟩) hZ hG hS rfl hl.1 rfl (Nat.le_of_ble_eq_true rfl) dX3_addCab_16 ⟨Nat.le_of_ble_eq_true rfl, Nat.le_of_ble_eq_true rfl⟩) ?_
    refine lv_if_ne (tgt := 28) hx hb dX3_addCab_19 (by decide) (fun c_2 => ?_) (fun c_2 => ?_)
    · skip
      have c_2 := bI_ne0.mp c_2
      refine lv_aload_n hx hb dX3_addCab_28 rfl (lv_at hl 0 rfl) ?_
      refine gx_get hx hb hown hZ hG 8 0 5 hM.b8 rfl (by decide) k2 (fun _ h => h) (v := .int (σ0 8 0 5)) rfl dX3_addCab_29 ?_
      refine lv_bipush (v := 10) hx hb dX3_addCab_32 (by decide) ?_
      refine lv_icmp_ne (tgt := 43) hx hb dX3_addCab_34 (by decide) (fun c_3 => ?_) (fun c_3 => ?_)
      · skip
        have e5 := hM.eC
        have hlt := mC_lt10 hM c_3
        have hzb : mZ b := mZo_z (by assumption)
        refine lv_aload_n hx hb dX3_addCab_43 rfl (lv_at hl 0 rfl) ?_
        refine gx_get hx hb hown hZ hG 8 0 6 hM.b8 rfl (by decide) k3 (fun _ h => h) (v := .ref (gad g 9 1)) (grf_j (hM.rf (f := 6) rfl) (by decide)) dX3_addCab_44 ?_
        refine lv_aload_n hx hb dX3_addCab_47 rfl (lv_at hl 0 rfl) ?_
        refine gx_get hx hb hown hZ hG 8 0 5 hM.b8 rfl (by decide) k2 (fun _ h => h) (v := .int (σ0 8 0 5)) rfl dX3_addCab_48 ?_
        refine gx_topN e5 ?_
        refine lv_iload_n hx hb dX3_addCab_51 rfl (lv_at hl 1 rfl) ?_
        refine gx_astN hx hb hZ hG hS 9 1 (mC σ0) (by rfl) (hM.b9 (by decide)) rfl rfl ⟨by rw [hM.lc (i := 1) (by decide) (by decide)]; omega, by omega⟩ rfl trivial dX3_addCab_52 (fun H locs hG hS => ?_)
        have hM := hM.st9 (i := 1) (f := mC σ0) (v := a) (by decide)
        refine lv_aload_n hx hb dX3_addCab_53 rfl (lv_at hl 0 rfl) ?_
        refine gx_get hx hb hown hZ hG 8 0 7 hM.b8 rfl (by decide) k4 (fun _ h => h) (v := .ref (gad g 9 2)) (grf_j (hM.rf (f := 7) rfl) (by decide)) dX3_addCab_54 ?_
        refine lv_aload_n hx hb dX3_addCab_57 rfl (lv_at hl 0 rfl) ?_
        refine gx_get hx hb hown hZ hG 8 0 5 hM.b8 rfl (by decide) k2 (fun _ h => h) (v := .int (σ0 8 0 5)) (congrArg Value.int (by simp [gst_app])) dX3_addCab_58 ?_
        refine gx_topN e5 ?_
        refine lv_iload_n hx hb dX3_addCab_61 rfl (lv_at hl 2 rfl) ?_
        refine gx_astN hx hb hZ hG hS 9 2 (mC σ0) (by rfl) (hM.b9 (by decide)) rfl rfl ⟨by rw [hM.lc (i := 2) (by decide) (by decide)]; omega, by omega⟩ rfl trivial dX3_addCab_62 (fun H locs hG hS => ?_)
        have hM := hM.stZ (f := mC σ0) (v := b) hzb
        refine lv_aload_n hx hb dX3_addCab_63 rfl (lv_at hl 0 rfl) ?_
        refine lv_dup hx hb dX3_addCab_64 rfl ?_
        refine gx_get hx hb hown hZ hG 8 0 5 hM.b8 rfl (by decide) k2 (fun _ h => h) (v := .int (σ0 8 0 5)) (congrArg Value.int (by simp [gst_app])) dX3_addCab_65 ?_
        refine lv_iconst (v := 1) hx hb dX3_addCab_68 (by decide) ?_
        refine lv_iadd hx hb dX3_addCab_69 ?_
        refine gx_put hx hb hown hZ hG hS 8 0 5 ((σ0 8 0 5) + 1) hM.b8 rfl (by decide) k2 (fun _ h => h) rfl rfl trivial rfl rfl dX3_addCab_70 (fun H locs hG hS => ?_)
        refine lv_aload_n hx hb dX3_addCab_73 rfl (lv_at hl 0 rfl) ?_
        refine gx_get hx hb hown hZ hG 8 0 5 hM.b8 rfl (by decide) k2 (fun _ h => h) (v := .int ((σ0 8 0 5) + 1)) (congrArg Value.int (by simp [gst_app])) dX3_addCab_74 ?_
        refine lv_iconst (v := 1) hx hb dX3_addCab_77 (by decide) ?_
        refine lv_isub hx hb dX3_addCab_78 ?_
        exact gx_iretM hx hb hr hlocks hG hS (by unfold mAddCab; (try first | rw [if_pos c_1] | rw [if_neg c_1] | rw [if_neg (ne_true_of_eq_false c_1)]); (try first | rw [if_pos c_2] | rw [if_neg c_2] | rw [if_neg (ne_true_of_eq_false c_2)]); (try first | rw [if_pos c_3] | rw [if_neg c_3] | rw [if_neg (ne_true_of_eq_false c_3)]); try rfl) (by unfold mAddCab; (try first | rw [if_pos c_1] | rw [if_neg c_1] | rw [if_neg (ne_true_of_eq_false c_1)]); (try first | rw [if_pos c_2] | rw [if_neg c_2] | rw [if_neg (ne_true_of_eq_false c_2)]); (try first | rw [if_pos c_3] | rw [if_neg c_3] | rw [if_neg (ne_true_of_eq_false c_3)]); try rfl) (Nat.le_of_ble_eq_true rfl) (Nat.le_of_ble_eq_true rfl) dX3_addCab_79
      · skip
        refine lv_aload_n hx hb dX3_addCab_37 rfl (lv_at hl 0 rfl) ?_
        refine lv_iconst (v := 2) hx hb dX3_addCab_38 (by decide) ?_
        refine gx_cM (gx_runV (As := [.int (2)]) (rest := []) ⟨hx, hb, hml, hown, hts⟩ (c_X3_fail l g σ0 w 2 hM) (cwV 1 hts gX3_addCab_X3_fail rfl rfl rfl (by decide +kernel) ⟨Nat.le_of_ble_eq_true rfl, Nat.le_of_ble_eq_true rfl⟩) (gx_obj hZ hG 8 0 hM.b8 rfl) hZ hG hS rfl hl.1 rfl (Nat.le_of_ble_eq_true rfl) dX3_addCab_39 ⟨Nat.le_of_ble_eq_true rfl, Nat.le_of_ble_eq_true rfl⟩) hS (fun H locs hG hS hsz => ?_)
        exact gx_iretM hx hb hr hlocks hG hS (by unfold mAddCab; (try first | rw [if_pos c_1] | rw [if_neg c_1] | rw [if_neg (ne_true_of_eq_false c_1)]); (try first | rw [if_pos c_2] | rw [if_neg c_2] | rw [if_neg (ne_true_of_eq_false c_2)]); (try first | rw [if_pos c_3] | rw [if_neg c_3] | rw [if_neg (ne_true_of_eq_false c_3)]); try rfl) (by unfold mAddCab; (try first | rw [if_pos c_1] | rw [if_neg c_1] | rw [if_neg (ne_true_of_eq_false c_1)]); (try first | rw [if_pos c_2] | rw [if_neg c_2] | rw [if_neg (ne_true_of_eq_false c_2)]); (try first | rw [if_pos c_3] | rw [if_neg c_3] | rw [if_neg (ne_true_of_eq_false c_3)]); try rfl) (Nat.le_of_ble_eq_true rfl) (Nat.le_of_ble_eq_true rfl) dX3_addCab_42
    · skip
      have c_2 := bI_eq0.mp c_2
      refine lv_aload_n hx hb dX3_addCab_22 rfl (lv_at hl 0 rfl) ?_
      refine lv_iconst (v := 1) hx hb dX3_addCab_23 (by decide) ?_
      refine gx_cM (gx_runV (As := [.int (1)]) (rest := []) ⟨hx, hb, hml, hown, hts⟩ (c_X3_fail l g σ0 w 1 hM) (cwV 1 hts gX3_addCab_X3_fail rfl rfl rfl (by decide +kernel) ⟨Nat.le_of_ble_eq_true rfl, Nat.le_of_ble_eq_true rfl⟩) (gx_obj hZ hG 8 0 hM.b8 rfl) hZ hG hS rfl hl.1 rfl (Nat.le_of_ble_eq_true rfl) dX3_addCab_24 ⟨Nat.le_of_ble_eq_true rfl, Nat.le_of_ble_eq_true rfl⟩) hS (fun H locs hG hS hsz => ?_)
      exact gx_iretM hx hb hr hlocks hG hS (by unfold mAddCab; (try first | rw [if_pos c_1] | rw [if_neg c_1] | rw [if_neg (ne_true_of_eq_false c_1)]); (try first | rw [if_pos c_2] | rw [if_neg c_2] | rw [if_neg (ne_true_of_eq_false c_2)]); try rfl) (by unfold mAddCab; (try first | rw [if_pos c_1] | rw [if_neg c_1] | rw [if_neg (ne_true_of_eq_false c_1)]); (try first | rw [if_pos c_2] | rw [if_neg c_2] | rw [if_neg (ne_true_of_eq_false c_2)]); try rfl) (Nat.le_of_ble_eq_true rfl) (Nat.le_of_ble_eq_true rfl) dX3_addCab_27
set_option maxHeartbeats 4000000 in
set_option maxRecDepth 100000 in
theorem c_X3_start (l : Launch) (g : gG) (σ : Mem) (w : Int64) (n : Int32) (hF : Mf g σ) : Met l yX3_start wsX3_start ({ frames := 4, cells := 0, slots := 0, locals := 96 } : Room) (gPc g σ w [.ref (gad g 8 0), .int (n)]) (gM g g ((mStart (gst σ 8 0 0 0) n).2) w (some (.int (mStart (gst σ 8 0 0 0) n).1))) 0 0 (gA g) := by
  refine gx_ofW (cc := cX3_start) (maxL := 3) (ret := (some .int)) (by decide) rfl (Nat.le_of_ble_eq_true rfl) ?_
  intro p e s m below meth c0 hx hb hr hml hts hown hlocks hin hG hZ hS ls hl
  have hown : s.vm.findClass RX3 = some m.cls := hown
  have hl : lv_has ls 3 [(0, .ref (gad g 8 0)), (1, .int (n))] := hl
  have k1 := hts (.fieldLink RX3 53 "TaxiRankModel" "thrown" "I") (by decide +kernel)
  have k2 := hts (.fieldLink RX3 26 "TaxiRankModel" "doing" "[I") (by decide +kernel)
  have k3 := hts (.fieldLink RX3 23 "TaxiRankModel" "zones" "[I") (by decide +kernel)
  have hM := hF.1
  have hc10 := hM.c10
  have ho60 := hM.o60
  refine lv_aload_n hx hb dX3_start_0 rfl (lv_at hl 0 rfl) ?_
  refine lv_iconst (v := 0) hx hb dX3_start_1 (by decide) ?_
  refine gx_put hx hb hown hZ hG hS 8 0 0 (0) hM.b8 rfl (by decide) k1 (fun _ h => h) rfl rfl trivial rfl rfl dX3_start_2 (fun H locs hG hS => ?_)
  have hM := hM.st8 (f := 0) (v := 0) rfl
  have hF := hF.thr (v := 0)
  obtain ⟨σ0, hσ0⟩ : ∃ z : Mem, z = gst σ 8 0 0 0 := ⟨_, rfl⟩
  rw [← hσ0] at hG hF
  rw [← hσ0]
  have hM := hF.1
  have hc10 := hM.c10
  have ho60 := hM.o60
  refine lv_aload_n hx hb dX3_start_5 rfl (lv_at hl 0 rfl) ?_
  refine lv_iload_n hx hb dX3_start_6 rfl (lv_at hl 1 rfl) ?_
  refine gx_cR (gx_runV (As := [.int (n)]) (rest := []) ⟨hx, hb, hml, hown, hts⟩ (c_X3_isCab l g σ0 w n hM) (cwV 1 hts gX3_start_X3_isCab rfl rfl rfl (by decide +kernel) ⟨Nat.le_of_ble_eq_true rfl, Nat.le_of_ble_eq_true rfl⟩) (gx_obj hZ hG 8 0 hM.b8 rfl) hZ hG hS rfl hl.1 rfl (Nat.le_of_ble_eq_true rfl) dX3_start_7 ⟨Nat.le_of_ble_eq_true rfl, Nat.le_of_ble_eq_true rfl⟩) ?_
  refine lv_if_ne (tgt := 19) hx hb dX3_start_10 (by decide) (fun c_1 => ?_) (fun c_1 => ?_)
  · skip
    have c_1 := bI_ne0.mp c_1
    have hcn := hM.isC c_1
    have hcn1 := hcn.1
    rw [hcn.2] at hl
    refine lv_aload_n hx hb dX3_start_19 rfl (lv_at hl 0 rfl) ?_
    refine gx_get hx hb hown hZ hG 8 0 8 hM.b8 rfl (by decide) k2 (fun _ h => h) (v := .ref (gad g 9 3)) (grf_j (hM.rf (f := 8) rfl) (by decide)) dX3_start_20 ?_
    refine lv_iload_n hx hb dX3_start_23 rfl (lv_at hl 1 rfl) ?_
    refine gx_aldN hx hb hZ hG 9 3 (ix n) (by rfl) (hM.b9 (by decide)) rfl rfl ⟨by rw [hM.lc (i := 3) (by decide) (by decide)]; omega, by omega⟩ (v := .int (σ0 9 3 (ix n))) rfl dX3_start_24 ?_
    refine lv_if_eq (tgt := 34) hx hb dX3_start_25 (by decide) (fun c_2 => ?_) (fun c_2 => ?_)
    · skip
      refine lv_aload_n hx hb dX3_start_34 rfl (lv_at hl 0 rfl) ?_
      refine lv_iload_n hx hb dX3_start_35 rfl (lv_at hl 1 rfl) ?_
      refine lv_aload_n hx hb dX3_start_36 rfl (lv_at hl 0 rfl) ?_
      refine gx_get hx hb hown hZ hG 8 0 7 hM.b8 rfl (by decide) k3 (fun _ h => h) (v := .ref (gad g 9 2)) (grf_j (hM.rf (f := 7) rfl) (by decide)) dX3_start_37 ?_
      refine lv_iload_n hx hb dX3_start_40 rfl (lv_at hl 1 rfl) ?_
      refine gx_aldN hx hb hZ hG 9 2 (ix n) (by rfl) (hM.b9 (by decide)) rfl rfl ⟨by rw [hM.lc (i := 2) (by decide) (by decide)]; omega, by omega⟩ (v := .int (σ0 9 2 (ix n))) rfl dX3_start_41 ?_
      refine gx_cM (gx_runV (As := [.int (nI (ix n)), .int (σ0 9 2 (ix n))]) (rest := []) ⟨hx, hb, hml, hown, hts⟩ (c_X3_free l g σ0 w (ix n) (σ0 9 2 (ix n)) hM (by omega) (hM.z (by omega))) (cwV 2 hts gX3_start_X3_free rfl rfl rfl (by decide +kernel) ⟨Nat.le_of_ble_eq_true rfl, Nat.le_of_ble_eq_true rfl⟩) (gx_obj hZ hG 8 0 hM.b8 rfl) hZ hG hS rfl hl.1 rfl (Nat.le_of_ble_eq_true rfl) dX3_start_42 ⟨Nat.le_of_ble_eq_true rfl, Nat.le_of_ble_eq_true rfl⟩) hS (fun H locs hG hS hsz => ?_)
      have hM := hM.free (c := ix n) (z := σ0 9 2 (ix n)) (hM.z (by omega))
      refine lv_aload_n hx hb dX3_start_45 rfl (lv_at hl 0 rfl) ?_
      refine lv_iload_n hx hb dX3_start_46 rfl (lv_at hl 1 rfl) ?_
      refine gx_cR (gx_runV (As := [.int (nI (ix n))]) (rest := []) ⟨hx, hb, hml, hown, hts⟩ (c_X3_placeOf l g (mFree σ0 (ix n) (σ0 9 2 (ix n))) w (ix n) hM (by omega)) (cwV 1 hts gX3_start_X3_placeOf rfl rfl rfl (by decide +kernel) ⟨Nat.le_of_ble_eq_true rfl, Nat.le_of_ble_eq_true rfl⟩) (gx_obj hZ hG 8 0 hM.b8 rfl) hZ hG hS rfl hl.1 rfl (Nat.le_of_ble_eq_true rfl) dX3_start_47 ⟨Nat.le_of_ble_eq_true rfl, Nat.le_of_ble_eq_true rfl⟩) ?_
      refine lv_istore_n (lv' := [(2, .int (mPl (mFree σ0 (ix n) (σ0 9 2 (ix n))) (ix n))), (0, .ref (gad g 8 0)), (1, .int (nI (ix n)))]) hx hb dX3_start_50 rfl hl (by decide) rfl (fun ls hl => ?_)
      refine lv_aload_n hx hb dX3_start_51 rfl (lv_at hl 1 rfl) ?_
      refine gx_cM (gx_runV (As := []) (rest := []) ⟨hx, hb, hml, hown, hts⟩ (c_X3_offerAll l g (mFree σ0 (ix n) (σ0 9 2 (ix n))) w hM) (cwV 0 hts gX3_start_X3_offerAll rfl rfl rfl (by decide +kernel) ⟨Nat.le_of_ble_eq_true rfl, Nat.le_of_ble_eq_true rfl⟩) (gx_obj hZ hG 8 0 hM.b8 rfl) hZ hG hS rfl hl.1 rfl (Nat.le_of_ble_eq_true rfl) dX3_start_52 ⟨Nat.le_of_ble_eq_true rfl, Nat.le_of_ble_eq_true rfl⟩) hS (fun H locs hG hS hsz => ?_)
      refine lv_iload_n hx hb dX3_start_55 rfl (lv_at hl 0 rfl) ?_
      exact gx_iretM hx hb hr hlocks hG hS (by unfold mStart; (try first | rw [if_pos c_1] | rw [if_neg c_1] | rw [if_neg (ne_true_of_eq_false c_1)]); (try first | rw [if_pos c_2] | rw [if_neg c_2] | rw [if_neg (ne_true_of_eq_false c_2)]); try rfl) (by unfold mStart; (try first | rw [if_pos c_1] | rw [if_neg c_1] | rw [if_neg (ne_true_of_eq_false c_1)]); (try first | rw [if_pos c_2] | rw [if_neg c_2] | rw [if_neg (ne_true_of_eq_false c_2)]); try rfl) (Nat.le_of_ble_eq_true rfl) (Nat.le_of_ble_eq_true rfl) dX3_start_56
    · skip
      refine lv_aload_n hx hb dX3_start_28 rfl (lv_at hl 0 rfl) ?_
      refine lv_iconst (v := 2) hx hb dX3_start_29 (by decide) ?_
      refine gx_cM (gx_runV (As := [.int (2)]) (rest := []) ⟨hx, hb, hml, hown, hts⟩ (c_X3_fail l g σ0 w 2 hM) (cwV 1 hts gX3_start_X3_fail rfl rfl rfl (by decide +kernel) ⟨Nat.le_of_ble_eq_true rfl, Nat.le_of_ble_eq_true rfl⟩) (gx_obj hZ hG 8 0 hM.b8 rfl) hZ hG hS rfl hl.1 rfl (Nat.le_of_ble_eq_true rfl) dX3_start_30 ⟨Nat.le_of_ble_eq_true rfl, Nat.le_of_ble_eq_true rfl⟩) hS (fun H locs hG hS hsz => ?_)
      exact gx_iretM hx hb hr hlocks hG hS (by unfold mStart; (try first | rw [if_pos c_1] | rw [if_neg c_1] | rw [if_neg (ne_true_of_eq_false c_1)]); (try first | rw [if_pos c_2] | rw [if_neg c_2] | rw [if_neg (ne_true_of_eq_false c_2)]); try rfl) (by unfold mStart; (try first | rw [if_pos c_1] | rw [if_neg c_1] | rw [if_neg (ne_true_of_eq_false c_1)]); (try first | rw [if_pos c_2] | rw [if_neg c_2] | rw [if_neg (ne_true_of_eq_false c_2)]); try rfl) (Nat.le_of_ble_eq_true rfl) (Nat.le_of_ble_eq_true rfl) dX3_start_33
  · skip
    have c_1 := bI_eq0.mp c_1
    refine lv_aload_n hx hb dX3_start_13 rfl (lv_at hl 0 rfl) ?_
    refine lv_iconst (v := 1) hx hb dX3_start_14 (by decide) ?_
    refine gx_cM (gx_runV (As := [.int (1)]) (rest := []) ⟨hx, hb, hml, hown, hts⟩ (c_X3_fail l g σ0 w 1 hM) (cwV 1 hts gX3_start_X3_fail rfl rfl rfl (by decide +kernel) ⟨Nat.le_of_ble_eq_true rfl, Nat.le_of_ble_eq_true rfl⟩) (gx_obj hZ hG 8 0 hM.b8 rfl) hZ hG hS rfl hl.1 rfl (Nat.le_of_ble_eq_true rfl) dX3_start_15 ⟨Nat.le_of_ble_eq_true rfl, Nat.le_of_ble_eq_true rfl⟩) hS (fun H locs hG hS hsz => ?_)
    exact gx_iretM hx hb hr hlocks hG hS (by unfold mStart; (try first | rw [if_pos c_1] | rw [if_neg c_1] | rw [if_neg (ne_true_of_eq_false c_1)]); try rfl) (by unfold mStart; (try first | rw [if_pos c_1] | rw [if_neg c_1] | rw [if_neg (ne_true_of_eq_false c_1)]); try rfl) (Nat.le_of_ble_eq_true rfl) (Nat.le_of_ble_eq_true rfl) dX3_start_18
set_option maxHeartbeats 4000000 in
set_option maxRecDepth 100000 in
theorem c_X3_stop (l : Launch) (g : gG) (σ : Mem) (w : Int64) (n : Int32) (hF : Mf g σ) : Met l yX3_stop wsX3_stop ({ frames := 4, cells := 0, slots := 0, locals := 95 } : Room) (gPc g σ w [.ref (gad g 8 0), .int (n)]) (gM g g ((mStop (gst σ 8 0 0 0) n).2) w (some (.int (mStop (gst σ 8 0 0 0) n).1))) 0 0 (gA g) := by
  refine gx_ofW (cc := cX3_stop) (maxL := 2) (ret := (some .int)) (by decide) rfl (Nat.le_of_ble_eq_true rfl) ?_
  intro p e s m below meth c0 hx hb hr hml hts hown hlocks hin hG hZ hS ls hl
  have hown : s.vm.findClass RX3 = some m.cls := hown
  have hl : lv_has ls 2 [(0, .ref (gad g 8 0)), (1, .int (n))] := hl
  have k1 := hts (.fieldLink RX3 53 "TaxiRankModel" "thrown" "I") (by decide +kernel)
  have k2 := hts (.fieldLink RX3 26 "TaxiRankModel" "doing" "[I") (by decide +kernel)
  have k3 := hts (.fieldLink RX3 23 "TaxiRankModel" "zones" "[I") (by decide +kernel)
  have hM := hF.1
  have hc10 := hM.c10
  have ho60 := hM.o60
  refine lv_aload_n hx hb dX3_stop_0 rfl (lv_at hl 0 rfl) ?_
  refine lv_iconst (v := 0) hx hb dX3_stop_1 (by decide) ?_
  refine gx_put hx hb hown hZ hG hS 8 0 0 (0) hM.b8 rfl (by decide) k1 (fun _ h => h) rfl rfl trivial rfl rfl dX3_stop_2 (fun H locs hG hS => ?_)
  have hM := hM.st8 (f := 0) (v := 0) rfl
  have hF := hF.thr (v := 0)
  obtain ⟨σ0, hσ0⟩ : ∃ z : Mem, z = gst σ 8 0 0 0 := ⟨_, rfl⟩
  rw [← hσ0] at hG hF
  rw [← hσ0]
  have hM := hF.1
  have hc10 := hM.c10
  have ho60 := hM.o60
  refine lv_aload_n hx hb dX3_stop_5 rfl (lv_at hl 0 rfl) ?_
  refine lv_iload_n hx hb dX3_stop_6 rfl (lv_at hl 1 rfl) ?_
  refine gx_cR (gx_runV (As := [.int (n)]) (rest := []) ⟨hx, hb, hml, hown, hts⟩ (c_X3_isCab l g σ0 w n hM) (cwV 1 hts gX3_stop_X3_isCab rfl rfl rfl (by decide +kernel) ⟨Nat.le_of_ble_eq_true rfl, Nat.le_of_ble_eq_true rfl⟩) (gx_obj hZ hG 8 0 hM.b8 rfl) hZ hG hS rfl hl.1 rfl (Nat.le_of_ble_eq_true rfl) dX3_stop_7 ⟨Nat.le_of_ble_eq_true rfl, Nat.le_of_ble_eq_true rfl⟩) ?_
  refine lv_if_ne (tgt := 19) hx hb dX3_stop_10 (by decide) (fun c_1 => ?_) (fun c_1 => ?_)
  · skip
    have c_1 := bI_ne0.mp c_1
    have hcn := hM.isC c_1
    have hcn1 := hcn.1
    rw [hcn.2] at hl
    refine lv_aload_n hx hb dX3_stop_19 rfl (lv_at hl 0 rfl) ?_
    refine gx_get hx hb hown hZ hG 8 0 8 hM.b8 rfl (by decide) k2 (fun _ h => h) (v := .ref (gad g 9 3)) (grf_j (hM.rf (f := 8) rfl) (by decide)) dX3_stop_20 ?_
    refine lv_iload_n hx hb dX3_stop_23 rfl (lv_at hl 1 rfl) ?_
    refine gx_aldN hx hb hZ hG 9 3 (ix n) (by rfl) (hM.b9 (by decide)) rfl rfl ⟨by rw [hM.lc (i := 3) (by decide) (by decide)]; omega, by omega⟩ (v := .int (σ0 9 3 (ix n))) rfl dX3_stop_24 ?_
    refine lv_iconst (v := 1) hx hb dX3_stop_25 (by decide) ?_
    refine lv_icmp_eq (tgt := 35) hx hb dX3_stop_26 (by decide) (fun c_2 => ?_) (fun c_2 => ?_)
    · skip
      refine lv_aload_n hx hb dX3_stop_35 rfl (lv_at hl 0 rfl) ?_
      refine lv_iload_n hx hb dX3_stop_36 rfl (lv_at hl 1 rfl) ?_
      refine gx_cM (gx_runV (As := [.int (nI (ix n))]) (rest := []) ⟨hx, hb, hml, hown, hts⟩ (c_X3_refused l g σ0 w (ix n) hM (by omega) (hF.2.1 (ix n) (by omega))) (cwV 1 hts gX3_stop_X3_refused rfl rfl rfl (by decide +kernel) ⟨Nat.le_of_ble_eq_true rfl, Nat.le_of_ble_eq_true rfl⟩) (gx_obj hZ hG 8 0 hM.b8 rfl) hZ hG hS rfl hl.1 rfl (Nat.le_of_ble_eq_true rfl) dX3_stop_37 ⟨Nat.le_of_ble_eq_true rfl, Nat.le_of_ble_eq_true rfl⟩) hS (fun H locs hG hS hsz => ?_)
      have hM := hM.rfd (c := ix n)
      refine lv_aload_n hx hb dX3_stop_40 rfl (lv_at hl 0 rfl) ?_
      refine gx_get hx hb hown hZ hG 8 0 8 hM.b8 rfl (by decide) k2 (fun _ h => h) (v := .ref (gad g 9 3)) (grf_j (hM.rf (f := 8) rfl) (by decide)) dX3_stop_41 ?_
      refine lv_iload_n hx hb dX3_stop_44 rfl (lv_at hl 1 rfl) ?_
      refine lv_iconst (v := 0) hx hb dX3_stop_45 (by decide) ?_
      refine gx_astN hx hb hZ hG hS 9 3 (ix n) (by rfl) (hM.b9 (by decide)) rfl rfl ⟨by rw [hM.lc (i := 3) (by decide) (by decide)]; omega, by omega⟩ rfl trivial dX3_stop_46 (fun H locs hG hS => ?_)
      have hM := hM.st9 (i := 3) (f := ix n) (v := 0) (by decide)
      refine lv_aload_n hx hb dX3_stop_47 rfl (lv_at hl 0 rfl) ?_
      refine gx_cM (gx_runV (As := []) (rest := []) ⟨hx, hb, hml, hown, hts⟩ (c_X3_offerAll l g (gst (mRfd σ0 (ix n)) 9 3 (ix n) 0) w hM) (cwV 0 hts gX3_stop_X3_offerAll rfl rfl rfl (by decide +kernel) ⟨Nat.le_of_ble_eq_true rfl, Nat.le_of_ble_eq_true rfl⟩) (gx_obj hZ hG 8 0 hM.b8 rfl) hZ hG hS rfl hl.1 rfl (Nat.le_of_ble_eq_true rfl) dX3_stop_48 ⟨Nat.le_of_ble_eq_true rfl, Nat.le_of_ble_eq_true rfl⟩) hS (fun H locs hG hS hsz => ?_)
      have hM := hM.oa
      refine lv_aload_n hx hb dX3_stop_51 rfl (lv_at hl 0 rfl) ?_
      refine gx_get hx hb hown hZ hG 8 0 7 hM.b8 rfl (by decide) k3 (fun _ h => h) (v := .ref (gad g 9 2)) (grf_j (hM.rf (f := 7) rfl) (by decide)) dX3_stop_52 ?_
      refine lv_iload_n hx hb dX3_stop_55 rfl (lv_at hl 1 rfl) ?_
      refine gx_aldN hx hb hZ hG 9 2 (ix n) (by rfl) (hM.b9 (by decide)) rfl rfl ⟨by rw [hM.lc (i := 2) (by decide) (by decide)]; omega, by omega⟩ (v := .int ((mOA (gst (mRfd σ0 (ix n)) 9 3 (ix n) 0)) 9 2 (ix n))) rfl dX3_stop_56 ?_
      exact gx_iretM hx hb hr hlocks hG hS (by unfold mStop; (try first | rw [if_pos c_1] | rw [if_neg c_1] | rw [if_neg (ne_true_of_eq_false c_1)]); (try first | rw [if_pos c_2] | rw [if_neg c_2] | rw [if_neg (ne_true_of_eq_false c_2)]); try rfl) (by unfold mStop; (try first | rw [if_pos c_1] | rw [if_neg c_1] | rw [if_neg (ne_true_of_eq_false c_1)]); (try first | rw [if_pos c_2] | rw [if_neg c_2] | rw [if_neg (ne_true_of_eq_false c_2)]); try rfl) (Nat.le_of_ble_eq_true rfl) (Nat.le_of_ble_eq_true rfl) dX3_stop_57
    · skip
      refine lv_aload_n hx hb dX3_stop_29 rfl (lv_at hl 0 rfl) ?_
      refine lv_iconst (v := 2) hx hb dX3_stop_30 (by decide) ?_
      refine gx_cM (gx_runV (As := [.int (2)]) (rest := []) ⟨hx, hb, hml, hown, hts⟩ (c_X3_fail l g σ0 w 2 hM) (cwV 1 hts gX3_stop_X3_fail rfl rfl rfl (by decide +kernel) ⟨Nat.le_of_ble_eq_true rfl, Nat.le_of_ble_eq_true rfl⟩) (gx_obj hZ hG 8 0 hM.b8 rfl) hZ hG hS rfl hl.1 rfl (Nat.le_of_ble_eq_true rfl) dX3_stop_31 ⟨Nat.le_of_ble_eq_true rfl, Nat.le_of_ble_eq_true rfl⟩) hS (fun H locs hG hS hsz => ?_)
      exact gx_iretM hx hb hr hlocks hG hS (by unfold mStop; (try first | rw [if_pos c_1] | rw [if_neg c_1] | rw [if_neg (ne_true_of_eq_false c_1)]); (try first | rw [if_pos c_2] | rw [if_neg c_2] | rw [if_neg (ne_true_of_eq_false c_2)]); try rfl) (by unfold mStop; (try first | rw [if_pos c_1] | rw [if_neg c_1] | rw [if_neg (ne_true_of_eq_false c_1)]); (try first | rw [if_pos c_2] | rw [if_neg c_2] | rw [if_neg (ne_true_of_eq_false c_2)]); try rfl) (Nat.le_of_ble_eq_true rfl) (Nat.le_of_ble_eq_true rfl) dX3_stop_34
  · skip
    have c_1 := bI_eq0.mp c_1
    refine lv_aload_n hx hb dX3_stop_13 rfl (lv_at hl 0 rfl) ?_
    refine lv_iconst (v := 1) hx hb dX3_stop_14 (by decide) ?_
    refine gx_cM (gx_runV (As := [.int (1)]) (rest := []) ⟨hx, hb, hml, hown, hts⟩ (c_X3_fail l g σ0 w 1 hM) (cwV 1 hts gX3_stop_X3_fail rfl rfl rfl (by decide +kernel) ⟨Nat.le_of_ble_eq_true rfl, Nat.le_of_ble_eq_true rfl⟩) (gx_obj hZ hG 8 0 hM.b8 rfl) hZ hG hS rfl hl.1 rfl (Nat.le_of_ble_eq_true rfl) dX3_stop_15 ⟨Nat.le_of_ble_eq_true rfl, Nat.le_of_ble_eq_true rfl⟩) hS (fun H locs hG hS hsz => ?_)
    exact gx_iretM hx hb hr hlocks hG hS (by unfold mStop; (try first | rw [if_pos c_1] | rw [if_neg c_1] | rw [if_neg (ne_true_of_eq_false c_1)]); try rfl) (by unfold mStop; (try first | rw [if_pos c_1] | rw [if_neg c_1] | rw [if_neg (ne_true_of_eq_false c_1)]); try rfl) (Nat.le_of_ble_eq_true rfl) (Nat.le_of_ble_eq_true rfl) dX3_stop_18
set_option maxHeartbeats 4000000 in
set_option maxRecDepth 100000 in
theorem c_X3_setRates (l : Launch) (g : gG) (σ : Mem) (w : Int64) (a b : Int32) (hF : Mf g σ) : Met l yX3_setRates wsX3_setRates ({ frames := 1, cells := 0, slots := 0, locals := 26 } : Room) (gPc g σ w [.ref (gad g 8 0), .int (a), .int (b)]) (gM g g ((mSetRates (gst σ 8 0 0 0) a b).2) w (some (.int (mSetRates (gst σ 8 0 0 0) a b).1))) 0 0 (gA g) := by
  refine gx_ofW (cc := cX3_setRates) (maxL := 4) (ret := (some .int)) (by decide) rfl (Nat.le_of_ble_eq_true rfl) ?_
  intro p e s m below meth c0 hx hb hr hml hts hown hlocks hin hG hZ hS ls hl
  have hown : s.vm.findClass RX3 = some m.cls := hown
  have hl : lv_has ls 4 [(0, .ref (gad g 8 0)), (1, .int (a)), (2, .int (b))] := hl
  have k1 := hts (.fieldLink RX3 53 "TaxiRankModel" "thrown" "I") (by decide +kernel)
  have k2 := hts (.fieldLink RX3 13 "TaxiRankModel" "base" "I") (by decide +kernel)
  have k3 := hts (.fieldLink RX3 17 "TaxiRankModel" "rate" "I") (by decide +kernel)
  have hM := hF.1
  have hc10 := hM.c10
  have ho60 := hM.o60
  refine lv_aload_n hx hb dX3_setRates_0 rfl (lv_at hl 0 rfl) ?_
  refine lv_iconst (v := 0) hx hb dX3_setRates_1 (by decide) ?_
  refine gx_put hx hb hown hZ hG hS 8 0 0 (0) hM.b8 rfl (by decide) k1 (fun _ h => h) rfl rfl trivial rfl rfl dX3_setRates_2 (fun H locs hG hS => ?_)
  have hM := hM.st8 (f := 0) (v := 0) rfl
  have hF := hF.thr (v := 0)
  obtain ⟨σ0, hσ0⟩ : ∃ z : Mem, z = gst σ 8 0 0 0 := ⟨_, rfl⟩
  rw [← hσ0] at hG hF
  rw [← hσ0]
  have hM := hF.1
  have hc10 := hM.c10
  have ho60 := hM.o60
  refine lv_iload_n hx hb dX3_setRates_5 rfl (lv_at hl 1 rfl) ?_
  refine lv_iconst (v := 0) hx hb dX3_setRates_6 (by decide) ?_
  refine lv_bipush (v := 100) hx hb dX3_setRates_7 (by decide) ?_
  refine gx_cR (gx_runS (As := [.int (a), .int (0), .int (100)]) (rest := []) ⟨hx, hb, hml, hown, hts⟩ (c_X3_isIn l g σ0 w a 0 100) (va_cwS 3 hts gX3_setRates_X3_isIn rfl rfl rfl (by decide +kernel) ⟨Nat.le_of_ble_eq_true rfl, Nat.le_of_ble_eq_true rfl⟩) hZ hG hS rfl hl.1 rfl (Nat.le_of_ble_eq_true rfl) dX3_setRates_9 ⟨Nat.le_of_ble_eq_true rfl, Nat.le_of_ble_eq_true rfl⟩) ?_
  refine lv_if_eq (tgt := 25) hx hb dX3_setRates_12 (by decide) (fun c_1 => ?_) (fun c_1 => ?_)
  · skip
    have c_1 := bI_eq0.mp c_1
    refine lv_aload_n hx hb dX3_setRates_25 rfl (lv_at hl 0 rfl) ?_
    refine lv_iconst (v := 1) hx hb dX3_setRates_26 (by decide) ?_
    refine gx_cM (gx_runV (As := [.int (1)]) (rest := []) ⟨hx, hb, hml, hown, hts⟩ (c_X3_fail l g σ0 w 1 hM) (cwV 1 hts gX3_setRates_X3_fail rfl rfl rfl (by decide +kernel) ⟨Nat.le_of_ble_eq_true rfl, Nat.le_of_ble_eq_true rfl⟩) (gx_obj hZ hG 8 0 hM.b8 rfl) hZ hG hS rfl hl.1 rfl (Nat.le_of_ble_eq_true rfl) dX3_setRates_27 ⟨Nat.le_of_ble_eq_true rfl, Nat.le_of_ble_eq_true rfl⟩) hS (fun H locs hG hS hsz => ?_)
    exact gx_iretM hx hb hr hlocks hG hS (by unfold mSetRates; (try first | rw [if_pos c_1] | rw [if_neg c_1] | rw [if_neg (ne_true_of_eq_false c_1)]); try rfl) (by unfold mSetRates; (try first | rw [if_pos c_1] | rw [if_neg c_1] | rw [if_neg (ne_true_of_eq_false c_1)]); try rfl) (Nat.le_of_ble_eq_true rfl) (Nat.le_of_ble_eq_true rfl) dX3_setRates_30
  · skip
    have c_1 := bI_ne0.mp c_1
    refine lv_iload_n hx hb dX3_setRates_15 rfl (lv_at hl 2 rfl) ?_
    refine lv_iconst (v := 0) hx hb dX3_setRates_16 (by decide) ?_
    refine lv_bipush (v := 20) hx hb dX3_setRates_17 (by decide) ?_
    refine gx_cR (gx_runS (As := [.int (b), .int (0), .int (20)]) (rest := []) ⟨hx, hb, hml, hown, hts⟩ (c_X3_isIn l g σ0 w b 0 20) (va_cwS 3 hts gX3_setRates_X3_isIn rfl rfl rfl (by decide +kernel) ⟨Nat.le_of_ble_eq_true rfl, Nat.le_of_ble_eq_true rfl⟩) hZ hG hS rfl hl.1 rfl (Nat.le_of_ble_eq_true rfl) dX3_setRates_19 ⟨Nat.le_of_ble_eq_true rfl, Nat.le_of_ble_eq_true rfl⟩) ?_
    refine lv_if_ne (tgt := 31) hx hb dX3_setRates_22 (by decide) (fun c_2 => ?_) (fun c_2 => ?_)
    · skip
      have c_2 := bI_ne0.mp c_2
      refine lv_aload_n hx hb dX3_setRates_31 rfl (lv_at hl 0 rfl) ?_
      refine gx_get hx hb hown hZ hG 8 0 3 hM.b8 rfl (by decide) k2 (fun _ h => h) (v := .int (σ0 8 0 3)) rfl dX3_setRates_32 ?_
      refine lv_istore_n (lv' := [(3, .int (σ0 8 0 3)), (0, .ref (gad g 8 0)), (1, .int (a)), (2, .int (b))]) hx hb dX3_setRates_35 rfl hl (by decide) rfl (fun ls hl => ?_)
      refine lv_aload_n hx hb dX3_setRates_36 rfl (lv_at hl 1 rfl) ?_
      refine lv_iload_n hx hb dX3_setRates_37 rfl (lv_at hl 2 rfl) ?_
      refine gx_put hx hb hown hZ hG hS 8 0 3 (a) hM.b8 rfl (by decide) k2 (fun _ h => h) rfl rfl trivial rfl rfl dX3_setRates_38 (fun H locs hG hS => ?_)
      have hM := hM.st8 (f := 3) (v := a) rfl
      refine lv_aload_n hx hb dX3_setRates_41 rfl (lv_at hl 1 rfl) ?_
      refine lv_iload_n hx hb dX3_setRates_42 rfl (lv_at hl 3 rfl) ?_
      refine gx_put hx hb hown hZ hG hS 8 0 4 (b) hM.b8 rfl (by decide) k3 (fun _ h => h) rfl rfl trivial rfl rfl dX3_setRates_43 (fun H locs hG hS => ?_)
      have hM := hM.st8 (f := 4) (v := b) rfl
      refine lv_iload_n hx hb dX3_setRates_46 rfl (lv_at hl 0 rfl) ?_
      exact gx_iretM hx hb hr hlocks hG hS (by unfold mSetRates; (try first | rw [if_pos c_1] | rw [if_neg c_1] | rw [if_neg (ne_true_of_eq_false c_1)]); (try first | rw [if_pos c_2] | rw [if_neg c_2] | rw [if_neg (ne_true_of_eq_false c_2)]); try rfl) (by unfold mSetRates; (try first | rw [if_pos c_1] | rw [if_neg c_1] | rw [if_neg (ne_true_of_eq_false c_1)]); (try first | rw [if_pos c_2] | rw [if_neg c_2] | rw [if_neg (ne_true_of_eq_false c_2)]); try rfl) (Nat.le_of_ble_eq_true rfl) (Nat.le_of_ble_eq_true rfl) dX3_setRates_47
    · skip
      have c_2 := bI_eq0.mp c_2
      refine lv_aload_n hx hb dX3_setRates_25 rfl (lv_at hl 0 rfl) ?_
      refine lv_iconst (v := 1) hx hb dX3_setRates_26 (by decide) ?_
      refine gx_cM (gx_runV (As := [.int (1)]) (rest := []) ⟨hx, hb, hml, hown, hts⟩ (c_X3_fail l g σ0 w 1 hM) (cwV 1 hts gX3_setRates_X3_fail rfl rfl rfl (by decide +kernel) ⟨Nat.le_of_ble_eq_true rfl, Nat.le_of_ble_eq_true rfl⟩) (gx_obj hZ hG 8 0 hM.b8 rfl) hZ hG hS rfl hl.1 rfl (Nat.le_of_ble_eq_true rfl) dX3_setRates_27 ⟨Nat.le_of_ble_eq_true rfl, Nat.le_of_ble_eq_true rfl⟩) hS (fun H locs hG hS hsz => ?_)
      exact gx_iretM hx hb hr hlocks hG hS (by unfold mSetRates; (try first | rw [if_pos c_1] | rw [if_neg c_1] | rw [if_neg (ne_true_of_eq_false c_1)]); (try first | rw [if_pos c_2] | rw [if_neg c_2] | rw [if_neg (ne_true_of_eq_false c_2)]); try rfl) (by unfold mSetRates; (try first | rw [if_pos c_1] | rw [if_neg c_1] | rw [if_neg (ne_true_of_eq_false c_1)]); (try first | rw [if_pos c_2] | rw [if_neg c_2] | rw [if_neg (ne_true_of_eq_false c_2)]); try rfl) (Nat.le_of_ble_eq_true rfl) (Nat.le_of_ble_eq_true rfl) dX3_setRates_30
set_option maxHeartbeats 4000000 in
set_option maxRecDepth 100000 in
theorem c_X3_cab (l : Launch) (g : gG) (σ : Mem) (w : Int64) (n x : Int32) (hF : Mf g σ) : Met l yX3_cab wsX3_cab ({ frames := 2, cells := 0, slots := 0, locals := 46 } : Room) (gPc g σ w [.ref (gad g 8 0), .int (n), .int (x)]) (gM g g ((mCab (gst σ 8 0 0 0) n x).2) w (some (.int (mCab (gst σ 8 0 0 0) n x).1))) 0 0 (gA g) := by
  refine gx_ofW (cc := cX3_cab) (maxL := 3) (ret := (some .int)) (by decide) rfl (Nat.le_of_ble_eq_true rfl) ?_
  intro p e s m below meth c0 hx hb hr hml hts hown hlocks hin hG hZ hS ls hl
  have hown : s.vm.findClass RX3 = some m.cls := hown
  have hl : lv_has ls 3 [(0, .ref (gad g 8 0)), (1, .int (n)), (2, .int (x))] := hl
  have k1 := hts (.fieldLink RX3 53 "TaxiRankModel" "thrown" "I") (by decide +kernel)
  have hM := hF.1
  have hc10 := hM.c10
  have ho60 := hM.o60
  refine lv_aload_n hx hb dX3_cab_0 rfl (lv_at hl 0 rfl) ?_
  refine lv_iconst (v := 0) hx hb dX3_cab_1 (by decide) ?_
  refine gx_put hx hb hown hZ hG hS 8 0 0 (0) hM.b8 rfl (by decide) k1 (fun _ h => h) rfl rfl trivial rfl rfl dX3_cab_2 (fun H locs hG hS => ?_)
  have hM := hM.st8 (f := 0) (v := 0) rfl
  have hF := hF.thr (v := 0)
  obtain ⟨σ0, hσ0⟩ : ∃ z : Mem, z = gst σ 8 0 0 0 := ⟨_, rfl⟩
  rw [← hσ0] at hG hF
  rw [← hσ0]
  have hM := hF.1
  have hc10 := hM.c10
  have ho60 := hM.o60
  refine lv_aload_n hx hb dX3_cab_5 rfl (lv_at hl 0 rfl) ?_
  refine lv_iload_n hx hb dX3_cab_6 rfl (lv_at hl 1 rfl) ?_
  refine gx_cR (gx_runV (As := [.int (n)]) (rest := []) ⟨hx, hb, hml, hown, hts⟩ (c_X3_isCab l g σ0 w n hM) (cwV 1 hts gX3_cab_X3_isCab rfl rfl rfl (by decide +kernel) ⟨Nat.le_of_ble_eq_true rfl, Nat.le_of_ble_eq_true rfl⟩) (gx_obj hZ hG 8 0 hM.b8 rfl) hZ hG hS rfl hl.1 rfl (Nat.le_of_ble_eq_true rfl) dX3_cab_7 ⟨Nat.le_of_ble_eq_true rfl, Nat.le_of_ble_eq_true rfl⟩) ?_
  refine lv_if_eq (tgt := 31) hx hb dX3_cab_10 (by decide) (fun c_1 => ?_) (fun c_1 => ?_)
  · skip
    have c_1 := bI_eq0.mp c_1
    refine lv_aload_n hx hb dX3_cab_31 rfl (lv_at hl 0 rfl) ?_
    refine lv_iconst (v := 1) hx hb dX3_cab_32 (by decide) ?_
    refine gx_cM (gx_runV (As := [.int (1)]) (rest := []) ⟨hx, hb, hml, hown, hts⟩ (c_X3_fail l g σ0 w 1 hM) (cwV 1 hts gX3_cab_X3_fail rfl rfl rfl (by decide +kernel) ⟨Nat.le_of_ble_eq_true rfl, Nat.le_of_ble_eq_true rfl⟩) (gx_obj hZ hG 8 0 hM.b8 rfl) hZ hG hS rfl hl.1 rfl (Nat.le_of_ble_eq_true rfl) dX3_cab_33 ⟨Nat.le_of_ble_eq_true rfl, Nat.le_of_ble_eq_true rfl⟩) hS (fun H locs hG hS hsz => ?_)
    exact gx_iretM hx hb hr hlocks hG hS (by unfold mCab; (try first | rw [if_pos c_1] | rw [if_neg c_1] | rw [if_neg (ne_true_of_eq_false c_1)]); try rfl) (by unfold mCab; (try first | rw [if_pos c_1] | rw [if_neg c_1] | rw [if_neg (ne_true_of_eq_false c_1)]); try rfl) (Nat.le_of_ble_eq_true rfl) (Nat.le_of_ble_eq_true rfl) dX3_cab_36
  · skip
    have c_1 := bI_ne0.mp c_1
    have hcn := hM.isC c_1
    have hcn1 := hcn.1
    rw [hcn.2] at hl
    refine lv_iload_n hx hb dX3_cab_13 rfl (lv_at hl 2 rfl) ?_
    refine lv_iconst (v := 0) hx hb dX3_cab_14 (by decide) ?_
    refine lv_iconst (v := 4) hx hb dX3_cab_15 (by decide) ?_
    refine gx_cR (gx_runS (As := [.int (x), .int (0), .int (4)]) (rest := []) ⟨hx, hb, hml, hown, hts⟩ (c_X3_isIn l g σ0 w x 0 4) (va_cwS 3 hts gX3_cab_X3_isIn rfl rfl rfl (by decide +kernel) ⟨Nat.le_of_ble_eq_true rfl, Nat.le_of_ble_eq_true rfl⟩) hZ hG hS rfl hl.1 rfl (Nat.le_of_ble_eq_true rfl) dX3_cab_16 ⟨Nat.le_of_ble_eq_true rfl, Nat.le_of_ble_eq_true rfl⟩) ?_
    refine lv_if_eq (tgt := 31) hx hb dX3_cab_19 (by decide) (fun c_2 => ?_) (fun c_2 => ?_)
    · skip
      have c_2 := bI_eq0.mp c_2
      refine lv_aload_n hx hb dX3_cab_31 rfl (lv_at hl 0 rfl) ?_
      refine lv_iconst (v := 1) hx hb dX3_cab_32 (by decide) ?_
      refine gx_cM (gx_runV (As := [.int (1)]) (rest := []) ⟨hx, hb, hml, hown, hts⟩ (c_X3_fail l g σ0 w 1 hM) (cwV 1 hts gX3_cab_X3_fail rfl rfl rfl (by decide +kernel) ⟨Nat.le_of_ble_eq_true rfl, Nat.le_of_ble_eq_true rfl⟩) (gx_obj hZ hG 8 0 hM.b8 rfl) hZ hG hS rfl hl.1 rfl (Nat.le_of_ble_eq_true rfl) dX3_cab_33 ⟨Nat.le_of_ble_eq_true rfl, Nat.le_of_ble_eq_true rfl⟩) hS (fun H locs hG hS hsz => ?_)
      exact gx_iretM hx hb hr hlocks hG hS (by unfold mCab; (try first | rw [if_pos c_1] | rw [if_neg c_1] | rw [if_neg (ne_true_of_eq_false c_1)]); (try first | rw [if_pos c_2] | rw [if_neg c_2] | rw [if_neg (ne_true_of_eq_false c_2)]); try rfl) (by unfold mCab; (try first | rw [if_pos c_1] | rw [if_neg c_1] | rw [if_neg (ne_true_of_eq_false c_1)]); (try first | rw [if_pos c_2] | rw [if_neg c_2] | rw [if_neg (ne_true_of_eq_false c_2)]); try rfl) (Nat.le_of_ble_eq_true rfl) (Nat.le_of_ble_eq_true rfl) dX3_cab_36
    · skip
      have c_2 := bI_ne0.mp c_2
      refine lv_aload_n hx hb dX3_cab_22 rfl (lv_at hl 0 rfl) ?_
      refine lv_iload_n hx hb dX3_cab_23 rfl (lv_at hl 1 rfl) ?_
      refine lv_iload_n hx hb dX3_cab_24 rfl (lv_at hl 2 rfl) ?_
      refine gx_cR (gx_runV (As := [.int (nI (ix n)), .int (x)]) (rest := []) ⟨hx, hb, hml, hown, hts⟩ (c_X3_cabTold l g σ0 w (ix n) x hM (by omega)) (cwV 2 hts gX3_cab_X3_cabTold rfl rfl rfl (by decide +kernel) ⟨Nat.le_of_ble_eq_true rfl, Nat.le_of_ble_eq_true rfl⟩) (gx_obj hZ hG 8 0 hM.b8 rfl) hZ hG hS rfl hl.1 rfl (Nat.le_of_ble_eq_true rfl) dX3_cab_25 ⟨Nat.le_of_ble_eq_true rfl, Nat.le_of_ble_eq_true rfl⟩) ?_
      refine lv_goto (tgt := 36) hx hb dX3_cab_28 (by decide) ?_
      exact gx_iretM hx hb hr hlocks hG hS (by unfold mCab; (try first | rw [if_pos c_1] | rw [if_neg c_1] | rw [if_neg (ne_true_of_eq_false c_1)]); (try first | rw [if_pos c_2] | rw [if_neg c_2] | rw [if_neg (ne_true_of_eq_false c_2)]); try rfl) (by unfold mCab; (try first | rw [if_pos c_1] | rw [if_neg c_1] | rw [if_neg (ne_true_of_eq_false c_1)]); (try first | rw [if_pos c_2] | rw [if_neg c_2] | rw [if_neg (ne_true_of_eq_false c_2)]); try rfl) (Nat.le_of_ble_eq_true rfl) (Nat.le_of_ble_eq_true rfl) dX3_cab_36
set_option maxHeartbeats 4000000 in
set_option maxRecDepth 100000 in
theorem c_X3_accept (l : Launch) (g : gG) (σ : Mem) (w : Int64) (n : Int32) (hF : Mf g σ) : Met l yX3_accept wsX3_accept ({ frames := 4, cells := 0, slots := 0, locals := 96 } : Room) (gPc g σ w [.ref (gad g 8 0), .int (n)]) (gM g g ((mAccept (gst σ 8 0 0 0) n).2) w (some (.int (mAccept (gst σ 8 0 0 0) n).1))) 0 0 (gA g) := by
  refine gx_ofW (cc := cX3_accept) (maxL := 3) (ret := (some .int)) (by decide) rfl (Nat.le_of_ble_eq_true rfl) ?_
  intro p e s m below meth c0 hx hb hr hml hts hown hlocks hin hG hZ hS ls hl
  have hown : s.vm.findClass RX3 = some m.cls := hown
  have hl : lv_has ls 3 [(0, .ref (gad g 8 0)), (1, .int (n))] := hl
  have k1 := hts (.fieldLink RX3 53 "TaxiRankModel" "thrown" "I") (by decide +kernel)
  have k2 := hts (.fieldLink RX3 23 "TaxiRankModel" "zones" "[I") (by decide +kernel)
  have k3 := hts (.fieldLink RX3 29 "TaxiRankModel" "orderOf" "[I") (by decide +kernel)
  have k4 := hts (.fieldLink RX3 26 "TaxiRankModel" "doing" "[I") (by decide +kernel)
  have k5 := hts (.fieldLink RX3 32 "TaxiRankModel" "times" "[I") (by decide +kernel)
  have k6 := hts (.fieldLink RX3 121 "TaxiRankModel" "now" "I") (by decide +kernel)
  have hM := hF.1
  have hc10 := hM.c10
  have ho60 := hM.o60
  refine lv_aload_n hx hb dX3_accept_0 rfl (lv_at hl 0 rfl) ?_
  refine lv_iconst (v := 0) hx hb dX3_accept_1 (by decide) ?_
  refine gx_put hx hb hown hZ hG hS 8 0 0 (0) hM.b8 rfl (by decide) k1 (fun _ h => h) rfl rfl trivial rfl rfl dX3_accept_2 (fun H locs hG hS => ?_)
  have hM := hM.st8 (f := 0) (v := 0) rfl
  have hF := hF.thr (v := 0)
  obtain ⟨σ0, hσ0⟩ : ∃ z : Mem, z = gst σ 8 0 0 0 := ⟨_, rfl⟩
  rw [← hσ0] at hG hF
  rw [← hσ0]
  have hM := hF.1
  have hc10 := hM.c10
  have ho60 := hM.o60
  refine lv_aload_n hx hb dX3_accept_5 rfl (lv_at hl 0 rfl) ?_
  refine lv_iload_n hx hb dX3_accept_6 rfl (lv_at hl 1 rfl) ?_
  refine gx_cR (gx_runV (As := [.int (n)]) (rest := []) ⟨hx, hb, hml, hown, hts⟩ (c_X3_isCab l g σ0 w n hM) (cwV 1 hts gX3_accept_X3_isCab rfl rfl rfl (by decide +kernel) ⟨Nat.le_of_ble_eq_true rfl, Nat.le_of_ble_eq_true rfl⟩) (gx_obj hZ hG 8 0 hM.b8 rfl) hZ hG hS rfl hl.1 rfl (Nat.le_of_ble_eq_true rfl) dX3_accept_7 ⟨Nat.le_of_ble_eq_true rfl, Nat.le_of_ble_eq_true rfl⟩) ?_
  refine lv_if_ne (tgt := 19) hx hb dX3_accept_10 (by decide) (fun c_1 => ?_) (fun c_1 => ?_)
  · skip
    have c_1 := bI_ne0.mp c_1
    have hcn := hM.isC c_1
    have hcn1 := hcn.1
    rw [hcn.2] at hl
    refine lv_aload_n hx hb dX3_accept_19 rfl (lv_at hl 0 rfl) ?_
    refine lv_iload_n hx hb dX3_accept_20 rfl (lv_at hl 1 rfl) ?_
    refine gx_cR (gx_runV (As := [.int (nI (ix n))]) (rest := []) ⟨hx, hb, hml, hown, hts⟩ (c_X3_isOffered l g σ0 w (ix n) hM (by omega)) (cwV 1 hts gX3_accept_X3_isOffered rfl rfl rfl (by decide +kernel) ⟨Nat.le_of_ble_eq_true rfl, Nat.le_of_ble_eq_true rfl⟩) (gx_obj hZ hG 8 0 hM.b8 rfl) hZ hG hS rfl hl.1 rfl (Nat.le_of_ble_eq_true rfl) dX3_accept_21 ⟨Nat.le_of_ble_eq_true rfl, Nat.le_of_ble_eq_true rfl⟩) ?_
    refine lv_if_ne (tgt := 33) hx hb dX3_accept_24 (by decide) (fun c_2 => ?_) (fun c_2 => ?_)
    · skip
      have c_2 := bI_ne0.mp c_2
      have hdo := mIsOff_1 c_2
      obtain ⟨ho1, eo1⟩ : ix (σ0 9 4 (ix n)) < 60 ∧ σ0 9 4 (ix n) = nI (ix (σ0 9 4 (ix n))) := by obtain ⟨o, ho, e⟩ := (hF.2.1 (ix n) (by omega)).resolve_left hdo.2; rw [e, ix_nI (by omega)]; exact ⟨ho, rfl⟩
      refine lv_aload_n hx hb dX3_accept_33 rfl (lv_at hl 0 rfl) ?_
      refine lv_aload_n hx hb dX3_accept_34 rfl (lv_at hl 0 rfl) ?_
      refine gx_get hx hb hown hZ hG 8 0 7 hM.b8 rfl (by decide) k2 (fun _ h => h) (v := .ref (gad g 9 2)) (grf_j (hM.rf (f := 7) rfl) (by decide)) dX3_accept_35 ?_
      refine lv_iload_n hx hb dX3_accept_38 rfl (lv_at hl 1 rfl) ?_
      refine gx_aldN hx hb hZ hG 9 2 (ix n) (by rfl) (hM.b9 (by decide)) rfl rfl ⟨by rw [hM.lc (i := 2) (by decide) (by decide)]; omega, by omega⟩ (v := .int (σ0 9 2 (ix n))) rfl dX3_accept_39 ?_
      refine lv_aload_n hx hb dX3_accept_40 rfl (lv_at hl 0 rfl) ?_
      refine lv_aload_n hx hb dX3_accept_41 rfl (lv_at hl 0 rfl) ?_
      refine gx_get hx hb hown hZ hG 8 0 9 hM.b8 rfl (by decide) k3 (fun _ h => h) (v := .ref (gad g 9 4)) (grf_j (hM.rf (f := 9) rfl) (by decide)) dX3_accept_42 ?_
      refine lv_iload_n hx hb dX3_accept_45 rfl (lv_at hl 1 rfl) ?_
      refine gx_aldN hx hb hZ hG 9 4 (ix n) (by rfl) (hM.b9 (by decide)) rfl rfl ⟨by rw [hM.lc (i := 4) (by decide) (by decide)]; omega, by omega⟩ (v := .int (σ0 9 4 (ix n))) rfl dX3_accept_46 ?_
      refine gx_topN eo1 ?_
      refine lv_iconst (v := 0) hx hb dX3_accept_47 (by decide) ?_
      refine gx_cR (gx_runV (As := [.int (nI (ix (σ0 9 4 (ix n)))), .int (0)]) (rest := [.int (σ0 9 2 (ix n)), .ref (gad g 8 0)]) ⟨hx, hb, hml, hown, hts⟩ (c_X3_get l g σ0 w (ix (σ0 9 4 (ix n))) 0 hM ho1 (by decide)) (cwV 2 hts gX3_accept_X3_get rfl rfl rfl (by decide +kernel) ⟨Nat.le_of_ble_eq_true rfl, Nat.le_of_ble_eq_true rfl⟩) (gx_obj hZ hG 8 0 hM.b8 rfl) hZ hG hS rfl hl.1 rfl (Nat.le_of_ble_eq_true rfl) dX3_accept_48 ⟨Nat.le_of_ble_eq_true rfl, Nat.le_of_ble_eq_true rfl⟩) ?_
      refine gx_cR (gx_runV (As := [.int (σ0 9 2 (ix n)), .int (mT σ0 (ix (σ0 9 4 (ix n))) 0)]) (rest := []) ⟨hx, hb, hml, hown, hts⟩ (c_X3_way l g σ0 w (σ0 9 2 (ix n)) (mT σ0 (ix (σ0 9 4 (ix n))) 0) hM (hM.z (by omega)) (hM.t0 ho1)) (cwV 2 hts gX3_accept_X3_way rfl rfl rfl (by decide +kernel) ⟨Nat.le_of_ble_eq_true rfl, Nat.le_of_ble_eq_true rfl⟩) (gx_obj hZ hG 8 0 hM.b8 rfl) hZ hG hS rfl hl.1 rfl (Nat.le_of_ble_eq_true rfl) dX3_accept_51 ⟨Nat.le_of_ble_eq_true rfl, Nat.le_of_ble_eq_true rfl⟩) ?_
      refine lv_istore_n (lv' := [(2, .int (mWay σ0 (σ0 9 2 (ix n)) (mT σ0 (ix (σ0 9 4 (ix n))) 0))), (0, .ref (gad g 8 0)), (1, .int (nI (ix n)))]) hx hb dX3_accept_54 rfl hl (by decide) rfl (fun ls hl => ?_)
      refine lv_aload_n hx hb dX3_accept_55 rfl (lv_at hl 1 rfl) ?_
      refine gx_get hx hb hown hZ hG 8 0 8 hM.b8 rfl (by decide) k4 (fun _ h => h) (v := .ref (gad g 9 3)) (grf_j (hM.rf (f := 8) rfl) (by decide)) dX3_accept_56 ?_
      refine lv_iload_n hx hb dX3_accept_59 rfl (lv_at hl 2 rfl) ?_
      refine lv_iconst (v := 2) hx hb dX3_accept_60 (by decide) ?_
      refine gx_astN hx hb hZ hG hS 9 3 (ix n) (by rfl) (hM.b9 (by decide)) rfl rfl ⟨by rw [hM.lc (i := 3) (by decide) (by decide)]; omega, by omega⟩ rfl trivial dX3_accept_61 (fun H locs hG hS => ?_)
      have hM := hM.st9 (i := 3) (f := ix n) (v := 2) (by decide)
      refine lv_aload_n hx hb dX3_accept_62 rfl (lv_at hl 1 rfl) ?_
      refine gx_get hx hb hown hZ hG 8 0 10 hM.b8 rfl (by decide) k5 (fun _ h => h) (v := .ref (gad g 9 5)) (grf_j (hM.rf (f := 10) rfl) (by decide)) dX3_accept_63 ?_
      refine lv_iload_n hx hb dX3_accept_66 rfl (lv_at hl 2 rfl) ?_
      refine lv_aload_n hx hb dX3_accept_67 rfl (lv_at hl 1 rfl) ?_
      refine gx_get hx hb hown hZ hG 8 0 1 hM.b8 rfl (by decide) k6 (fun _ h => h) (v := .int (σ0 8 0 1)) (congrArg Value.int (by simp [gst_app])) dX3_accept_68 ?_
      refine lv_iload_n hx hb dX3_accept_71 rfl (lv_at hl 0 rfl) ?_
      refine lv_iadd hx hb dX3_accept_72 ?_
      refine gx_astN hx hb hZ hG hS 9 5 (ix n) (by rfl) (hM.b9 (by decide)) rfl rfl ⟨by rw [hM.lc (i := 5) (by decide) (by decide)]; omega, by omega⟩ rfl trivial dX3_accept_73 (fun H locs hG hS => ?_)
      have hM := hM.st9 (i := 5) (f := ix n) (v := (σ0 8 0 1) + (mWay σ0 (σ0 9 2 (ix n)) (mT σ0 (ix (σ0 9 4 (ix n))) 0))) (by decide)
      refine lv_aload_n hx hb dX3_accept_74 rfl (lv_at hl 1 rfl) ?_
      refine lv_aload_n hx hb dX3_accept_75 rfl (lv_at hl 1 rfl) ?_
      refine gx_get hx hb hown hZ hG 8 0 9 hM.b8 rfl (by decide) k3 (fun _ h => h) (v := .ref (gad g 9 4)) (grf_j (hM.rf (f := 9) rfl) (by decide)) dX3_accept_76 ?_
      refine lv_iload_n hx hb dX3_accept_79 rfl (lv_at hl 2 rfl) ?_
      refine gx_aldN hx hb hZ hG 9 4 (ix n) (by rfl) (hM.b9 (by decide)) rfl rfl ⟨by rw [hM.lc (i := 4) (by decide) (by decide)]; omega, by omega⟩ (v := .int (σ0 9 4 (ix n))) (congrArg Value.int (by simp [gst_app])) dX3_accept_80 ?_
      refine gx_topN (by simpa [gst_app] using eo1) ?_
      refine lv_iconst (v := 4) hx hb dX3_accept_81 (by decide) ?_
      refine lv_iconst (v := 2) hx hb dX3_accept_82 (by decide) ?_
      refine gx_cM (gx_runV (As := [.int (nI (ix (σ0 9 4 (ix n)))), .int (4), .int (2)]) (rest := []) ⟨hx, hb, hml, hown, hts⟩ (c_X3_set l g (gst (gst σ0 9 3 (ix n) 2) 9 5 (ix n) ((σ0 8 0 1) + (mWay σ0 (σ0 9 2 (ix n)) (mT σ0 (ix (σ0 9 4 (ix n))) 0)))) w (ix (σ0 9 4 (ix n))) 4 2 hM ho1 (by decide)) (cwV 3 hts gX3_accept_X3_set rfl rfl rfl (by decide +kernel) ⟨Nat.le_of_ble_eq_true rfl, Nat.le_of_ble_eq_true rfl⟩) (gx_obj hZ hG 8 0 hM.b8 rfl) hZ hG hS rfl hl.1 rfl (Nat.le_of_ble_eq_true rfl) dX3_accept_83 ⟨Nat.le_of_ble_eq_true rfl, Nat.le_of_ble_eq_true rfl⟩) hS (fun H locs hG hS hsz => ?_)
      have hM := hM.stT (o := ix (σ0 9 4 (ix n))) (k := 4) (v := 2) (by decide)
      refine lv_aload_n hx hb dX3_accept_86 rfl (lv_at hl 1 rfl) ?_
      refine gx_cM (gx_runV (As := []) (rest := []) ⟨hx, hb, hml, hown, hts⟩ (c_X3_offerAll l g (gst (gst (gst σ0 9 3 (ix n) 2) 9 5 (ix n) ((σ0 8 0 1) + (mWay σ0 (σ0 9 2 (ix n)) (mT σ0 (ix (σ0 9 4 (ix n))) 0)))) 9 9 (8 * (ix (σ0 9 4 (ix n))) + 4) 2) w hM) (cwV 0 hts gX3_accept_X3_offerAll rfl rfl rfl (by decide +kernel) ⟨Nat.le_of_ble_eq_true rfl, Nat.le_of_ble_eq_true rfl⟩) (gx_obj hZ hG 8 0 hM.b8 rfl) hZ hG hS rfl hl.1 rfl (Nat.le_of_ble_eq_true rfl) dX3_accept_87 ⟨Nat.le_of_ble_eq_true rfl, Nat.le_of_ble_eq_true rfl⟩) hS (fun H locs hG hS hsz => ?_)
      refine lv_iload_n hx hb dX3_accept_90 rfl (lv_at hl 0 rfl) ?_
      exact gx_iretM hx hb hr hlocks hG hS (by unfold mAccept; (try first | rw [if_pos c_1] | rw [if_neg c_1] | rw [if_neg (ne_true_of_eq_false c_1)]); (try first | rw [if_pos c_2] | rw [if_neg c_2] | rw [if_neg (ne_true_of_eq_false c_2)]); try rfl) (by unfold mAccept; (try first | rw [if_pos c_1] | rw [if_neg c_1] | rw [if_neg (ne_true_of_eq_false c_1)]); (try first | rw [if_pos c_2] | rw [if_neg c_2] | rw [if_neg (ne_true_of_eq_false c_2)]); try rfl) (Nat.le_of_ble_eq_true rfl) (Nat.le_of_ble_eq_true rfl) dX3_accept_91
    · skip
      have c_2 := bI_eq0.mp c_2
      refine lv_aload_n hx hb dX3_accept_27 rfl (lv_at hl 0 rfl) ?_
      refine lv_iconst (v := 2) hx hb dX3_accept_28 (by decide) ?_
      refine gx_cM (gx_runV (As := [.int (2)]) (rest := []) ⟨hx, hb, hml, hown, hts⟩ (c_X3_fail l g σ0 w 2 hM) (cwV 1 hts gX3_accept_X3_fail rfl rfl rfl (by decide +kernel) ⟨Nat.le_of_ble_eq_true rfl, Nat.le_of_ble_eq_true rfl⟩) (gx_obj hZ hG 8 0 hM.b8 rfl) hZ hG hS rfl hl.1 rfl (Nat.le_of_ble_eq_true rfl) dX3_accept_29 ⟨Nat.le_of_ble_eq_true rfl, Nat.le_of_ble_eq_true rfl⟩) hS (fun H locs hG hS hsz => ?_)
      exact gx_iretM hx hb hr hlocks hG hS (by unfold mAccept; (try first | rw [if_pos c_1] | rw [if_neg c_1] | rw [if_neg (ne_true_of_eq_false c_1)]); (try first | rw [if_pos c_2] | rw [if_neg c_2] | rw [if_neg (ne_true_of_eq_false c_2)]); try rfl) (by unfold mAccept; (try first | rw [if_pos c_1] | rw [if_neg c_1] | rw [if_neg (ne_true_of_eq_false c_1)]); (try first | rw [if_pos c_2] | rw [if_neg c_2] | rw [if_neg (ne_true_of_eq_false c_2)]); try rfl) (Nat.le_of_ble_eq_true rfl) (Nat.le_of_ble_eq_true rfl) dX3_accept_32
  · skip
    have c_1 := bI_eq0.mp c_1
    refine lv_aload_n hx hb dX3_accept_13 rfl (lv_at hl 0 rfl) ?_
    refine lv_iconst (v := 1) hx hb dX3_accept_14 (by decide) ?_
    refine gx_cM (gx_runV (As := [.int (1)]) (rest := []) ⟨hx, hb, hml, hown, hts⟩ (c_X3_fail l g σ0 w 1 hM) (cwV 1 hts gX3_accept_X3_fail rfl rfl rfl (by decide +kernel) ⟨Nat.le_of_ble_eq_true rfl, Nat.le_of_ble_eq_true rfl⟩) (gx_obj hZ hG 8 0 hM.b8 rfl) hZ hG hS rfl hl.1 rfl (Nat.le_of_ble_eq_true rfl) dX3_accept_15 ⟨Nat.le_of_ble_eq_true rfl, Nat.le_of_ble_eq_true rfl⟩) hS (fun H locs hG hS hsz => ?_)
    exact gx_iretM hx hb hr hlocks hG hS (by unfold mAccept; (try first | rw [if_pos c_1] | rw [if_neg c_1] | rw [if_neg (ne_true_of_eq_false c_1)]); try rfl) (by unfold mAccept; (try first | rw [if_pos c_1] | rw [if_neg c_1] | rw [if_neg (ne_true_of_eq_false c_1)]); try rfl) (Nat.le_of_ble_eq_true rfl) (Nat.le_of_ble_eq_true rfl) dX3_accept_18
set_option maxHeartbeats 4000000 in
set_option maxRecDepth 100000 in
theorem c_X3_refuse (l : Launch) (g : gG) (σ : Mem) (w : Int64) (n : Int32) (hF : Mf g σ) : Met l yX3_refuse wsX3_refuse ({ frames := 4, cells := 0, slots := 0, locals := 96 } : Room) (gPc g σ w [.ref (gad g 8 0), .int (n)]) (gM g g ((mRefuse (gst σ 8 0 0 0) n).2) w (some (.int (mRefuse (gst σ 8 0 0 0) n).1))) 0 0 (gA g) := by
  refine gx_ofW (cc := cX3_refuse) (maxL := 3) (ret := (some .int)) (by decide) rfl (Nat.le_of_ble_eq_true rfl) ?_
  intro p e s m below meth c0 hx hb hr hml hts hown hlocks hin hG hZ hS ls hl
  have hown : s.vm.findClass RX3 = some m.cls := hown
  have hl : lv_has ls 3 [(0, .ref (gad g 8 0)), (1, .int (n))] := hl
  have k1 := hts (.fieldLink RX3 53 "TaxiRankModel" "thrown" "I") (by decide +kernel)
  have k2 := hts (.fieldLink RX3 29 "TaxiRankModel" "orderOf" "[I") (by decide +kernel)
  have hM := hF.1
  have hc10 := hM.c10
  have ho60 := hM.o60
  refine lv_aload_n hx hb dX3_refuse_0 rfl (lv_at hl 0 rfl) ?_
  refine lv_iconst (v := 0) hx hb dX3_refuse_1 (by decide) ?_
  refine gx_put hx hb hown hZ hG hS 8 0 0 (0) hM.b8 rfl (by decide) k1 (fun _ h => h) rfl rfl trivial rfl rfl dX3_refuse_2 (fun H locs hG hS => ?_)
  have hM := hM.st8 (f := 0) (v := 0) rfl
  have hF := hF.thr (v := 0)
  obtain ⟨σ0, hσ0⟩ : ∃ z : Mem, z = gst σ 8 0 0 0 := ⟨_, rfl⟩
  rw [← hσ0] at hG hF
  rw [← hσ0]
  have hM := hF.1
  have hc10 := hM.c10
  have ho60 := hM.o60
  refine lv_aload_n hx hb dX3_refuse_5 rfl (lv_at hl 0 rfl) ?_
  refine lv_iload_n hx hb dX3_refuse_6 rfl (lv_at hl 1 rfl) ?_
  refine gx_cR (gx_runV (As := [.int (n)]) (rest := []) ⟨hx, hb, hml, hown, hts⟩ (c_X3_isCab l g σ0 w n hM) (cwV 1 hts gX3_refuse_X3_isCab rfl rfl rfl (by decide +kernel) ⟨Nat.le_of_ble_eq_true rfl, Nat.le_of_ble_eq_true rfl⟩) (gx_obj hZ hG 8 0 hM.b8 rfl) hZ hG hS rfl hl.1 rfl (Nat.le_of_ble_eq_true rfl) dX3_refuse_7 ⟨Nat.le_of_ble_eq_true rfl, Nat.le_of_ble_eq_true rfl⟩) ?_
  refine lv_if_ne (tgt := 19) hx hb dX3_refuse_10 (by decide) (fun c_1 => ?_) (fun c_1 => ?_)
  · skip
    have c_1 := bI_ne0.mp c_1
    have hcn := hM.isC c_1
    have hcn1 := hcn.1
    rw [hcn.2] at hl
    refine lv_aload_n hx hb dX3_refuse_19 rfl (lv_at hl 0 rfl) ?_
    refine lv_iload_n hx hb dX3_refuse_20 rfl (lv_at hl 1 rfl) ?_
    refine gx_cR (gx_runV (As := [.int (nI (ix n))]) (rest := []) ⟨hx, hb, hml, hown, hts⟩ (c_X3_isOffered l g σ0 w (ix n) hM (by omega)) (cwV 1 hts gX3_refuse_X3_isOffered rfl rfl rfl (by decide +kernel) ⟨Nat.le_of_ble_eq_true rfl, Nat.le_of_ble_eq_true rfl⟩) (gx_obj hZ hG 8 0 hM.b8 rfl) hZ hG hS rfl hl.1 rfl (Nat.le_of_ble_eq_true rfl) dX3_refuse_21 ⟨Nat.le_of_ble_eq_true rfl, Nat.le_of_ble_eq_true rfl⟩) ?_
    refine lv_if_ne (tgt := 33) hx hb dX3_refuse_24 (by decide) (fun c_2 => ?_) (fun c_2 => ?_)
    · skip
      have c_2 := bI_ne0.mp c_2
      refine lv_aload_n hx hb dX3_refuse_33 rfl (lv_at hl 0 rfl) ?_
      refine gx_get hx hb hown hZ hG 8 0 9 hM.b8 rfl (by decide) k2 (fun _ h => h) (v := .ref (gad g 9 4)) (grf_j (hM.rf (f := 9) rfl) (by decide)) dX3_refuse_34 ?_
      refine lv_iload_n hx hb dX3_refuse_37 rfl (lv_at hl 1 rfl) ?_
      refine gx_aldN hx hb hZ hG 9 4 (ix n) (by rfl) (hM.b9 (by decide)) rfl rfl ⟨by rw [hM.lc (i := 4) (by decide) (by decide)]; omega, by omega⟩ (v := .int (σ0 9 4 (ix n))) rfl dX3_refuse_38 ?_
      refine lv_istore_n (lv' := [(2, .int (σ0 9 4 (ix n))), (0, .ref (gad g 8 0)), (1, .int (nI (ix n)))]) hx hb dX3_refuse_39 rfl hl (by decide) rfl (fun ls hl => ?_)
      refine lv_aload_n hx hb dX3_refuse_40 rfl (lv_at hl 1 rfl) ?_
      refine lv_iload_n hx hb dX3_refuse_41 rfl (lv_at hl 2 rfl) ?_
      refine gx_cM (gx_runV (As := [.int (nI (ix n))]) (rest := []) ⟨hx, hb, hml, hown, hts⟩ (c_X3_refused l g σ0 w (ix n) hM (by omega) (hF.2.1 (ix n) (by omega))) (cwV 1 hts gX3_refuse_X3_refused rfl rfl rfl (by decide +kernel) ⟨Nat.le_of_ble_eq_true rfl, Nat.le_of_ble_eq_true rfl⟩) (gx_obj hZ hG 8 0 hM.b8 rfl) hZ hG hS rfl hl.1 rfl (Nat.le_of_ble_eq_true rfl) dX3_refuse_42 ⟨Nat.le_of_ble_eq_true rfl, Nat.le_of_ble_eq_true rfl⟩) hS (fun H locs hG hS hsz => ?_)
      have hM := hM.rfd (c := ix n)
      refine lv_aload_n hx hb dX3_refuse_45 rfl (lv_at hl 1 rfl) ?_
      refine lv_iload_n hx hb dX3_refuse_46 rfl (lv_at hl 2 rfl) ?_
      refine gx_cM (gx_runV (As := [.int (nI (ix n))]) (rest := []) ⟨hx, hb, hml, hown, hts⟩ (c_X3_queueUp l g (mRfd σ0 (ix n)) w (ix n) hM (by omega)) (cwV 1 hts gX3_refuse_X3_queueUp rfl rfl rfl (by decide +kernel) ⟨Nat.le_of_ble_eq_true rfl, Nat.le_of_ble_eq_true rfl⟩) (gx_obj hZ hG 8 0 hM.b8 rfl) hZ hG hS rfl hl.1 rfl (Nat.le_of_ble_eq_true rfl) dX3_refuse_47 ⟨Nat.le_of_ble_eq_true rfl, Nat.le_of_ble_eq_true rfl⟩) hS (fun H locs hG hS hsz => ?_)
      have hM := hM.qup (c := ix n)
      refine lv_aload_n hx hb dX3_refuse_50 rfl (lv_at hl 1 rfl) ?_
      refine gx_cM (gx_runV (As := []) (rest := []) ⟨hx, hb, hml, hown, hts⟩ (c_X3_offerAll l g (mQup (mRfd σ0 (ix n)) (ix n)) w hM) (cwV 0 hts gX3_refuse_X3_offerAll rfl rfl rfl (by decide +kernel) ⟨Nat.le_of_ble_eq_true rfl, Nat.le_of_ble_eq_true rfl⟩) (gx_obj hZ hG 8 0 hM.b8 rfl) hZ hG hS rfl hl.1 rfl (Nat.le_of_ble_eq_true rfl) dX3_refuse_51 ⟨Nat.le_of_ble_eq_true rfl, Nat.le_of_ble_eq_true rfl⟩) hS (fun H locs hG hS hsz => ?_)
      refine lv_iload_n hx hb dX3_refuse_54 rfl (lv_at hl 0 rfl) ?_
      exact gx_iretM hx hb hr hlocks hG hS (by unfold mRefuse; (try first | rw [if_pos c_1] | rw [if_neg c_1] | rw [if_neg (ne_true_of_eq_false c_1)]); (try first | rw [if_pos c_2] | rw [if_neg c_2] | rw [if_neg (ne_true_of_eq_false c_2)]); try rfl) (by unfold mRefuse; (try first | rw [if_pos c_1] | rw [if_neg c_1] | rw [if_neg (ne_true_of_eq_false c_1)]); (try first | rw [if_pos c_2] | rw [if_neg c_2] | rw [if_neg (ne_true_of_eq_false c_2)]); try rfl) (Nat.le_of_ble_eq_true rfl) (Nat.le_of_ble_eq_true rfl) dX3_refuse_55
    · skip
      have c_2 := bI_eq0.mp c_2
      refine lv_aload_n hx hb dX3_refuse_27 rfl (lv_at hl 0 rfl) ?_
      refine lv_iconst (v := 2) hx hb dX3_refuse_28 (by decide) ?_
      refine gx_cM (gx_runV (As := [.int (2)]) (rest := []) ⟨hx, hb, hml, hown, hts⟩ (c_X3_fail l g σ0 w 2 hM) (cwV 1 hts gX3_refuse_X3_fail rfl rfl rfl (by decide +kernel) ⟨Nat.le_of_ble_eq_true rfl, Nat.le_of_ble_eq_true rfl⟩) (gx_obj hZ hG 8 0 hM.b8 rfl) hZ hG hS rfl hl.1 rfl (Nat.le_of_ble_eq_true rfl) dX3_refuse_29 ⟨Nat.le_of_ble_eq_true rfl, Nat.le_of_ble_eq_true rfl⟩) hS (fun H locs hG hS hsz => ?_)
      exact gx_iretM hx hb hr hlocks hG hS (by unfold mRefuse; (try first | rw [if_pos c_1] | rw [if_neg c_1] | rw [if_neg (ne_true_of_eq_false c_1)]); (try first | rw [if_pos c_2] | rw [if_neg c_2] | rw [if_neg (ne_true_of_eq_false c_2)]); try rfl) (by unfold mRefuse; (try first | rw [if_pos c_1] | rw [if_neg c_1] | rw [if_neg (ne_true_of_eq_false c_1)]); (try first | rw [if_pos c_2] | rw [if_neg c_2] | rw [if_neg (ne_true_of_eq_false c_2)]); try rfl) (Nat.le_of_ble_eq_true rfl) (Nat.le_of_ble_eq_true rfl) dX3_refuse_32
  · skip
    have c_1 := bI_eq0.mp c_1
    refine lv_aload_n hx hb dX3_refuse_13 rfl (lv_at hl 0 rfl) ?_
    refine lv_iconst (v := 1) hx hb dX3_refuse_14 (by decide) ?_
    refine gx_cM (gx_runV (As := [.int (1)]) (rest := []) ⟨hx, hb, hml, hown, hts⟩ (c_X3_fail l g σ0 w 1 hM) (cwV 1 hts gX3_refuse_X3_fail rfl rfl rfl (by decide +kernel) ⟨Nat.le_of_ble_eq_true rfl, Nat.le_of_ble_eq_true rfl⟩) (gx_obj hZ hG 8 0 hM.b8 rfl) hZ hG hS rfl hl.1 rfl (Nat.le_of_ble_eq_true rfl) dX3_refuse_15 ⟨Nat.le_of_ble_eq_true rfl, Nat.le_of_ble_eq_true rfl⟩) hS (fun H locs hG hS hsz => ?_)
    exact gx_iretM hx hb hr hlocks hG hS (by unfold mRefuse; (try first | rw [if_pos c_1] | rw [if_neg c_1] | rw [if_neg (ne_true_of_eq_false c_1)]); try rfl) (by unfold mRefuse; (try first | rw [if_pos c_1] | rw [if_neg c_1] | rw [if_neg (ne_true_of_eq_false c_1)]); try rfl) (Nat.le_of_ble_eq_true rfl) (Nat.le_of_ble_eq_true rfl) dX3_refuse_18
set_option maxHeartbeats 4000000 in
set_option maxRecDepth 100000 in
theorem c_X3_cancel (l : Launch) (g : gG) (σ : Mem) (w : Int64) (n : Int32) (hF : Mf g σ) (hca : ∀ o, o < 60 → mT σ o 4 = 1 ∨ mT σ o 4 = 2 → ∃ c, c < 10 ∧ mT σ o 5 = nI c) : Met l yX3_cancel wsX3_cancel ({ frames := 4, cells := 0, slots := 0, locals := 97 } : Room) (gPc g σ w [.ref (gad g 8 0), .int (n)]) (gM g g ((mCancel (gst σ 8 0 0 0) n).2) w (some (.int (mCancel (gst σ 8 0 0 0) n).1))) 0 0 (gA g) := by
  refine gx_ofW (cc := cX3_cancel) (maxL := 4) (ret := (some .int)) (by decide) rfl (Nat.le_of_ble_eq_true rfl) ?_
  intro p e s m below meth c0 hx hb hr hml hts hown hlocks hin hG hZ hS ls hl
  have hown : s.vm.findClass RX3 = some m.cls := hown
  have hl : lv_has ls 4 [(0, .ref (gad g 8 0)), (1, .int (n))] := hl
  have k1 := hts (.fieldLink RX3 53 "TaxiRankModel" "thrown" "I") (by decide +kernel)
  have k2 := hts (.fieldLink RX3 23 "TaxiRankModel" "zones" "[I") (by decide +kernel)
  have k3 := hts (.fieldLink RX3 29 "TaxiRankModel" "orderOf" "[I") (by decide +kernel)
  have hM := hF.1
  have hc10 := hM.c10
  have ho60 := hM.o60
  refine lv_aload_n hx hb dX3_cancel_0 rfl (lv_at hl 0 rfl) ?_
  refine lv_iconst (v := 0) hx hb dX3_cancel_1 (by decide) ?_
  refine gx_put hx hb hown hZ hG hS 8 0 0 (0) hM.b8 rfl (by decide) k1 (fun _ h => h) rfl rfl trivial rfl rfl dX3_cancel_2 (fun H locs hG hS => ?_)
  have hM := hM.st8 (f := 0) (v := 0) rfl
  have hF := hF.thr (v := 0)
  obtain ⟨σ0, hσ0⟩ : ∃ z : Mem, z = gst σ 8 0 0 0 := ⟨_, rfl⟩
  rw [← hσ0] at hG hF
  rw [← hσ0]
  have hM := hF.1
  have hc10 := hM.c10
  have ho60 := hM.o60
  refine lv_aload_n hx hb dX3_cancel_5 rfl (lv_at hl 0 rfl) ?_
  refine lv_iload_n hx hb dX3_cancel_6 rfl (lv_at hl 1 rfl) ?_
  refine gx_cR (gx_runV (As := [.int (n)]) (rest := []) ⟨hx, hb, hml, hown, hts⟩ (c_X3_isOrder l g σ0 w n hM) (cwV 1 hts gX3_cancel_X3_isOrder rfl rfl rfl (by decide +kernel) ⟨Nat.le_of_ble_eq_true rfl, Nat.le_of_ble_eq_true rfl⟩) (gx_obj hZ hG 8 0 hM.b8 rfl) hZ hG hS rfl hl.1 rfl (Nat.le_of_ble_eq_true rfl) dX3_cancel_7 ⟨Nat.le_of_ble_eq_true rfl, Nat.le_of_ble_eq_true rfl⟩) ?_
  refine lv_if_ne (tgt := 19) hx hb dX3_cancel_10 (by decide) (fun c_1 => ?_) (fun c_1 => ?_)
  · skip
    have c_1 := bI_ne0.mp c_1
    have hcn := hM.isO c_1
    have hcn1 := hcn.1
    rw [hcn.2] at hl
    refine lv_aload_n hx hb dX3_cancel_19 rfl (lv_at hl 0 rfl) ?_
    refine lv_iload_n hx hb dX3_cancel_20 rfl (lv_at hl 1 rfl) ?_
    refine gx_cR (gx_runV (As := [.int (nI (ix n))]) (rest := []) ⟨hx, hb, hml, hown, hts⟩ (c_X3_state l g σ0 w (ix n) hM (by omega)) (cwV 1 hts gX3_cancel_X3_state rfl rfl rfl (by decide +kernel) ⟨Nat.le_of_ble_eq_true rfl, Nat.le_of_ble_eq_true rfl⟩) (gx_obj hZ hG 8 0 hM.b8 rfl) hZ hG hS rfl hl.1 rfl (Nat.le_of_ble_eq_true rfl) dX3_cancel_21 ⟨Nat.le_of_ble_eq_true rfl, Nat.le_of_ble_eq_true rfl⟩) ?_
    refine lv_istore_n (lv' := [(2, .int (mT σ0 (ix n) 4)), (0, .ref (gad g 8 0)), (1, .int (nI (ix n)))]) hx hb dX3_cancel_24 rfl hl (by decide) rfl (fun ls hl => ?_)
    refine lv_iload_n hx hb dX3_cancel_25 rfl (lv_at hl 0 rfl) ?_
    refine lv_iconst (v := 2) hx hb dX3_cancel_26 (by decide) ?_
    refine lv_icmp_le (tgt := 36) hx hb dX3_cancel_27 (by decide) (fun c_2 => ?_) (fun c_2 => ?_)
    · skip
      have hcc9 : mT σ0 (ix n) 4 = 1 ∨ mT σ0 (ix n) 4 = 2 → ix (mT σ0 (ix n) 5) < 10 ∧ mT σ0 (ix n) 5 = nI (ix (mT σ0 (ix n) 5)) := fun z => by
        obtain ⟨c, hc, e⟩ := hca (ix n) (by omega) (by rw [hσ0] at z; exact z)
        have e : mT σ0 (ix n) 5 = nI c := by rw [hσ0]; exact e
        rw [e, ix_nI (by omega)]; exact ⟨hc, rfl⟩
      refine lv_aload_n hx hb dX3_cancel_36 rfl (lv_at hl 1 rfl) ?_
      refine lv_iload_n hx hb dX3_cancel_37 rfl (lv_at hl 2 rfl) ?_
      refine lv_iconst (v := 5) hx hb dX3_cancel_38 (by decide) ?_
      refine gx_cR (gx_runV (As := [.int (nI (ix n)), .int (5)]) (rest := []) ⟨hx, hb, hml, hown, hts⟩ (c_X3_get l g σ0 w (ix n) 5 hM (by omega) (by decide)) (cwV 2 hts gX3_cancel_X3_get rfl rfl rfl (by decide +kernel) ⟨Nat.le_of_ble_eq_true rfl, Nat.le_of_ble_eq_true rfl⟩) (gx_obj hZ hG 8 0 hM.b8 rfl) hZ hG hS rfl hl.1 rfl (Nat.le_of_ble_eq_true rfl) dX3_cancel_39 ⟨Nat.le_of_ble_eq_true rfl, Nat.le_of_ble_eq_true rfl⟩) ?_
      refine lv_istore_n (lv' := [(3, .int (mT σ0 (ix n) 5)), (2, .int (mT σ0 (ix n) 4)), (0, .ref (gad g 8 0)), (1, .int (nI (ix n)))]) hx hb dX3_cancel_42 rfl hl (by decide) rfl (fun ls hl => ?_)
      refine lv_iload_n hx hb dX3_cancel_43 rfl (lv_at hl 1 rfl) ?_
      refine lv_iconst (v := 1) hx hb dX3_cancel_44 (by decide) ?_
      refine lv_icmp_ne (tgt := 55) hx hb dX3_cancel_45 (by decide) (fun c_3 => ?_) (fun c_3 => ?_)
      · skip
        refine lv_iload_n hx hb dX3_cancel_55 rfl (lv_at hl 1 rfl) ?_
        refine lv_iconst (v := 2) hx hb dX3_cancel_56 (by decide) ?_
        refine lv_icmp_ne (tgt := 71) hx hb dX3_cancel_57 (by decide) (fun c_4 => ?_) (fun c_4 => ?_)
        · skip
          refine lv_aload_n hx hb dX3_cancel_71 rfl (lv_at hl 2 rfl) ?_
          refine lv_iload_n hx hb dX3_cancel_72 rfl (lv_at hl 3 rfl) ?_
          refine lv_iconst (v := 4) hx hb dX3_cancel_73 (by decide) ?_
          refine lv_iconst (v := 5) hx hb dX3_cancel_74 (by decide) ?_
          refine gx_cM (gx_runV (As := [.int (nI (ix n)), .int (4), .int (5)]) (rest := []) ⟨hx, hb, hml, hown, hts⟩ (c_X3_set l g σ0 w (ix n) 4 5 hM (by omega) (by decide)) (cwV 3 hts gX3_cancel_X3_set rfl rfl rfl (by decide +kernel) ⟨Nat.le_of_ble_eq_true rfl, Nat.le_of_ble_eq_true rfl⟩) (gx_obj hZ hG 8 0 hM.b8 rfl) hZ hG hS rfl hl.1 rfl (Nat.le_of_ble_eq_true rfl) dX3_cancel_75 ⟨Nat.le_of_ble_eq_true rfl, Nat.le_of_ble_eq_true rfl⟩) hS (fun H locs hG hS hsz => ?_)
          have hM := hM.stT (o := ix n) (k := 4) (v := 5) (by decide)
          refine lv_aload_n hx hb dX3_cancel_78 rfl (lv_at hl 2 rfl) ?_
          refine lv_iload_n hx hb dX3_cancel_79 rfl (lv_at hl 3 rfl) ?_
          refine lv_iconst (v := 5) hx hb dX3_cancel_80 (by decide) ?_
          refine lv_iconst (v := (-1)) hx hb dX3_cancel_81 (by decide) ?_
          refine gx_cM (gx_runV (As := [.int (nI (ix n)), .int (5), .int (-1)]) (rest := []) ⟨hx, hb, hml, hown, hts⟩ (c_X3_set l g (gst σ0 9 9 (8 * (ix n) + 4) 5) w (ix n) 5 (-1) hM (by omega) (by decide)) (cwV 3 hts gX3_cancel_X3_set rfl rfl rfl (by decide +kernel) ⟨Nat.le_of_ble_eq_true rfl, Nat.le_of_ble_eq_true rfl⟩) (gx_obj hZ hG 8 0 hM.b8 rfl) hZ hG hS rfl hl.1 rfl (Nat.le_of_ble_eq_true rfl) dX3_cancel_82 ⟨Nat.le_of_ble_eq_true rfl, Nat.le_of_ble_eq_true rfl⟩) hS (fun H locs hG hS hsz => ?_)
          have hM := hM.stT (o := ix n) (k := 5) (v := -1) (by decide)
          refine lv_aload_n hx hb dX3_cancel_85 rfl (lv_at hl 2 rfl) ?_
          refine gx_cM (gx_runV (As := []) (rest := []) ⟨hx, hb, hml, hown, hts⟩ (c_X3_offerAll l g (gst (gst σ0 9 9 (8 * (ix n) + 4) 5) 9 9 (8 * (ix n) + 5) (-1)) w hM) (cwV 0 hts gX3_cancel_X3_offerAll rfl rfl rfl (by decide +kernel) ⟨Nat.le_of_ble_eq_true rfl, Nat.le_of_ble_eq_true rfl⟩) (gx_obj hZ hG 8 0 hM.b8 rfl) hZ hG hS rfl hl.1 rfl (Nat.le_of_ble_eq_true rfl) dX3_cancel_86 ⟨Nat.le_of_ble_eq_true rfl, Nat.le_of_ble_eq_true rfl⟩) hS (fun H locs hG hS hsz => ?_)
          refine lv_iload_n hx hb dX3_cancel_89 rfl (lv_at hl 1 rfl) ?_
          exact gx_iretM hx hb hr hlocks hG hS (by unfold mCancel; (try first | rw [if_pos c_1] | rw [if_neg c_1] | rw [if_neg (ne_true_of_eq_false c_1)]); (try first | rw [if_pos c_2] | rw [if_neg c_2] | rw [if_neg (ne_true_of_eq_false c_2)]); (try first | rw [if_pos c_3] | rw [if_neg c_3] | rw [if_neg (ne_true_of_eq_false c_3)]); (try first | rw [if_pos c_4] | rw [if_neg c_4] | rw [if_neg (ne_true_of_eq_false c_4)]); try rfl) (by unfold mCancel mCan2 mCan1; (try first | rw [if_pos c_1] | rw [if_neg c_1] | rw [if_neg (ne_true_of_eq_false c_1)]); (try first | rw [if_pos c_2] | rw [if_neg c_2] | rw [if_neg (ne_true_of_eq_false c_2)]); (try first | rw [if_pos c_3] | rw [if_neg c_3] | rw [if_neg (ne_true_of_eq_false c_3)]); (try first | rw [if_pos c_4] | rw [if_neg c_4] | rw [if_neg (ne_true_of_eq_false c_4)]); try rfl) (Nat.le_of_ble_eq_true rfl) (Nat.le_of_ble_eq_true rfl) dX3_cancel_90
        · skip
          have hcc := hcc9 (Or.inr c_4)
          rw [hcc.2] at hl
          refine lv_aload_n hx hb dX3_cancel_60 rfl (lv_at hl 2 rfl) ?_
          refine lv_iload_n hx hb dX3_cancel_61 rfl (lv_at hl 0 rfl) ?_
          refine lv_aload_n hx hb dX3_cancel_62 rfl (lv_at hl 2 rfl) ?_
          refine gx_get hx hb hown hZ hG 8 0 7 hM.b8 rfl (by decide) k2 (fun _ h => h) (v := .ref (gad g 9 2)) (grf_j (hM.rf (f := 7) rfl) (by decide)) dX3_cancel_63 ?_
          refine lv_iload_n hx hb dX3_cancel_66 rfl (lv_at hl 0 rfl) ?_
          refine gx_aldN hx hb hZ hG 9 2 (ix (mT σ0 (ix n) 5)) (by rfl) (hM.b9 (by decide)) rfl rfl ⟨by rw [hM.lc (i := 2) (by decide) (by decide)]; omega, by omega⟩ (v := .int (σ0 9 2 (ix (mT σ0 (ix n) 5)))) rfl dX3_cancel_67 ?_
          refine gx_cM (gx_runV (As := [.int (nI (ix (mT σ0 (ix n) 5))), .int (σ0 9 2 (ix (mT σ0 (ix n) 5)))]) (rest := []) ⟨hx, hb, hml, hown, hts⟩ (c_X3_free l g σ0 w (ix (mT σ0 (ix n) 5)) (σ0 9 2 (ix (mT σ0 (ix n) 5))) hM hcc.1 (hM.z hcc.1)) (cwV 2 hts gX3_cancel_X3_free rfl rfl rfl (by decide +kernel) ⟨Nat.le_of_ble_eq_true rfl, Nat.le_of_ble_eq_true rfl⟩) (gx_obj hZ hG 8 0 hM.b8 rfl) hZ hG hS rfl hl.1 rfl (Nat.le_of_ble_eq_true rfl) dX3_cancel_68 ⟨Nat.le_of_ble_eq_true rfl, Nat.le_of_ble_eq_true rfl⟩) hS (fun H locs hG hS hsz => ?_)
          have hM := hM.free (c := ix (mT σ0 (ix n) 5)) (z := σ0 9 2 (ix (mT σ0 (ix n) 5))) (hM.z hcc.1)
          refine lv_aload_n hx hb dX3_cancel_71 rfl (lv_at hl 2 rfl) ?_
          refine lv_iload_n hx hb dX3_cancel_72 rfl (lv_at hl 3 rfl) ?_
          refine lv_iconst (v := 4) hx hb dX3_cancel_73 (by decide) ?_
          refine lv_iconst (v := 5) hx hb dX3_cancel_74 (by decide) ?_
          refine gx_cM (gx_runV (As := [.int (nI (ix n)), .int (4), .int (5)]) (rest := []) ⟨hx, hb, hml, hown, hts⟩ (c_X3_set l g (mFree (σ0) (ix (mT σ0 (ix n) 5)) (σ0 9 2 (ix (mT σ0 (ix n) 5)))) w (ix n) 4 5 hM (by omega) (by decide)) (cwV 3 hts gX3_cancel_X3_set rfl rfl rfl (by decide +kernel) ⟨Nat.le_of_ble_eq_true rfl, Nat.le_of_ble_eq_true rfl⟩) (gx_obj hZ hG 8 0 hM.b8 rfl) hZ hG hS rfl hl.1 rfl (Nat.le_of_ble_eq_true rfl) dX3_cancel_75 ⟨Nat.le_of_ble_eq_true rfl, Nat.le_of_ble_eq_true rfl⟩) hS (fun H locs hG hS hsz => ?_)
          have hM := hM.stT (o := ix n) (k := 4) (v := 5) (by decide)
          refine lv_aload_n hx hb dX3_cancel_78 rfl (lv_at hl 2 rfl) ?_
          refine lv_iload_n hx hb dX3_cancel_79 rfl (lv_at hl 3 rfl) ?_
          refine lv_iconst (v := 5) hx hb dX3_cancel_80 (by decide) ?_
          refine lv_iconst (v := (-1)) hx hb dX3_cancel_81 (by decide) ?_
          refine gx_cM (gx_runV (As := [.int (nI (ix n)), .int (5), .int (-1)]) (rest := []) ⟨hx, hb, hml, hown, hts⟩ (c_X3_set l g (gst (mFree (σ0) (ix (mT σ0 (ix n) 5)) (σ0 9 2 (ix (mT σ0 (ix n) 5)))) 9 9 (8 * (ix n) + 4) 5) w (ix n) 5 (-1) hM (by omega) (by decide)) (cwV 3 hts gX3_cancel_X3_set rfl rfl rfl (by decide +kernel) ⟨Nat.le_of_ble_eq_true rfl, Nat.le_of_ble_eq_true rfl⟩) (gx_obj hZ hG 8 0 hM.b8 rfl) hZ hG hS rfl hl.1 rfl (Nat.le_of_ble_eq_true rfl) dX3_cancel_82 ⟨Nat.le_of_ble_eq_true rfl, Nat.le_of_ble_eq_true rfl⟩) hS (fun H locs hG hS hsz => ?_)
          have hM := hM.stT (o := ix n) (k := 5) (v := -1) (by decide)
          refine lv_aload_n hx hb dX3_cancel_85 rfl (lv_at hl 2 rfl) ?_
          refine gx_cM (gx_runV (As := []) (rest := []) ⟨hx, hb, hml, hown, hts⟩ (c_X3_offerAll l g (gst (gst (mFree (σ0) (ix (mT σ0 (ix n) 5)) (σ0 9 2 (ix (mT σ0 (ix n) 5)))) 9 9 (8 * (ix n) + 4) 5) 9 9 (8 * (ix n) + 5) (-1)) w hM) (cwV 0 hts gX3_cancel_X3_offerAll rfl rfl rfl (by decide +kernel) ⟨Nat.le_of_ble_eq_true rfl, Nat.le_of_ble_eq_true rfl⟩) (gx_obj hZ hG 8 0 hM.b8 rfl) hZ hG hS rfl hl.1 rfl (Nat.le_of_ble_eq_true rfl) dX3_cancel_86 ⟨Nat.le_of_ble_eq_true rfl, Nat.le_of_ble_eq_true rfl⟩) hS (fun H locs hG hS hsz => ?_)
          refine lv_iload_n hx hb dX3_cancel_89 rfl (lv_at hl 1 rfl) ?_
          exact gx_iretM hx hb hr hlocks hG hS (by unfold mCancel; (try first | rw [if_pos c_1] | rw [if_neg c_1] | rw [if_neg (ne_true_of_eq_false c_1)]); (try first | rw [if_pos c_2] | rw [if_neg c_2] | rw [if_neg (ne_true_of_eq_false c_2)]); (try first | rw [if_pos c_3] | rw [if_neg c_3] | rw [if_neg (ne_true_of_eq_false c_3)]); (try first | rw [if_pos c_4] | rw [if_neg c_4] | rw [if_neg (ne_true_of_eq_false c_4)]); try rfl) (by unfold mCancel mCan2 mCan1; (try first | rw [if_pos c_1] | rw [if_neg c_1] | rw [if_neg (ne_true_of_eq_false c_1)]); (try first | rw [if_pos c_2] | rw [if_neg c_2] | rw [if_neg (ne_true_of_eq_false c_2)]); (try first | rw [if_pos c_3] | rw [if_neg c_3] | rw [if_neg (ne_true_of_eq_false c_3)]); (try first | rw [if_pos c_4] | rw [if_neg c_4] | rw [if_neg (ne_true_of_eq_false c_4)]); try rfl) (Nat.le_of_ble_eq_true rfl) (Nat.le_of_ble_eq_true rfl) dX3_cancel_90
      · skip
        have hcc := hcc9 (Or.inl c_3)
        rw [hcc.2] at hl
        refine lv_aload_n hx hb dX3_cancel_48 rfl (lv_at hl 2 rfl) ?_
        refine gx_get hx hb hown hZ hG 8 0 9 hM.b8 rfl (by decide) k3 (fun _ h => h) (v := .ref (gad g 9 4)) (grf_j (hM.rf (f := 9) rfl) (by decide)) dX3_cancel_49 ?_
        refine lv_iload_n hx hb dX3_cancel_52 rfl (lv_at hl 0 rfl) ?_
        refine lv_iconst (v := (-1)) hx hb dX3_cancel_53 (by decide) ?_
        refine gx_astN hx hb hZ hG hS 9 4 (ix (mT σ0 (ix n) 5)) (by rfl) (hM.b9 (by decide)) rfl rfl ⟨by rw [hM.lc (i := 4) (by decide) (by decide)]; omega, by omega⟩ rfl trivial dX3_cancel_54 (fun H locs hG hS => ?_)
        have hM := hM.st9 (i := 4) (f := ix (mT σ0 (ix n) 5)) (v := -1) (by decide)
        refine lv_iload_n hx hb dX3_cancel_55 rfl (lv_at hl 1 rfl) ?_
        refine lv_iconst (v := 2) hx hb dX3_cancel_56 (by decide) ?_
        refine lv_icmp_ne (tgt := 71) hx hb dX3_cancel_57 (by decide) (fun c_5 => ?_) (fun c_5 => ?_)
        · skip
          refine lv_aload_n hx hb dX3_cancel_71 rfl (lv_at hl 2 rfl) ?_
          refine lv_iload_n hx hb dX3_cancel_72 rfl (lv_at hl 3 rfl) ?_
          refine lv_iconst (v := 4) hx hb dX3_cancel_73 (by decide) ?_
          refine lv_iconst (v := 5) hx hb dX3_cancel_74 (by decide) ?_
          refine gx_cM (gx_runV (As := [.int (nI (ix n)), .int (4), .int (5)]) (rest := []) ⟨hx, hb, hml, hown, hts⟩ (c_X3_set l g (gst σ0 9 4 (ix (mT σ0 (ix n) 5)) (-1)) w (ix n) 4 5 hM (by omega) (by decide)) (cwV 3 hts gX3_cancel_X3_set rfl rfl rfl (by decide +kernel) ⟨Nat.le_of_ble_eq_true rfl, Nat.le_of_ble_eq_true rfl⟩) (gx_obj hZ hG 8 0 hM.b8 rfl) hZ hG hS rfl hl.1 rfl (Nat.le_of_ble_eq_true rfl) dX3_cancel_75 ⟨Nat.le_of_ble_eq_true rfl, Nat.le_of_ble_eq_true rfl⟩) hS (fun H locs hG hS hsz => ?_)
          have hM := hM.stT (o := ix n) (k := 4) (v := 5) (by decide)
          refine lv_aload_n hx hb dX3_cancel_78 rfl (lv_at hl 2 rfl) ?_
          refine lv_iload_n hx hb dX3_cancel_79 rfl (lv_at hl 3 rfl) ?_
          refine lv_iconst (v := 5) hx hb dX3_cancel_80 (by decide) ?_
          refine lv_iconst (v := (-1)) hx hb dX3_cancel_81 (by decide) ?_
          refine gx_cM (gx_runV (As := [.int (nI (ix n)), .int (5), .int (-1)]) (rest := []) ⟨hx, hb, hml, hown, hts⟩ (c_X3_set l g (gst (gst σ0 9 4 (ix (mT σ0 (ix n) 5)) (-1)) 9 9 (8 * (ix n) + 4) 5) w (ix n) 5 (-1) hM (by omega) (by decide)) (cwV 3 hts gX3_cancel_X3_set rfl rfl rfl (by decide +kernel) ⟨Nat.le_of_ble_eq_true rfl, Nat.le_of_ble_eq_true rfl⟩) (gx_obj hZ hG 8 0 hM.b8 rfl) hZ hG hS rfl hl.1 rfl (Nat.le_of_ble_eq_true rfl) dX3_cancel_82 ⟨Nat.le_of_ble_eq_true rfl, Nat.le_of_ble_eq_true rfl⟩) hS (fun H locs hG hS hsz => ?_)
          have hM := hM.stT (o := ix n) (k := 5) (v := -1) (by decide)
          refine lv_aload_n hx hb dX3_cancel_85 rfl (lv_at hl 2 rfl) ?_
          refine gx_cM (gx_runV (As := []) (rest := []) ⟨hx, hb, hml, hown, hts⟩ (c_X3_offerAll l g (gst (gst (gst σ0 9 4 (ix (mT σ0 (ix n) 5)) (-1)) 9 9 (8 * (ix n) + 4) 5) 9 9 (8 * (ix n) + 5) (-1)) w hM) (cwV 0 hts gX3_cancel_X3_offerAll rfl rfl rfl (by decide +kernel) ⟨Nat.le_of_ble_eq_true rfl, Nat.le_of_ble_eq_true rfl⟩) (gx_obj hZ hG 8 0 hM.b8 rfl) hZ hG hS rfl hl.1 rfl (Nat.le_of_ble_eq_true rfl) dX3_cancel_86 ⟨Nat.le_of_ble_eq_true rfl, Nat.le_of_ble_eq_true rfl⟩) hS (fun H locs hG hS hsz => ?_)
          refine lv_iload_n hx hb dX3_cancel_89 rfl (lv_at hl 1 rfl) ?_
          exact gx_iretM hx hb hr hlocks hG hS (by unfold mCancel; (try first | rw [if_pos c_1] | rw [if_neg c_1] | rw [if_neg (ne_true_of_eq_false c_1)]); (try first | rw [if_pos c_2] | rw [if_neg c_2] | rw [if_neg (ne_true_of_eq_false c_2)]); (try first | rw [if_pos c_3] | rw [if_neg c_3] | rw [if_neg (ne_true_of_eq_false c_3)]); (try first | rw [if_pos c_5] | rw [if_neg c_5] | rw [if_neg (ne_true_of_eq_false c_5)]); try rfl) (by unfold mCancel mCan2 mCan1; (try first | rw [if_pos c_1] | rw [if_neg c_1] | rw [if_neg (ne_true_of_eq_false c_1)]); (try first | rw [if_pos c_2] | rw [if_neg c_2] | rw [if_neg (ne_true_of_eq_false c_2)]); (try first | rw [if_pos c_3] | rw [if_neg c_3] | rw [if_neg (ne_true_of_eq_false c_3)]); (try first | rw [if_pos c_5] | rw [if_neg c_5] | rw [if_neg (ne_true_of_eq_false c_5)]); try rfl) (Nat.le_of_ble_eq_true rfl) (Nat.le_of_ble_eq_true rfl) dX3_cancel_90
        · skip
          exact absurd (c_3.symm.trans c_5) (by decide)
    · skip
      refine lv_aload_n hx hb dX3_cancel_30 rfl (lv_at hl 1 rfl) ?_
      refine lv_iconst (v := 2) hx hb dX3_cancel_31 (by decide) ?_
      refine gx_cM (gx_runV (As := [.int (2)]) (rest := []) ⟨hx, hb, hml, hown, hts⟩ (c_X3_fail l g σ0 w 2 hM) (cwV 1 hts gX3_cancel_X3_fail rfl rfl rfl (by decide +kernel) ⟨Nat.le_of_ble_eq_true rfl, Nat.le_of_ble_eq_true rfl⟩) (gx_obj hZ hG 8 0 hM.b8 rfl) hZ hG hS rfl hl.1 rfl (Nat.le_of_ble_eq_true rfl) dX3_cancel_32 ⟨Nat.le_of_ble_eq_true rfl, Nat.le_of_ble_eq_true rfl⟩) hS (fun H locs hG hS hsz => ?_)
      exact gx_iretM hx hb hr hlocks hG hS (by unfold mCancel; (try first | rw [if_pos c_1] | rw [if_neg c_1] | rw [if_neg (ne_true_of_eq_false c_1)]); (try first | rw [if_pos c_2] | rw [if_neg c_2] | rw [if_neg (ne_true_of_eq_false c_2)]); try rfl) (by unfold mCancel mCan2 mCan1; (try first | rw [if_pos c_1] | rw [if_neg c_1] | rw [if_neg (ne_true_of_eq_false c_1)]); (try first | rw [if_pos c_2] | rw [if_neg c_2] | rw [if_neg (ne_true_of_eq_false c_2)]); try rfl) (Nat.le_of_ble_eq_true rfl) (Nat.le_of_ble_eq_true rfl) dX3_cancel_35
  · skip
    have c_1 := bI_eq0.mp c_1
    refine lv_aload_n hx hb dX3_cancel_13 rfl (lv_at hl 0 rfl) ?_
    refine lv_iconst (v := 1) hx hb dX3_cancel_14 (by decide) ?_
    refine gx_cM (gx_runV (As := [.int (1)]) (rest := []) ⟨hx, hb, hml, hown, hts⟩ (c_X3_fail l g σ0 w 1 hM) (cwV 1 hts gX3_cancel_X3_fail rfl rfl rfl (by decide +kernel) ⟨Nat.le_of_ble_eq_true rfl, Nat.le_of_ble_eq_true rfl⟩) (gx_obj hZ hG 8 0 hM.b8 rfl) hZ hG hS rfl hl.1 rfl (Nat.le_of_ble_eq_true rfl) dX3_cancel_15 ⟨Nat.le_of_ble_eq_true rfl, Nat.le_of_ble_eq_true rfl⟩) hS (fun H locs hG hS hsz => ?_)
    exact gx_iretM hx hb hr hlocks hG hS (by unfold mCancel; (try first | rw [if_pos c_1] | rw [if_neg c_1] | rw [if_neg (ne_true_of_eq_false c_1)]); try rfl) (by unfold mCancel mCan2 mCan1; (try first | rw [if_pos c_1] | rw [if_neg c_1] | rw [if_neg (ne_true_of_eq_false c_1)]); try rfl) (Nat.le_of_ble_eq_true rfl) (Nat.le_of_ble_eq_true rfl) dX3_cancel_18
set_option maxHeartbeats 4000000 in
set_option maxRecDepth 100000 in
theorem c_X3_told (l : Launch) (g : gG) (σ : Mem) (w : Int64) (n x : Int32) (hF : Mf g σ) : Met l yX3_told wsX3_told ({ frames := 2, cells := 0, slots := 0, locals := 46 } : Room) (gPc g σ w [.ref (gad g 8 0), .int (n), .int (x)]) (gM g g ((mTold (gst σ 8 0 0 0) n x).2) w (some (.int (mTold (gst σ 8 0 0 0) n x).1))) 0 0 (gA g) := by
  refine gx_ofW (cc := cX3_told) (maxL := 3) (ret := (some .int)) (by decide) rfl (Nat.le_of_ble_eq_true rfl) ?_
  intro p e s m below meth c0 hx hb hr hml hts hown hlocks hin hG hZ hS ls hl
  have hown : s.vm.findClass RX3 = some m.cls := hown
  have hl : lv_has ls 3 [(0, .ref (gad g 8 0)), (1, .int (n)), (2, .int (x))] := hl
  have k1 := hts (.fieldLink RX3 53 "TaxiRankModel" "thrown" "I") (by decide +kernel)
  have hM := hF.1
  have hc10 := hM.c10
  have ho60 := hM.o60
  refine lv_aload_n hx hb dX3_told_0 rfl (lv_at hl 0 rfl) ?_
  refine lv_iconst (v := 0) hx hb dX3_told_1 (by decide) ?_
  refine gx_put hx hb hown hZ hG hS 8 0 0 (0) hM.b8 rfl (by decide) k1 (fun _ h => h) rfl rfl trivial rfl rfl dX3_told_2 (fun H locs hG hS => ?_)
  have hM := hM.st8 (f := 0) (v := 0) rfl
  have hF := hF.thr (v := 0)
  obtain ⟨σ0, hσ0⟩ : ∃ z : Mem, z = gst σ 8 0 0 0 := ⟨_, rfl⟩
  rw [← hσ0] at hG hF
  rw [← hσ0]
  have hM := hF.1
  have hc10 := hM.c10
  have ho60 := hM.o60
  refine lv_aload_n hx hb dX3_told_5 rfl (lv_at hl 0 rfl) ?_
  refine lv_iload_n hx hb dX3_told_6 rfl (lv_at hl 1 rfl) ?_
  refine gx_cR (gx_runV (As := [.int (n)]) (rest := []) ⟨hx, hb, hml, hown, hts⟩ (c_X3_isOrder l g σ0 w n hM) (cwV 1 hts gX3_told_X3_isOrder rfl rfl rfl (by decide +kernel) ⟨Nat.le_of_ble_eq_true rfl, Nat.le_of_ble_eq_true rfl⟩) (gx_obj hZ hG 8 0 hM.b8 rfl) hZ hG hS rfl hl.1 rfl (Nat.le_of_ble_eq_true rfl) dX3_told_7 ⟨Nat.le_of_ble_eq_true rfl, Nat.le_of_ble_eq_true rfl⟩) ?_
  refine lv_if_eq (tgt := 31) hx hb dX3_told_10 (by decide) (fun c_1 => ?_) (fun c_1 => ?_)
  · skip
    have c_1 := bI_eq0.mp c_1
    refine lv_aload_n hx hb dX3_told_31 rfl (lv_at hl 0 rfl) ?_
    refine lv_iconst (v := 1) hx hb dX3_told_32 (by decide) ?_
    refine gx_cM (gx_runV (As := [.int (1)]) (rest := []) ⟨hx, hb, hml, hown, hts⟩ (c_X3_fail l g σ0 w 1 hM) (cwV 1 hts gX3_told_X3_fail rfl rfl rfl (by decide +kernel) ⟨Nat.le_of_ble_eq_true rfl, Nat.le_of_ble_eq_true rfl⟩) (gx_obj hZ hG 8 0 hM.b8 rfl) hZ hG hS rfl hl.1 rfl (Nat.le_of_ble_eq_true rfl) dX3_told_33 ⟨Nat.le_of_ble_eq_true rfl, Nat.le_of_ble_eq_true rfl⟩) hS (fun H locs hG hS hsz => ?_)
    exact gx_iretM hx hb hr hlocks hG hS (by unfold mTold; (try first | rw [if_pos c_1] | rw [if_neg c_1] | rw [if_neg (ne_true_of_eq_false c_1)]); try rfl) (by unfold mTold; (try first | rw [if_pos c_1] | rw [if_neg c_1] | rw [if_neg (ne_true_of_eq_false c_1)]); try rfl) (Nat.le_of_ble_eq_true rfl) (Nat.le_of_ble_eq_true rfl) dX3_told_36
  · skip
    have c_1 := bI_ne0.mp c_1
    have hcn := hM.isO c_1
    have hcn1 := hcn.1
    rw [hcn.2] at hl
    refine lv_iload_n hx hb dX3_told_13 rfl (lv_at hl 2 rfl) ?_
    refine lv_iconst (v := 0) hx hb dX3_told_14 (by decide) ?_
    refine lv_iconst (v := 4) hx hb dX3_told_15 (by decide) ?_
    refine gx_cR (gx_runS (As := [.int (x), .int (0), .int (4)]) (rest := []) ⟨hx, hb, hml, hown, hts⟩ (c_X3_isIn l g σ0 w x 0 4) (va_cwS 3 hts gX3_told_X3_isIn rfl rfl rfl (by decide +kernel) ⟨Nat.le_of_ble_eq_true rfl, Nat.le_of_ble_eq_true rfl⟩) hZ hG hS rfl hl.1 rfl (Nat.le_of_ble_eq_true rfl) dX3_told_16 ⟨Nat.le_of_ble_eq_true rfl, Nat.le_of_ble_eq_true rfl⟩) ?_
    refine lv_if_eq (tgt := 31) hx hb dX3_told_19 (by decide) (fun c_2 => ?_) (fun c_2 => ?_)
    · skip
      have c_2 := bI_eq0.mp c_2
      refine lv_aload_n hx hb dX3_told_31 rfl (lv_at hl 0 rfl) ?_
      refine lv_iconst (v := 1) hx hb dX3_told_32 (by decide) ?_
      refine gx_cM (gx_runV (As := [.int (1)]) (rest := []) ⟨hx, hb, hml, hown, hts⟩ (c_X3_fail l g σ0 w 1 hM) (cwV 1 hts gX3_told_X3_fail rfl rfl rfl (by decide +kernel) ⟨Nat.le_of_ble_eq_true rfl, Nat.le_of_ble_eq_true rfl⟩) (gx_obj hZ hG 8 0 hM.b8 rfl) hZ hG hS rfl hl.1 rfl (Nat.le_of_ble_eq_true rfl) dX3_told_33 ⟨Nat.le_of_ble_eq_true rfl, Nat.le_of_ble_eq_true rfl⟩) hS (fun H locs hG hS hsz => ?_)
      exact gx_iretM hx hb hr hlocks hG hS (by unfold mTold; (try first | rw [if_pos c_1] | rw [if_neg c_1] | rw [if_neg (ne_true_of_eq_false c_1)]); (try first | rw [if_pos c_2] | rw [if_neg c_2] | rw [if_neg (ne_true_of_eq_false c_2)]); try rfl) (by unfold mTold; (try first | rw [if_pos c_1] | rw [if_neg c_1] | rw [if_neg (ne_true_of_eq_false c_1)]); (try first | rw [if_pos c_2] | rw [if_neg c_2] | rw [if_neg (ne_true_of_eq_false c_2)]); try rfl) (Nat.le_of_ble_eq_true rfl) (Nat.le_of_ble_eq_true rfl) dX3_told_36
    · skip
      have c_2 := bI_ne0.mp c_2
      have hxn := mIn_4 c_2
      have hxn1 := hxn.1
      rw [hxn.2] at hl
      refine lv_aload_n hx hb dX3_told_22 rfl (lv_at hl 0 rfl) ?_
      refine lv_iload_n hx hb dX3_told_23 rfl (lv_at hl 1 rfl) ?_
      refine lv_iload_n hx hb dX3_told_24 rfl (lv_at hl 2 rfl) ?_
      refine gx_cR (gx_runV (As := [.int (nI (ix n)), .int (nI (ix x))]) (rest := []) ⟨hx, hb, hml, hown, hts⟩ (c_X3_orderTold l g σ0 w (ix n) (ix x) hM (by omega) hxn1) (cwV 2 hts gX3_told_X3_orderTold rfl rfl rfl (by decide +kernel) ⟨Nat.le_of_ble_eq_true rfl, Nat.le_of_ble_eq_true rfl⟩) (gx_obj hZ hG 8 0 hM.b8 rfl) hZ hG hS rfl hl.1 rfl (Nat.le_of_ble_eq_true rfl) dX3_told_25 ⟨Nat.le_of_ble_eq_true rfl, Nat.le_of_ble_eq_true rfl⟩) ?_
      refine lv_goto (tgt := 36) hx hb dX3_told_28 (by decide) ?_
      exact gx_iretM hx hb hr hlocks hG hS (by unfold mTold; (try first | rw [if_pos c_1] | rw [if_neg c_1] | rw [if_neg (ne_true_of_eq_false c_1)]); (try first | rw [if_pos c_2] | rw [if_neg c_2] | rw [if_neg (ne_true_of_eq_false c_2)]); try rfl) (by unfold mTold; (try first | rw [if_pos c_1] | rw [if_neg c_1] | rw [if_neg (ne_true_of_eq_false c_1)]); (try first | rw [if_pos c_2] | rw [if_neg c_2] | rw [if_neg (ne_true_of_eq_false c_2)]); try rfl) (Nat.le_of_ble_eq_true rfl) (Nat.le_of_ble_eq_true rfl) dX3_told_36
set_option maxHeartbeats 4000000 in
set_option maxRecDepth 100000 in
theorem c_X3_fare (l : Launch) (g : gG) (σ : Mem) (w : Int64) (n x : Int32) (hF : Mf g σ) : Met l yX3_fare wsX3_fare ({ frames := 2, cells := 0, slots := 0, locals := 46 } : Room) (gPc g σ w [.ref (gad g 8 0), .int (n), .int (x)]) (gM g g ((mFareX (gst σ 8 0 0 0) n x).2) w (some (.int (mFareX (gst σ 8 0 0 0) n x).1))) 0 0 (gA g) := by
  refine gx_ofW (cc := cX3_fare) (maxL := 3) (ret := (some .int)) (by decide) rfl (Nat.le_of_ble_eq_true rfl) ?_
  intro p e s m below meth c0 hx hb hr hml hts hown hlocks hin hG hZ hS ls hl
  have hown : s.vm.findClass RX3 = some m.cls := hown
  have hl : lv_has ls 3 [(0, .ref (gad g 8 0)), (1, .int (n)), (2, .int (x))] := hl
  have k1 := hts (.fieldLink RX3 53 "TaxiRankModel" "thrown" "I") (by decide +kernel)
  have hM := hF.1
  have hc10 := hM.c10
  have ho60 := hM.o60
  refine lv_aload_n hx hb dX3_fare_0 rfl (lv_at hl 0 rfl) ?_
  refine lv_iconst (v := 0) hx hb dX3_fare_1 (by decide) ?_
  refine gx_put hx hb hown hZ hG hS 8 0 0 (0) hM.b8 rfl (by decide) k1 (fun _ h => h) rfl rfl trivial rfl rfl dX3_fare_2 (fun H locs hG hS => ?_)
  have hM := hM.st8 (f := 0) (v := 0) rfl
  have hF := hF.thr (v := 0)
  obtain ⟨σ0, hσ0⟩ : ∃ z : Mem, z = gst σ 8 0 0 0 := ⟨_, rfl⟩
  rw [← hσ0] at hG hF
  rw [← hσ0]
  have hM := hF.1
  have hc10 := hM.c10
  have ho60 := hM.o60
  refine lv_aload_n hx hb dX3_fare_5 rfl (lv_at hl 0 rfl) ?_
  refine lv_iload_n hx hb dX3_fare_6 rfl (lv_at hl 1 rfl) ?_
  refine gx_cR (gx_runV (As := [.int (n)]) (rest := []) ⟨hx, hb, hml, hown, hts⟩ (c_X3_isOrder l g σ0 w n hM) (cwV 1 hts gX3_fare_X3_isOrder rfl rfl rfl (by decide +kernel) ⟨Nat.le_of_ble_eq_true rfl, Nat.le_of_ble_eq_true rfl⟩) (gx_obj hZ hG 8 0 hM.b8 rfl) hZ hG hS rfl hl.1 rfl (Nat.le_of_ble_eq_true rfl) dX3_fare_7 ⟨Nat.le_of_ble_eq_true rfl, Nat.le_of_ble_eq_true rfl⟩) ?_
  refine lv_if_eq (tgt := 31) hx hb dX3_fare_10 (by decide) (fun c_1 => ?_) (fun c_1 => ?_)
  · skip
    have c_1 := bI_eq0.mp c_1
    refine lv_aload_n hx hb dX3_fare_31 rfl (lv_at hl 0 rfl) ?_
    refine lv_iconst (v := 1) hx hb dX3_fare_32 (by decide) ?_
    refine gx_cM (gx_runV (As := [.int (1)]) (rest := []) ⟨hx, hb, hml, hown, hts⟩ (c_X3_fail l g σ0 w 1 hM) (cwV 1 hts gX3_fare_X3_fail rfl rfl rfl (by decide +kernel) ⟨Nat.le_of_ble_eq_true rfl, Nat.le_of_ble_eq_true rfl⟩) (gx_obj hZ hG 8 0 hM.b8 rfl) hZ hG hS rfl hl.1 rfl (Nat.le_of_ble_eq_true rfl) dX3_fare_33 ⟨Nat.le_of_ble_eq_true rfl, Nat.le_of_ble_eq_true rfl⟩) hS (fun H locs hG hS hsz => ?_)
    exact gx_iretM hx hb hr hlocks hG hS (by unfold mFareX; (try first | rw [if_pos c_1] | rw [if_neg c_1] | rw [if_neg (ne_true_of_eq_false c_1)]); try rfl) (by unfold mFareX; (try first | rw [if_pos c_1] | rw [if_neg c_1] | rw [if_neg (ne_true_of_eq_false c_1)]); try rfl) (Nat.le_of_ble_eq_true rfl) (Nat.le_of_ble_eq_true rfl) dX3_fare_36
  · skip
    have c_1 := bI_ne0.mp c_1
    have hcn := hM.isO c_1
    have hcn1 := hcn.1
    rw [hcn.2] at hl
    refine lv_iload_n hx hb dX3_fare_13 rfl (lv_at hl 2 rfl) ?_
    refine lv_iconst (v := 0) hx hb dX3_fare_14 (by decide) ?_
    refine lv_iconst (v := 4) hx hb dX3_fare_15 (by decide) ?_
    refine gx_cR (gx_runS (As := [.int (x), .int (0), .int (4)]) (rest := []) ⟨hx, hb, hml, hown, hts⟩ (c_X3_isIn l g σ0 w x 0 4) (va_cwS 3 hts gX3_fare_X3_isIn rfl rfl rfl (by decide +kernel) ⟨Nat.le_of_ble_eq_true rfl, Nat.le_of_ble_eq_true rfl⟩) hZ hG hS rfl hl.1 rfl (Nat.le_of_ble_eq_true rfl) dX3_fare_16 ⟨Nat.le_of_ble_eq_true rfl, Nat.le_of_ble_eq_true rfl⟩) ?_
    refine lv_if_eq (tgt := 31) hx hb dX3_fare_19 (by decide) (fun c_2 => ?_) (fun c_2 => ?_)
    · skip
      have c_2 := bI_eq0.mp c_2
      refine lv_aload_n hx hb dX3_fare_31 rfl (lv_at hl 0 rfl) ?_
      refine lv_iconst (v := 1) hx hb dX3_fare_32 (by decide) ?_
      refine gx_cM (gx_runV (As := [.int (1)]) (rest := []) ⟨hx, hb, hml, hown, hts⟩ (c_X3_fail l g σ0 w 1 hM) (cwV 1 hts gX3_fare_X3_fail rfl rfl rfl (by decide +kernel) ⟨Nat.le_of_ble_eq_true rfl, Nat.le_of_ble_eq_true rfl⟩) (gx_obj hZ hG 8 0 hM.b8 rfl) hZ hG hS rfl hl.1 rfl (Nat.le_of_ble_eq_true rfl) dX3_fare_33 ⟨Nat.le_of_ble_eq_true rfl, Nat.le_of_ble_eq_true rfl⟩) hS (fun H locs hG hS hsz => ?_)
      exact gx_iretM hx hb hr hlocks hG hS (by unfold mFareX; (try first | rw [if_pos c_1] | rw [if_neg c_1] | rw [if_neg (ne_true_of_eq_false c_1)]); (try first | rw [if_pos c_2] | rw [if_neg c_2] | rw [if_neg (ne_true_of_eq_false c_2)]); try rfl) (by unfold mFareX; (try first | rw [if_pos c_1] | rw [if_neg c_1] | rw [if_neg (ne_true_of_eq_false c_1)]); (try first | rw [if_pos c_2] | rw [if_neg c_2] | rw [if_neg (ne_true_of_eq_false c_2)]); try rfl) (Nat.le_of_ble_eq_true rfl) (Nat.le_of_ble_eq_true rfl) dX3_fare_36
    · skip
      have c_2 := bI_ne0.mp c_2
      have hxn := mIn_4 c_2
      have hxn1 := hxn.1
      rw [hxn.2] at hl
      refine lv_aload_n hx hb dX3_fare_22 rfl (lv_at hl 0 rfl) ?_
      refine lv_iload_n hx hb dX3_fare_23 rfl (lv_at hl 1 rfl) ?_
      refine lv_iload_n hx hb dX3_fare_24 rfl (lv_at hl 2 rfl) ?_
      refine gx_cR (gx_runV (As := [.int (nI (ix n)), .int (nI (ix x))]) (rest := []) ⟨hx, hb, hml, hown, hts⟩ (c_X3_fareOf l g σ0 w (ix n) (ix x) hM (by omega) hxn1) (cwV 2 hts gX3_fare_X3_fareOf rfl rfl rfl (by decide +kernel) ⟨Nat.le_of_ble_eq_true rfl, Nat.le_of_ble_eq_true rfl⟩) (gx_obj hZ hG 8 0 hM.b8 rfl) hZ hG hS rfl hl.1 rfl (Nat.le_of_ble_eq_true rfl) dX3_fare_25 ⟨Nat.le_of_ble_eq_true rfl, Nat.le_of_ble_eq_true rfl⟩) ?_
      refine lv_goto (tgt := 36) hx hb dX3_fare_28 (by decide) ?_
      exact gx_iretM hx hb hr hlocks hG hS (by unfold mFareX; (try first | rw [if_pos c_1] | rw [if_neg c_1] | rw [if_neg (ne_true_of_eq_false c_1)]); (try first | rw [if_pos c_2] | rw [if_neg c_2] | rw [if_neg (ne_true_of_eq_false c_2)]); try rfl) (by unfold mFareX; (try first | rw [if_pos c_1] | rw [if_neg c_1] | rw [if_neg (ne_true_of_eq_false c_1)]); (try first | rw [if_pos c_2] | rw [if_neg c_2] | rw [if_neg (ne_true_of_eq_false c_2)]); try rfl) (Nat.le_of_ble_eq_true rfl) (Nat.le_of_ble_eq_true rfl) dX3_fare_36
set_option maxHeartbeats 4000000 in
set_option maxRecDepth 100000 in
theorem c_X3_tick (l : Launch) (g : gG) (σ : Mem) (w : Int64) (n : Int32) (hF : Mf g σ) : Met l yX3_tick wsX3_tick ({ frames := 5, cells := 0, slots := 0, locals := 118 } : Room) (gPc g σ w [.ref (gad g 8 0), .int (n)]) (gM g g ((mTick (gst σ 8 0 0 0) n).2) w (some (.int (mTick (gst σ 8 0 0 0) n).1))) 0 0 (gA g) := by
  refine gx_ofW (cc := cX3_tick) (maxL := 4) (ret := (some .int)) (by decide) rfl (Nat.le_of_ble_eq_true rfl) ?_
  intro p e s m below meth c0 hx hb hr hml hts hown hlocks hin hG hZ hS ls hl
  have hown : s.vm.findClass RX3 = some m.cls := hown
  have hl : lv_has ls 4 [(0, .ref (gad g 8 0)), (1, .int (n))] := hl
  have k1 := hts (.fieldLink RX3 53 "TaxiRankModel" "thrown" "I") (by decide +kernel)
  have k2 := hts (.fieldLink RX3 121 "TaxiRankModel" "now" "I") (by decide +kernel)
  have hM := hF.1
  have hc10 := hM.c10
  have ho60 := hM.o60
  refine lv_aload_n hx hb dX3_tick_0 rfl (lv_at hl 0 rfl) ?_
  refine lv_iconst (v := 0) hx hb dX3_tick_1 (by decide) ?_
  refine gx_put hx hb hown hZ hG hS 8 0 0 (0) hM.b8 rfl (by decide) k1 (fun _ h => h) rfl rfl trivial rfl rfl dX3_tick_2 (fun H locs hG hS => ?_)
  have hM := hM.st8 (f := 0) (v := 0) rfl
  have hF := hF.thr (v := 0)
  obtain ⟨σ0, hσ0⟩ : ∃ z : Mem, z = gst σ 8 0 0 0 := ⟨_, rfl⟩
  rw [← hσ0] at hG hF
  rw [← hσ0]
  have hM := hF.1
  have hc10 := hM.c10
  have ho60 := hM.o60
  refine lv_iload_n hx hb dX3_tick_5 rfl (lv_at hl 1 rfl) ?_
  refine lv_iconst (v := 1) hx hb dX3_tick_6 (by decide) ?_
  refine lv_sipush (v := 300) hx hb dX3_tick_7 (by decide) ?_
  refine gx_cR (gx_runS (As := [.int (n), .int (1), .int (300)]) (rest := []) ⟨hx, hb, hml, hown, hts⟩ (c_X3_isIn l g σ0 w n 1 300) (va_cwS 3 hts gX3_tick_X3_isIn rfl rfl rfl (by decide +kernel) ⟨Nat.le_of_ble_eq_true rfl, Nat.le_of_ble_eq_true rfl⟩) hZ hG hS rfl hl.1 rfl (Nat.le_of_ble_eq_true rfl) dX3_tick_10 ⟨Nat.le_of_ble_eq_true rfl, Nat.le_of_ble_eq_true rfl⟩) ?_
  refine lv_if_eq (tgt := 28) hx hb dX3_tick_13 (by decide) (fun c_1 => ?_) (fun c_1 => ?_)
  · skip
    have c_1 := bI_eq0.mp c_1
    refine lv_aload_n hx hb dX3_tick_28 rfl (lv_at hl 0 rfl) ?_
    refine lv_iconst (v := 1) hx hb dX3_tick_29 (by decide) ?_
    refine gx_cM (gx_runV (As := [.int (1)]) (rest := []) ⟨hx, hb, hml, hown, hts⟩ (c_X3_fail l g σ0 w 1 hM) (cwV 1 hts gX3_tick_X3_fail rfl rfl rfl (by decide +kernel) ⟨Nat.le_of_ble_eq_true rfl, Nat.le_of_ble_eq_true rfl⟩) (gx_obj hZ hG 8 0 hM.b8 rfl) hZ hG hS rfl hl.1 rfl (Nat.le_of_ble_eq_true rfl) dX3_tick_30 ⟨Nat.le_of_ble_eq_true rfl, Nat.le_of_ble_eq_true rfl⟩) hS (fun H locs hG hS hsz => ?_)
    exact gx_iretM hx hb hr hlocks hG hS (by unfold mTick; (try first | rw [if_pos c_1] | rw [if_neg c_1] | rw [if_neg (ne_true_of_eq_false c_1)]); try rfl) (by unfold mTick; (try first | rw [if_pos c_1] | rw [if_neg c_1] | rw [if_neg (ne_true_of_eq_false c_1)]); try rfl) (Nat.le_of_ble_eq_true rfl) (Nat.le_of_ble_eq_true rfl) dX3_tick_33
  · skip
    have c_1 := bI_ne0.mp c_1
    refine lv_aload_n hx hb dX3_tick_16 rfl (lv_at hl 0 rfl) ?_
    refine gx_get hx hb hown hZ hG 8 0 1 hM.b8 rfl (by decide) k2 (fun _ h => h) (v := .int (σ0 8 0 1)) rfl dX3_tick_17 ?_
    refine lv_iload_n hx hb dX3_tick_20 rfl (lv_at hl 1 rfl) ?_
    refine lv_iadd hx hb dX3_tick_21 ?_
    refine lv_sipush (v := 9999) hx hb dX3_tick_22 (by decide) ?_
    refine lv_icmp_le (tgt := 34) hx hb dX3_tick_25 (by decide) (fun c_2 => ?_) (fun c_2 => ?_)
    · skip
      obtain ⟨hn1, hn2⟩ := mIn_300 c_1
      refine lv_iconst (v := 0) hx hb dX3_tick_34 (by decide) ?_
      refine lv_istore_n (lv' := [(2, .int (0)), (0, .ref (gad g 8 0)), (1, .int (n))]) hx hb dX3_tick_35 rfl hl (by decide) rfl (fun ls hl => ?_)
      refine lv_iconst (v := 0) hx hb dX3_tick_36 (by decide) ?_
      refine lv_istore_n (lv' := [(3, .int (0)), (2, .int (0)), (0, .ref (gad g 8 0)), (1, .int (n))]) hx hb dX3_tick_37 rfl hl (by decide) rfl (fun ls hl => ?_)
      have loop_38 : ∀ (nf : Nat) (r : Nat) (k : Nat) (acc : Int32) (σ1 : Mem), r < nf → (k + r = ix n) → (Mf g σ1) → (mTickGo r acc σ1 = mTick σ0 n) → ∀ (H : Heap) (locs : List Loc), GW g σ1 w H → va_S (gA g) s.heap H locs → ∀ ls : Array Slot, lv_has ls 4 [(0, .ref (gad g 8 0)), (1, .int (n)), (2, .int (acc)), (3, .int (nI k))] → W p l e ({ frames := 5, cells := 0, slots := 0, locals := 118 } : Room) s m ([.ref (gad g 8 0), .int (n)] : List Value).toArray below meth c0 H locs 0 0 (MQ below (gM g g ((mTick σ0 n).2) w (some (.int (mTick σ0 n).1))) ([.ref (gad g 8 0), .int (n)] : List Value).toArray s 0 0 (gA g)) (F0 m 38 ls []) := by
        intro nf
        induction nf with
        | zero => intro r k acc σ1 hn; exact absurd hn (Nat.not_lt_zero _)
        | succ nf ih =>
          intro r k acc σ1 hn hk hF hres H locs hG hS ls hl
          have hM := hF.1
          have hc10 := hM.c10
          have ho60 := hM.o60
          refine lv_iload_n hx hb dX3_tick_38 rfl (lv_at hl 3 rfl) ?_
          refine lv_iload_n hx hb dX3_tick_39 rfl (lv_at hl 1 rfl) ?_
          refine lv_icmp_ge (tgt := 56) hx hb dX3_tick_40 (by decide) (fun c_3 => ?_) (fun c_3 => ?_)
          · skip
            rw [hn1] at c_3
            have hge := le_of_nIle c_3 (by omega) (by omega)
            obtain rfl : r = 0 := by omega
            refine lv_iload_n hx hb dX3_tick_56 rfl (lv_at hl 2 rfl) ?_
            exact gx_iretM hx hb hr hlocks hG hS (by rw [← hres]; rfl) (by rw [← hres]; rfl) (Nat.le_of_ble_eq_true rfl) (Nat.le_of_ble_eq_true rfl) dX3_tick_57
          · skip
            rw [hn1] at c_3
            have hkc := lt_of_nle c_3 (by omega)
            obtain ⟨r, rfl⟩ : ∃ q, r = q + 1 := ⟨r - 1, by omega⟩
            refine lv_iload_n hx hb dX3_tick_43 rfl (lv_at hl 2 rfl) ?_
            refine lv_aload_n hx hb dX3_tick_44 rfl (lv_at hl 0 rfl) ?_
            refine gx_cM (gx_runV (As := []) (rest := [.int (acc)]) ⟨hx, hb, hml, hown, hts⟩ (c_X3_minute l g σ1 w hF) (cwV 0 hts gX3_tick_X3_minute rfl rfl rfl (by decide +kernel) ⟨Nat.le_of_ble_eq_true rfl, Nat.le_of_ble_eq_true rfl⟩) (gx_obj hZ hG 8 0 hM.b8 rfl) hZ hG hS rfl hl.1 rfl (Nat.le_of_ble_eq_true rfl) dX3_tick_45 ⟨Nat.le_of_ble_eq_true rfl, Nat.le_of_ble_eq_true rfl⟩) hS (fun H locs hG hS hsz => ?_)
            have hF := hF.min
            refine lv_iadd hx hb dX3_tick_48 ?_
            refine lv_istore_n (lv' := [(2, .int (acc + ((mMin σ1).1))), (0, .ref (gad g 8 0)), (1, .int (n)), (3, .int (nI k))]) hx hb dX3_tick_49 rfl hl (by decide) rfl (fun ls hl => ?_)
            refine lv_iinc (v := nI (k + 1)) (lv' := [(3, .int (nI (k + 1))), (2, .int (acc + ((mMin σ1).1))), (0, .ref (gad g 8 0)), (1, .int (n))]) hx hb dX3_tick_50 hl (k := 3) rfl (nI_1 _) (by decide) rfl (fun ls hl => ?_)
            refine lv_goto (tgt := 38) hx hb dX3_tick_53 (by decide) ?_
            exact ih r (k + 1) (acc + ((mMin σ1).1)) ((mMin σ1).2) (by omega) (by omega) hF (by rw [← hres]; rfl) H locs hG hS ls (lv_sub hl [2, 3, 1, 0] rfl)
      exact loop_38 (ix n + 1) (ix n) 0 0 σ0 (by omega) (by omega) hF (by unfold mTick; (try first | rw [if_pos c_1] | rw [if_neg c_1] | rw [if_neg (ne_true_of_eq_false c_1)]); (try first | rw [if_pos c_2] | rw [if_neg c_2] | rw [if_neg (ne_true_of_eq_false c_2)]); try rfl) _ _ hG hS ls (lv_sub hl [2, 3, 1, 0] rfl)
    · skip
      refine lv_aload_n hx hb dX3_tick_28 rfl (lv_at hl 0 rfl) ?_
      refine lv_iconst (v := 1) hx hb dX3_tick_29 (by decide) ?_
      refine gx_cM (gx_runV (As := [.int (1)]) (rest := []) ⟨hx, hb, hml, hown, hts⟩ (c_X3_fail l g σ0 w 1 hM) (cwV 1 hts gX3_tick_X3_fail rfl rfl rfl (by decide +kernel) ⟨Nat.le_of_ble_eq_true rfl, Nat.le_of_ble_eq_true rfl⟩) (gx_obj hZ hG 8 0 hM.b8 rfl) hZ hG hS rfl hl.1 rfl (Nat.le_of_ble_eq_true rfl) dX3_tick_30 ⟨Nat.le_of_ble_eq_true rfl, Nat.le_of_ble_eq_true rfl⟩) hS (fun H locs hG hS hsz => ?_)
      exact gx_iretM hx hb hr hlocks hG hS (by unfold mTick; (try first | rw [if_pos c_1] | rw [if_neg c_1] | rw [if_neg (ne_true_of_eq_false c_1)]); (try first | rw [if_pos c_2] | rw [if_neg c_2] | rw [if_neg (ne_true_of_eq_false c_2)]); try rfl) (by unfold mTick; (try first | rw [if_pos c_1] | rw [if_neg c_1] | rw [if_neg (ne_true_of_eq_false c_1)]); (try first | rw [if_pos c_2] | rw [if_neg c_2] | rw [if_neg (ne_true_of_eq_false c_2)]); try rfl) (Nat.le_of_ble_eq_true rfl) (Nat.le_of_ble_eq_true rfl) dX3_tick_33
set_option maxHeartbeats 4000000 in
set_option maxRecDepth 100000 in
theorem c_X3_now (l : Launch) (g : gG) (σ : Mem) (w : Int64) (hF : Mf g σ) : Met l yX3_now wsX3_now ({ frames := 0, cells := 0, slots := 0, locals := 0 } : Room) (gPc g σ w [.ref (gad g 8 0)]) (gM g g (gst σ 8 0 0 0) w (some (.int (gst σ 8 0 0 0 8 0 1)))) 0 0 (gA g) := by
  refine gx_ofW (cc := cX3_now) (maxL := 1) (ret := (some .int)) (by decide) rfl (Nat.le_of_ble_eq_true rfl) ?_
  intro p e s m below meth c0 hx hb hr hml hts hown hlocks hin hG hZ hS ls hl
  have hown : s.vm.findClass RX3 = some m.cls := hown
  have hl : lv_has ls 1 [(0, .ref (gad g 8 0))] := hl
  have k1 := hts (.fieldLink RX3 53 "TaxiRankModel" "thrown" "I") (by decide +kernel)
  have k2 := hts (.fieldLink RX3 121 "TaxiRankModel" "now" "I") (by decide +kernel)
  have hM := hF.1
  have hc10 := hM.c10
  have ho60 := hM.o60
  refine lv_aload_n hx hb dX3_now_0 rfl (lv_at hl 0 rfl) ?_
  refine lv_iconst (v := 0) hx hb dX3_now_1 (by decide) ?_
  refine gx_put hx hb hown hZ hG hS 8 0 0 (0) hM.b8 rfl (by decide) k1 (fun _ h => h) rfl rfl trivial rfl rfl dX3_now_2 (fun H locs hG hS => ?_)
  have hM := hM.st8 (f := 0) (v := 0) rfl
  have hF := hF.thr (v := 0)
  obtain ⟨σ0, hσ0⟩ : ∃ z : Mem, z = gst σ 8 0 0 0 := ⟨_, rfl⟩
  rw [← hσ0] at hG hF
  rw [← hσ0]
  have hM := hF.1
  have hc10 := hM.c10
  have ho60 := hM.o60
  refine lv_aload_n hx hb dX3_now_5 rfl (lv_at hl 0 rfl) ?_
  refine gx_get hx hb hown hZ hG 8 0 1 hM.b8 rfl (by decide) k2 (fun _ h => h) (v := .int (σ0 8 0 1)) rfl dX3_now_6 ?_
  exact gx_iretM hx hb hr hlocks hG hS rfl rfl (Nat.le_of_ble_eq_true rfl) (Nat.le_of_ble_eq_true rfl) dX3_now_9
set_option maxHeartbeats 4000000 in
set_option maxRecDepth 100000 in
theorem c_X3_queued (l : Launch) (g : gG) (σ : Mem) (w : Int64) (z p1 : Int32) (hM : Mok g σ) : Met l yX3_queued wsX3_queued ({ frames := 1, cells := 0, slots := 0, locals := 23 } : Room) (gPc g σ w [.ref (gad g 8 0), .int (z), .int (p1)]) (gR (.int (mQd σ z p1))) 0 0 (fun _ => False) := by
  refine gx_ofW (cc := cX3_queued) (maxL := 4) (ret := (some .int)) (by decide) rfl (Nat.le_of_ble_eq_true rfl) ?_
  intro p e s m below meth c0 hx hb hr hml hts hown hlocks hin hG hZ hS ls hl
  have hown : s.vm.findClass RX3 = some m.cls := hown
  have hl : lv_has ls 4 [(0, .ref (gad g 8 0)), (1, .int (z)), (2, .int (p1))] := hl
  have k1 := hts (.fieldLink RX3 60 "TaxiRankModel" "cabs" "I") (by decide +kernel)
  have k2 := hts (.fieldLink RX3 23 "TaxiRankModel" "zones" "[I") (by decide +kernel)
  have hc10 := hM.c10
  have ho60 := hM.o60
  refine lv_iconst (v := 0) hx hb dX3_queued_0 (by decide) ?_
  refine lv_istore_n (lv' := [(3, .int (0)), (0, .ref (gad g 8 0)), (1, .int (z)), (2, .int (p1))]) hx hb dX3_queued_1 rfl hl (by decide) rfl (fun ls hl => ?_)
  have loop_2 : ∀ (nf : Nat) (r : Nat) (k : Nat), r < nf → (k + r = mC σ) → (mQdGo σ z p1 r k = mQd σ z p1) → ∀ ls : Array Slot, lv_has ls 4 [(0, .ref (gad g 8 0)), (1, .int (z)), (2, .int (p1)), (3, .int (nI k))] → W p l e ({ frames := 1, cells := 0, slots := 0, locals := 23 } : Room) s m ([.ref (gad g 8 0), .int (z), .int (p1)] : List Value).toArray below meth c0 s.heap [] 0 0 (MQ below (gR (.int (mQd σ z p1))) ([.ref (gad g 8 0), .int (z), .int (p1)] : List Value).toArray s 0 0 (fun _ => False)) (F0 m 2 ls []) := by
    intro nf
    induction nf with
    | zero => intro r k hn; exact absurd hn (Nat.not_lt_zero _)
    | succ nf ih =>
      intro r k hn hk hres ls hl
      refine lv_iload_n hx hb dX3_queued_2 rfl (lv_at hl 3 rfl) ?_
      refine lv_aload_n hx hb dX3_queued_3 rfl (lv_at hl 0 rfl) ?_
      refine gx_get hx hb hown hZ hG 8 0 5 hM.b8 rfl (by decide) k1 (fun _ h => h) (v := .int (σ 8 0 5)) rfl dX3_queued_4 ?_
      refine lv_icmp_ge (tgt := 37) hx hb dX3_queued_7 (by decide) (fun c_1 => ?_) (fun c_1 => ?_)
      · skip
        have hge := le_of_nIle (hM.eC ▸ c_1) (by omega) (by omega)
        obtain rfl : r = 0 := by omega
        refine lv_iconst (v := (-1)) hx hb dX3_queued_37 (by decide) ?_
        exact gx_iretR hx hb hr hlocks (by rw [← hres]; rfl) (Nat.le_of_ble_eq_true rfl) (Nat.le_of_ble_eq_true rfl) dX3_queued_38
      · skip
        have hkc := lt_of_nle (hM.eC ▸ c_1) (by omega)
        obtain ⟨r, rfl⟩ : ∃ q, r = q + 1 := ⟨r - 1, by omega⟩
        refine lv_aload_n hx hb dX3_queued_10 rfl (lv_at hl 0 rfl) ?_
        refine gx_get hx hb hown hZ hG 8 0 7 hM.b8 rfl (by decide) k2 (fun _ h => h) (v := .ref (gad g 9 2)) (grf_j (hM.rf (f := 7) rfl) (by decide)) dX3_queued_11 ?_
        refine lv_iload_n hx hb dX3_queued_14 rfl (lv_at hl 3 rfl) ?_
        refine gx_aldN hx hb hZ hG 9 2 k (by rfl) (hM.b9 (by decide)) rfl rfl ⟨by rw [hM.lc (i := 2) (by decide) (by decide)]; omega, by omega⟩ (v := .int (σ 9 2 k)) rfl dX3_queued_15 ?_
        refine lv_iload_n hx hb dX3_queued_16 rfl (lv_at hl 1 rfl) ?_
        refine lv_icmp_ne (tgt := 31) hx hb dX3_queued_17 (by decide) (fun c_2 => ?_) (fun c_2 => ?_)
        · skip
          refine lv_iinc (v := nI (k + 1)) (lv' := [(3, .int (nI (k + 1))), (0, .ref (gad g 8 0)), (1, .int (z)), (2, .int (p1))]) hx hb dX3_queued_31 hl (k := 3) rfl (nI_1 _) (by decide) rfl (fun ls hl => ?_)
          refine lv_goto (tgt := 2) hx hb dX3_queued_34 (by decide) ?_
          exact ih r (k + 1) (by omega) (by omega) (by rw [← hres]; simp only [mQdGo, c_1, c_2, reduceIte]) ls (lv_sub hl [1, 2, 3, 0] rfl)
        · skip
          refine lv_aload_n hx hb dX3_queued_20 rfl (lv_at hl 0 rfl) ?_
          refine lv_iload_n hx hb dX3_queued_21 rfl (lv_at hl 3 rfl) ?_
          refine gx_cR (gx_runV (As := [.int (nI k)]) (rest := []) ⟨hx, hb, hml, hown, hts⟩ (c_X3_placeOf l g σ w k hM (by omega)) (cwV 1 hts gX3_queued_X3_placeOf rfl rfl rfl (by decide +kernel) ⟨Nat.le_of_ble_eq_true rfl, Nat.le_of_ble_eq_true rfl⟩) (gx_obj hZ hG 8 0 hM.b8 rfl) hZ hG hS rfl hl.1 rfl (Nat.le_of_ble_eq_true rfl) dX3_queued_22 ⟨Nat.le_of_ble_eq_true rfl, Nat.le_of_ble_eq_true rfl⟩) ?_
          refine lv_iload_n hx hb dX3_queued_25 rfl (lv_at hl 2 rfl) ?_
          refine lv_icmp_ne (tgt := 31) hx hb dX3_queued_26 (by decide) (fun c_3 => ?_) (fun c_3 => ?_)
          · skip
            refine lv_iinc (v := nI (k + 1)) (lv' := [(3, .int (nI (k + 1))), (0, .ref (gad g 8 0)), (1, .int (z)), (2, .int (p1))]) hx hb dX3_queued_31 hl (k := 3) rfl (nI_1 _) (by decide) rfl (fun ls hl => ?_)
            refine lv_goto (tgt := 2) hx hb dX3_queued_34 (by decide) ?_
            exact ih r (k + 1) (by omega) (by omega) (by rw [← hres]; simp only [mQdGo, c_1, c_2, c_3, reduceIte]) ls (lv_sub hl [1, 2, 3, 0] rfl)
          · skip
            refine lv_iload_n hx hb dX3_queued_29 rfl (lv_at hl 3 rfl) ?_
            exact gx_iretR hx hb hr hlocks (by rw [← hres]; simp only [mQdGo, c_1, c_2, c_3, reduceIte]) (Nat.le_of_ble_eq_true rfl) (Nat.le_of_ble_eq_true rfl) dX3_queued_30
  exact loop_2 (mC σ + 1) (mC σ) 0 (by omega) (by omega) rfl ls (lv_sub hl [1, 2, 3, 0] rfl)
set_option maxHeartbeats 4000000 in
set_option maxRecDepth 100000 in
theorem c_X3_queue (l : Launch) (g : gG) (σ : Mem) (w : Int64) (z p1 : Int32) (hF : Mf g σ) : Met l yX3_queue wsX3_queue ({ frames := 2, cells := 0, slots := 0, locals := 48 } : Room) (gPc g σ w [.ref (gad g 8 0), .int (z), .int (p1)]) (gM g g ((mQueue (gst σ 8 0 0 0) z p1).2) w (some (.int (mQueue (gst σ 8 0 0 0) z p1).1))) 0 0 (gA g) := by
  refine gx_ofW (cc := cX3_queue) (maxL := 3) (ret := (some .int)) (by decide) rfl (Nat.le_of_ble_eq_true rfl) ?_
  intro p e s m below meth c0 hx hb hr hml hts hown hlocks hin hG hZ hS ls hl
  have hown : s.vm.findClass RX3 = some m.cls := hown
  have hl : lv_has ls 3 [(0, .ref (gad g 8 0)), (1, .int (z)), (2, .int (p1))] := hl
  have k1 := hts (.fieldLink RX3 53 "TaxiRankModel" "thrown" "I") (by decide +kernel)
  have hM := hF.1
  have hc10 := hM.c10
  have ho60 := hM.o60
  refine lv_aload_n hx hb dX3_queue_0 rfl (lv_at hl 0 rfl) ?_
  refine lv_iconst (v := 0) hx hb dX3_queue_1 (by decide) ?_
  refine gx_put hx hb hown hZ hG hS 8 0 0 (0) hM.b8 rfl (by decide) k1 (fun _ h => h) rfl rfl trivial rfl rfl dX3_queue_2 (fun H locs hG hS => ?_)
  have hM := hM.st8 (f := 0) (v := 0) rfl
  have hF := hF.thr (v := 0)
  obtain ⟨σ0, hσ0⟩ : ∃ z : Mem, z = gst σ 8 0 0 0 := ⟨_, rfl⟩
  rw [← hσ0] at hG hF
  rw [← hσ0]
  have hM := hF.1
  have hc10 := hM.c10
  have ho60 := hM.o60
  refine lv_iload_n hx hb dX3_queue_5 rfl (lv_at hl 1 rfl) ?_
  refine gx_cR (gx_runS (As := [.int (z)]) (rest := []) ⟨hx, hb, hml, hown, hts⟩ (c_X3_isZone l g σ0 w z) (va_cwS 1 hts gX3_queue_X3_isZone rfl rfl rfl (by decide +kernel) ⟨Nat.le_of_ble_eq_true rfl, Nat.le_of_ble_eq_true rfl⟩) hZ hG hS rfl hl.1 rfl (Nat.le_of_ble_eq_true rfl) dX3_queue_6 ⟨Nat.le_of_ble_eq_true rfl, Nat.le_of_ble_eq_true rfl⟩) ?_
  refine lv_if_eq (tgt := 25) hx hb dX3_queue_9 (by decide) (fun c_1 => ?_) (fun c_1 => ?_)
  · skip
    have c_1 := bI_eq0.mp c_1
    refine lv_aload_n hx hb dX3_queue_25 rfl (lv_at hl 0 rfl) ?_
    refine lv_iconst (v := 1) hx hb dX3_queue_26 (by decide) ?_
    refine gx_cM (gx_runV (As := [.int (1)]) (rest := []) ⟨hx, hb, hml, hown, hts⟩ (c_X3_fail l g σ0 w 1 hM) (cwV 1 hts gX3_queue_X3_fail rfl rfl rfl (by decide +kernel) ⟨Nat.le_of_ble_eq_true rfl, Nat.le_of_ble_eq_true rfl⟩) (gx_obj hZ hG 8 0 hM.b8 rfl) hZ hG hS rfl hl.1 rfl (Nat.le_of_ble_eq_true rfl) dX3_queue_27 ⟨Nat.le_of_ble_eq_true rfl, Nat.le_of_ble_eq_true rfl⟩) hS (fun H locs hG hS hsz => ?_)
    exact gx_iretM hx hb hr hlocks hG hS (by unfold mQueue; (try first | rw [if_pos c_1] | rw [if_neg c_1] | rw [if_neg (ne_true_of_eq_false c_1)]); try rfl) (by unfold mQueue; (try first | rw [if_pos c_1] | rw [if_neg c_1] | rw [if_neg (ne_true_of_eq_false c_1)]); try rfl) (Nat.le_of_ble_eq_true rfl) (Nat.le_of_ble_eq_true rfl) dX3_queue_30
  · skip
    have c_1 := bI_ne0.mp c_1
    refine lv_iload_n hx hb dX3_queue_12 rfl (lv_at hl 2 rfl) ?_
    refine lv_if_lt (tgt := 25) hx hb dX3_queue_13 (by decide) (fun c_2 => ?_) (fun c_2 => ?_)
    · skip
      refine lv_aload_n hx hb dX3_queue_25 rfl (lv_at hl 0 rfl) ?_
      refine lv_iconst (v := 1) hx hb dX3_queue_26 (by decide) ?_
      refine gx_cM (gx_runV (As := [.int (1)]) (rest := []) ⟨hx, hb, hml, hown, hts⟩ (c_X3_fail l g σ0 w 1 hM) (cwV 1 hts gX3_queue_X3_fail rfl rfl rfl (by decide +kernel) ⟨Nat.le_of_ble_eq_true rfl, Nat.le_of_ble_eq_true rfl⟩) (gx_obj hZ hG 8 0 hM.b8 rfl) hZ hG hS rfl hl.1 rfl (Nat.le_of_ble_eq_true rfl) dX3_queue_27 ⟨Nat.le_of_ble_eq_true rfl, Nat.le_of_ble_eq_true rfl⟩) hS (fun H locs hG hS hsz => ?_)
      exact gx_iretM hx hb hr hlocks hG hS (by unfold mQueue; (try first | rw [if_pos c_1] | rw [if_neg c_1] | rw [if_neg (ne_true_of_eq_false c_1)]); (try first | rw [if_pos c_2] | rw [if_neg c_2] | rw [if_neg (ne_true_of_eq_false c_2)]); try rfl) (by unfold mQueue; (try first | rw [if_pos c_1] | rw [if_neg c_1] | rw [if_neg (ne_true_of_eq_false c_1)]); (try first | rw [if_pos c_2] | rw [if_neg c_2] | rw [if_neg (ne_true_of_eq_false c_2)]); try rfl) (Nat.le_of_ble_eq_true rfl) (Nat.le_of_ble_eq_true rfl) dX3_queue_30
    · skip
      refine lv_aload_n hx hb dX3_queue_16 rfl (lv_at hl 0 rfl) ?_
      refine lv_iload_n hx hb dX3_queue_17 rfl (lv_at hl 1 rfl) ?_
      refine lv_iload_n hx hb dX3_queue_18 rfl (lv_at hl 2 rfl) ?_
      refine gx_cR (gx_runV (As := [.int (z), .int (p1)]) (rest := []) ⟨hx, hb, hml, hown, hts⟩ (c_X3_queued l g σ0 w z p1 hM) (cwV 2 hts gX3_queue_X3_queued rfl rfl rfl (by decide +kernel) ⟨Nat.le_of_ble_eq_true rfl, Nat.le_of_ble_eq_true rfl⟩) (gx_obj hZ hG 8 0 hM.b8 rfl) hZ hG hS rfl hl.1 rfl (Nat.le_of_ble_eq_true rfl) dX3_queue_19 ⟨Nat.le_of_ble_eq_true rfl, Nat.le_of_ble_eq_true rfl⟩) ?_
      refine lv_goto (tgt := 30) hx hb dX3_queue_22 (by decide) ?_
      exact gx_iretM hx hb hr hlocks hG hS (by unfold mQueue; (try first | rw [if_pos c_1] | rw [if_neg c_1] | rw [if_neg (ne_true_of_eq_false c_1)]); (try first | rw [if_pos c_2] | rw [if_neg c_2] | rw [if_neg (ne_true_of_eq_false c_2)]); try rfl) (by unfold mQueue; (try first | rw [if_pos c_1] | rw [if_neg c_1] | rw [if_neg (ne_true_of_eq_false c_1)]); (try first | rw [if_pos c_2] | rw [if_neg c_2] | rw [if_neg (ne_true_of_eq_false c_2)]); try rfl) (Nat.le_of_ble_eq_true rfl) (Nat.le_of_ble_eq_true rfl) dX3_queue_30
set_option maxHeartbeats 4000000 in
set_option maxRecDepth 100000 in
theorem c_X3_count (l : Launch) (g : gG) (σ : Mem) (w : Int64) (x : Int32) (hF : Mf g σ) : Met l yX3_count wsX3_count ({ frames := 1, cells := 0, slots := 0, locals := 27 } : Room) (gPc g σ w [.ref (gad g 8 0), .int (x)]) (gM g g ((mCount (gst σ 8 0 0 0) x).2) w (some (.int (mCount (gst σ 8 0 0 0) x).1))) 0 0 (gA g) := by
  refine gx_ofW (cc := cX3_count) (maxL := 4) (ret := (some .int)) (by decide) rfl (Nat.le_of_ble_eq_true rfl) ?_
  intro p e s m below meth c0 hx hb hr hml hts hown hlocks hin hG hZ hS ls hl
  have hown : s.vm.findClass RX3 = some m.cls := hown
  have hl : lv_has ls 4 [(0, .ref (gad g 8 0)), (1, .int (x))] := hl
  have k1 := hts (.fieldLink RX3 53 "TaxiRankModel" "thrown" "I") (by decide +kernel)
  have k2 := hts (.fieldLink RX3 63 "TaxiRankModel" "orders" "I") (by decide +kernel)
  have k3 := hts (.fieldLink RX3 60 "TaxiRankModel" "cabs" "I") (by decide +kernel)
  have hM := hF.1
  have hc10 := hM.c10
  have ho60 := hM.o60
  refine lv_aload_n hx hb dX3_count_0 rfl (lv_at hl 0 rfl) ?_
  refine lv_iconst (v := 0) hx hb dX3_count_1 (by decide) ?_
  refine gx_put hx hb hown hZ hG hS 8 0 0 (0) hM.b8 rfl (by decide) k1 (fun _ h => h) rfl rfl trivial rfl rfl dX3_count_2 (fun H locs hG hS => ?_)
  have hM := hM.st8 (f := 0) (v := 0) rfl
  have hF := hF.thr (v := 0)
  obtain ⟨σ0, hσ0⟩ : ∃ z : Mem, z = gst σ 8 0 0 0 := ⟨_, rfl⟩
  rw [← hσ0] at hG hF
  rw [← hσ0]
  have hM := hF.1
  have hc10 := hM.c10
  have ho60 := hM.o60
  refine lv_iload_n hx hb dX3_count_5 rfl (lv_at hl 1 rfl) ?_
  refine lv_iconst (v := 0) hx hb dX3_count_6 (by decide) ?_
  refine lv_bipush (v := 7) hx hb dX3_count_7 (by decide) ?_
  refine gx_cR (gx_runS (As := [.int (x), .int (0), .int (7)]) (rest := []) ⟨hx, hb, hml, hown, hts⟩ (c_X3_isIn l g σ0 w x 0 7) (va_cwS 3 hts gX3_count_X3_isIn rfl rfl rfl (by decide +kernel) ⟨Nat.le_of_ble_eq_true rfl, Nat.le_of_ble_eq_true rfl⟩) hZ hG hS rfl hl.1 rfl (Nat.le_of_ble_eq_true rfl) dX3_count_9 ⟨Nat.le_of_ble_eq_true rfl, Nat.le_of_ble_eq_true rfl⟩) ?_
  refine lv_if_ne (tgt := 21) hx hb dX3_count_12 (by decide) (fun c_1 => ?_) (fun c_1 => ?_)
  · skip
    have c_1 := bI_ne0.mp c_1
    refine lv_iload_n hx hb dX3_count_21 rfl (lv_at hl 1 rfl) ?_
    refine lv_iconst (v := 2) hx hb dX3_count_22 (by decide) ?_
    refine lv_icmp_ge (tgt := 42) hx hb dX3_count_23 (by decide) (fun c_2 => ?_) (fun c_2 => ?_)
    · skip
      refine lv_iconst (v := 0) hx hb dX3_count_42 (by decide) ?_
      refine lv_istore_n (lv' := [(2, .int (0)), (0, .ref (gad g 8 0)), (1, .int (x))]) hx hb dX3_count_43 rfl hl (by decide) rfl (fun ls hl => ?_)
      refine lv_iconst (v := 0) hx hb dX3_count_44 (by decide) ?_
      refine lv_istore_n (lv' := [(3, .int (0)), (2, .int (0)), (0, .ref (gad g 8 0)), (1, .int (x))]) hx hb dX3_count_45 rfl hl (by decide) rfl (fun ls hl => ?_)
      have loop_46 : ∀ (nf : Nat) (r : Nat) (k : Nat) (acc : Int32), r < nf → (k + r = mO σ0) → ((mCntGo σ0 x r k acc, σ0) = mCount σ0 x) → ∀ ls : Array Slot, lv_has ls 4 [(0, .ref (gad g 8 0)), (1, .int (x)), (2, .int (acc)), (3, .int (nI k))] → W p l e ({ frames := 1, cells := 0, slots := 0, locals := 27 } : Room) s m ([.ref (gad g 8 0), .int (x)] : List Value).toArray below meth c0 H locs 0 0 (MQ below (gM g g ((mCount σ0 x).2) w (some (.int (mCount σ0 x).1))) ([.ref (gad g 8 0), .int (x)] : List Value).toArray s 0 0 (gA g)) (F0 m 46 ls []) := by
        intro nf
        induction nf with
        | zero => intro r k acc hn; exact absurd hn (Nat.not_lt_zero _)
        | succ nf ih =>
          intro r k acc hn hk hres ls hl
          refine lv_iload_n hx hb dX3_count_46 rfl (lv_at hl 3 rfl) ?_
          refine lv_aload_n hx hb dX3_count_47 rfl (lv_at hl 0 rfl) ?_
          refine gx_get hx hb hown hZ hG 8 0 15 hM.b8 rfl (by decide) k2 (fun _ h => h) (v := .int (σ0 8 0 15)) rfl dX3_count_48 ?_
          refine lv_icmp_ge (tgt := 79) hx hb dX3_count_51 (by decide) (fun c_3 => ?_) (fun c_3 => ?_)
          · skip
            have hge := le_of_nIle (hM.eO ▸ c_3) (by omega) (by omega)
            obtain rfl : r = 0 := by omega
            refine lv_iload_n hx hb dX3_count_79 rfl (lv_at hl 2 rfl) ?_
            exact gx_iretM hx hb hr hlocks hG hS (by rw [← hres]; rfl) (by rw [← hres]) (Nat.le_of_ble_eq_true rfl) (Nat.le_of_ble_eq_true rfl) dX3_count_80
          · skip
            have hkc := lt_of_nle (hM.eO ▸ c_3) (by omega)
            obtain ⟨r, rfl⟩ : ∃ q, r = q + 1 := ⟨r - 1, by omega⟩
            refine lv_iload_n hx hb dX3_count_54 rfl (lv_at hl 2 rfl) ?_
            refine lv_aload_n hx hb dX3_count_55 rfl (lv_at hl 0 rfl) ?_
            refine lv_iload_n hx hb dX3_count_56 rfl (lv_at hl 3 rfl) ?_
            refine gx_cR (gx_runV (As := [.int (nI k)]) (rest := [.int (acc)]) ⟨hx, hb, hml, hown, hts⟩ (c_X3_state l g σ0 w k hM (by omega)) (cwV 1 hts gX3_count_X3_state rfl rfl rfl (by decide +kernel) ⟨Nat.le_of_ble_eq_true rfl, Nat.le_of_ble_eq_true rfl⟩) (gx_obj hZ hG 8 0 hM.b8 rfl) hZ hG hS rfl hl.1 rfl (Nat.le_of_ble_eq_true rfl) dX3_count_57 ⟨Nat.le_of_ble_eq_true rfl, Nat.le_of_ble_eq_true rfl⟩) ?_
            refine lv_iload_n hx hb dX3_count_60 rfl (lv_at hl 1 rfl) ?_
            refine lv_iconst (v := 2) hx hb dX3_count_61 (by decide) ?_
            refine lv_isub hx hb dX3_count_62 ?_
            refine lv_icmp_ne (tgt := 70) hx hb dX3_count_63 (by decide) (fun c_4 => ?_) (fun c_4 => ?_)
            · skip
              refine lv_iconst (v := 0) hx hb dX3_count_70 (by decide) ?_
              refine lv_iadd hx hb dX3_count_71 ?_
              refine lv_istore_n (lv' := [(2, .int (acc + 0)), (0, .ref (gad g 8 0)), (1, .int (x)), (3, .int (nI k))]) hx hb dX3_count_72 rfl hl (by decide) rfl (fun ls hl => ?_)
              refine lv_iinc (v := nI (k + 1)) (lv' := [(3, .int (nI (k + 1))), (2, .int (acc + 0)), (0, .ref (gad g 8 0)), (1, .int (x))]) hx hb dX3_count_73 hl (k := 3) rfl (nI_1 _) (by decide) rfl (fun ls hl => ?_)
              refine lv_goto (tgt := 46) hx hb dX3_count_76 (by decide) ?_
              exact ih r (k + 1) (acc + 0) (by omega) (by omega) (by rw [← hres]; simp only [mCntGo, c_3, c_4, reduceIte]) ls (lv_sub hl [2, 3, 1, 0] rfl)
            · skip
              refine lv_iconst (v := 1) hx hb dX3_count_66 (by decide) ?_
              refine lv_goto (tgt := 71) hx hb dX3_count_67 (by decide) ?_
              refine lv_iadd hx hb dX3_count_71 ?_
              refine lv_istore_n (lv' := [(2, .int (acc + 1)), (0, .ref (gad g 8 0)), (1, .int (x)), (3, .int (nI k))]) hx hb dX3_count_72 rfl hl (by decide) rfl (fun ls hl => ?_)
              refine lv_iinc (v := nI (k + 1)) (lv' := [(3, .int (nI (k + 1))), (2, .int (acc + 1)), (0, .ref (gad g 8 0)), (1, .int (x))]) hx hb dX3_count_73 hl (k := 3) rfl (nI_1 _) (by decide) rfl (fun ls hl => ?_)
              refine lv_goto (tgt := 46) hx hb dX3_count_76 (by decide) ?_
              exact ih r (k + 1) (acc + 1) (by omega) (by omega) (by rw [← hres]; simp only [mCntGo, c_3, c_4, reduceIte]) ls (lv_sub hl [2, 3, 1, 0] rfl)
      exact loop_46 (mO σ0 + 1) (mO σ0) 0 0 (by omega) (by omega) (by unfold mCount; (try first | rw [if_pos c_1] | rw [if_neg c_1] | rw [if_neg (ne_true_of_eq_false c_1)]); (try first | rw [if_pos c_2] | rw [if_neg c_2] | rw [if_neg (ne_true_of_eq_false c_2)]); try rfl) ls (lv_sub hl [2, 3, 1, 0] rfl)
    · skip
      refine lv_iload_n hx hb dX3_count_26 rfl (lv_at hl 1 rfl) ?_
      refine lv_if_ne (tgt := 37) hx hb dX3_count_27 (by decide) (fun c_5 => ?_) (fun c_5 => ?_)
      · skip
        refine lv_aload_n hx hb dX3_count_37 rfl (lv_at hl 0 rfl) ?_
        refine gx_get hx hb hown hZ hG 8 0 15 hM.b8 rfl (by decide) k2 (fun _ h => h) (v := .int (σ0 8 0 15)) rfl dX3_count_38 ?_
        exact gx_iretM hx hb hr hlocks hG hS (by unfold mCount; (try first | rw [if_pos c_1] | rw [if_neg c_1] | rw [if_neg (ne_true_of_eq_false c_1)]); (try first | rw [if_pos c_2] | rw [if_neg c_2] | rw [if_neg (ne_true_of_eq_false c_2)]); (try first | rw [if_pos c_5] | rw [if_neg c_5] | rw [if_neg (ne_true_of_eq_false c_5)]); try rfl) (by unfold mCount; (try first | rw [if_pos c_1] | rw [if_neg c_1] | rw [if_neg (ne_true_of_eq_false c_1)]); (try first | rw [if_pos c_2] | rw [if_neg c_2] | rw [if_neg (ne_true_of_eq_false c_2)]); (try first | rw [if_pos c_5] | rw [if_neg c_5] | rw [if_neg (ne_true_of_eq_false c_5)]); try rfl) (Nat.le_of_ble_eq_true rfl) (Nat.le_of_ble_eq_true rfl) dX3_count_41
      · skip
        refine lv_aload_n hx hb dX3_count_30 rfl (lv_at hl 0 rfl) ?_
        refine gx_get hx hb hown hZ hG 8 0 5 hM.b8 rfl (by decide) k3 (fun _ h => h) (v := .int (σ0 8 0 5)) rfl dX3_count_31 ?_
        refine lv_goto (tgt := 41) hx hb dX3_count_34 (by decide) ?_
        exact gx_iretM hx hb hr hlocks hG hS (by unfold mCount; (try first | rw [if_pos c_1] | rw [if_neg c_1] | rw [if_neg (ne_true_of_eq_false c_1)]); (try first | rw [if_pos c_2] | rw [if_neg c_2] | rw [if_neg (ne_true_of_eq_false c_2)]); (try first | rw [if_pos c_5] | rw [if_neg c_5] | rw [if_neg (ne_true_of_eq_false c_5)]); try rfl) (by unfold mCount; (try first | rw [if_pos c_1] | rw [if_neg c_1] | rw [if_neg (ne_true_of_eq_false c_1)]); (try first | rw [if_pos c_2] | rw [if_neg c_2] | rw [if_neg (ne_true_of_eq_false c_2)]); (try first | rw [if_pos c_5] | rw [if_neg c_5] | rw [if_neg (ne_true_of_eq_false c_5)]); try rfl) (Nat.le_of_ble_eq_true rfl) (Nat.le_of_ble_eq_true rfl) dX3_count_41
  · skip
    have c_1 := bI_eq0.mp c_1
    refine lv_aload_n hx hb dX3_count_15 rfl (lv_at hl 0 rfl) ?_
    refine lv_iconst (v := 1) hx hb dX3_count_16 (by decide) ?_
    refine gx_cM (gx_runV (As := [.int (1)]) (rest := []) ⟨hx, hb, hml, hown, hts⟩ (c_X3_fail l g σ0 w 1 hM) (cwV 1 hts gX3_count_X3_fail rfl rfl rfl (by decide +kernel) ⟨Nat.le_of_ble_eq_true rfl, Nat.le_of_ble_eq_true rfl⟩) (gx_obj hZ hG 8 0 hM.b8 rfl) hZ hG hS rfl hl.1 rfl (Nat.le_of_ble_eq_true rfl) dX3_count_17 ⟨Nat.le_of_ble_eq_true rfl, Nat.le_of_ble_eq_true rfl⟩) hS (fun H locs hG hS hsz => ?_)
    exact gx_iretM hx hb hr hlocks hG hS (by unfold mCount; (try first | rw [if_pos c_1] | rw [if_neg c_1] | rw [if_neg (ne_true_of_eq_false c_1)]); try rfl) (by unfold mCount; (try first | rw [if_pos c_1] | rw [if_neg c_1] | rw [if_neg (ne_true_of_eq_false c_1)]); try rfl) (Nat.le_of_ble_eq_true rfl) (Nat.le_of_ble_eq_true rfl) dX3_count_20
set_option maxHeartbeats 4000000 in
set_option maxRecDepth 100000 in
theorem c_X3_money (l : Launch) (g : gG) (σ : Mem) (w : Int64) (n b : Int32) (hF : Mf g σ) : Met l yX3_money wsX3_money ({ frames := 2, cells := 0, slots := 0, locals := 45 } : Room) (gPc g σ w [.ref (gad g 8 0), .int (n), .int (b)]) (gM g g ((mMoney (gst σ 8 0 0 0) n b).2) w (some (.int (mMoney (gst σ 8 0 0 0) n b).1))) 0 0 (gA g) := by
  refine gx_ofW (cc := cX3_money) (maxL := 3) (ret := (some .int)) (by decide) rfl (Nat.le_of_ble_eq_true rfl) ?_
  intro p e s m below meth c0 hx hb hr hml hts hown hlocks hin hG hZ hS ls hl
  have hown : s.vm.findClass RX3 = some m.cls := hown
  have hl : lv_has ls 3 [(0, .ref (gad g 8 0)), (1, .int (n)), (2, .int (b))] := hl
  have k1 := hts (.fieldLink RX3 53 "TaxiRankModel" "thrown" "I") (by decide +kernel)
  have k2 := hts (.fieldLink RX3 38 "TaxiRankModel" "kept" "[I") (by decide +kernel)
  have k3 := hts (.fieldLink RX3 41 "TaxiRankModel" "dues" "[I") (by decide +kernel)
  have hM := hF.1
  have hc10 := hM.c10
  have ho60 := hM.o60
  refine lv_aload_n hx hb dX3_money_0 rfl (lv_at hl 0 rfl) ?_
  refine lv_iconst (v := 0) hx hb dX3_money_1 (by decide) ?_
  refine gx_put hx hb hown hZ hG hS 8 0 0 (0) hM.b8 rfl (by decide) k1 (fun _ h => h) rfl rfl trivial rfl rfl dX3_money_2 (fun H locs hG hS => ?_)
  have hM := hM.st8 (f := 0) (v := 0) rfl
  have hF := hF.thr (v := 0)
  obtain ⟨σ0, hσ0⟩ : ∃ z : Mem, z = gst σ 8 0 0 0 := ⟨_, rfl⟩
  rw [← hσ0] at hG hF
  rw [← hσ0]
  have hM := hF.1
  have hc10 := hM.c10
  have ho60 := hM.o60
  refine lv_aload_n hx hb dX3_money_5 rfl (lv_at hl 0 rfl) ?_
  refine lv_iload_n hx hb dX3_money_6 rfl (lv_at hl 1 rfl) ?_
  refine gx_cR (gx_runV (As := [.int (n)]) (rest := []) ⟨hx, hb, hml, hown, hts⟩ (c_X3_isCab l g σ0 w n hM) (cwV 1 hts gX3_money_X3_isCab rfl rfl rfl (by decide +kernel) ⟨Nat.le_of_ble_eq_true rfl, Nat.le_of_ble_eq_true rfl⟩) (gx_obj hZ hG 8 0 hM.b8 rfl) hZ hG hS rfl hl.1 rfl (Nat.le_of_ble_eq_true rfl) dX3_money_7 ⟨Nat.le_of_ble_eq_true rfl, Nat.le_of_ble_eq_true rfl⟩) ?_
  refine lv_if_ne (tgt := 19) hx hb dX3_money_10 (by decide) (fun c_1 => ?_) (fun c_1 => ?_)
  · skip
    have c_1 := bI_ne0.mp c_1
    have hcn := hM.isC c_1
    have hcn1 := hcn.1
    rw [hcn.2] at hl
    refine lv_iload_n hx hb dX3_money_19 rfl (lv_at hl 2 rfl) ?_
    refine lv_if_eq (tgt := 32) hx hb dX3_money_20 (by decide) (fun c_2 => ?_) (fun c_2 => ?_)
    · skip
      refine lv_aload_n hx hb dX3_money_32 rfl (lv_at hl 0 rfl) ?_
      refine gx_get hx hb hown hZ hG 8 0 13 hM.b8 rfl (by decide) k2 (fun _ h => h) (v := .ref (gad g 9 7)) (grf_j (hM.rf (f := 13) rfl) (by decide)) dX3_money_33 ?_
      refine lv_iload_n hx hb dX3_money_36 rfl (lv_at hl 1 rfl) ?_
      refine gx_aldN hx hb hZ hG 9 7 (ix n) (by rfl) (hM.b9 (by decide)) rfl rfl ⟨by rw [hM.lc (i := 7) (by decide) (by decide)]; omega, by omega⟩ (v := .int (σ0 9 7 (ix n))) rfl dX3_money_37 ?_
      exact gx_iretM hx hb hr hlocks hG hS (by unfold mMoney; (try first | rw [if_pos c_1] | rw [if_neg c_1] | rw [if_neg (ne_true_of_eq_false c_1)]); (try first | rw [if_pos c_2] | rw [if_neg c_2] | rw [if_neg (ne_true_of_eq_false c_2)]); try rfl) (by unfold mMoney; (try first | rw [if_pos c_1] | rw [if_neg c_1] | rw [if_neg (ne_true_of_eq_false c_1)]); (try first | rw [if_pos c_2] | rw [if_neg c_2] | rw [if_neg (ne_true_of_eq_false c_2)]); try rfl) (Nat.le_of_ble_eq_true rfl) (Nat.le_of_ble_eq_true rfl) dX3_money_38
    · skip
      refine lv_aload_n hx hb dX3_money_23 rfl (lv_at hl 0 rfl) ?_
      refine gx_get hx hb hown hZ hG 8 0 14 hM.b8 rfl (by decide) k3 (fun _ h => h) (v := .ref (gad g 9 8)) (grf_j (hM.rf (f := 14) rfl) (by decide)) dX3_money_24 ?_
      refine lv_iload_n hx hb dX3_money_27 rfl (lv_at hl 1 rfl) ?_
      refine gx_aldN hx hb hZ hG 9 8 (ix n) (by rfl) (hM.b9 (by decide)) rfl rfl ⟨by rw [hM.lc (i := 8) (by decide) (by decide)]; omega, by omega⟩ (v := .int (σ0 9 8 (ix n))) rfl dX3_money_28 ?_
      refine lv_goto (tgt := 38) hx hb dX3_money_29 (by decide) ?_
      exact gx_iretM hx hb hr hlocks hG hS (by unfold mMoney; (try first | rw [if_pos c_1] | rw [if_neg c_1] | rw [if_neg (ne_true_of_eq_false c_1)]); (try first | rw [if_pos c_2] | rw [if_neg c_2] | rw [if_neg (ne_true_of_eq_false c_2)]); try rfl) (by unfold mMoney; (try first | rw [if_pos c_1] | rw [if_neg c_1] | rw [if_neg (ne_true_of_eq_false c_1)]); (try first | rw [if_pos c_2] | rw [if_neg c_2] | rw [if_neg (ne_true_of_eq_false c_2)]); try rfl) (Nat.le_of_ble_eq_true rfl) (Nat.le_of_ble_eq_true rfl) dX3_money_38
  · skip
    have c_1 := bI_eq0.mp c_1
    refine lv_aload_n hx hb dX3_money_13 rfl (lv_at hl 0 rfl) ?_
    refine lv_iconst (v := 1) hx hb dX3_money_14 (by decide) ?_
    refine gx_cM (gx_runV (As := [.int (1)]) (rest := []) ⟨hx, hb, hml, hown, hts⟩ (c_X3_fail l g σ0 w 1 hM) (cwV 1 hts gX3_money_X3_fail rfl rfl rfl (by decide +kernel) ⟨Nat.le_of_ble_eq_true rfl, Nat.le_of_ble_eq_true rfl⟩) (gx_obj hZ hG 8 0 hM.b8 rfl) hZ hG hS rfl hl.1 rfl (Nat.le_of_ble_eq_true rfl) dX3_money_15 ⟨Nat.le_of_ble_eq_true rfl, Nat.le_of_ble_eq_true rfl⟩) hS (fun H locs hG hS hsz => ?_)
    exact gx_iretM hx hb hr hlocks hG hS (by unfold mMoney; (try first | rw [if_pos c_1] | rw [if_neg c_1] | rw [if_neg (ne_true_of_eq_false c_1)]); try rfl) (by unfold mMoney; (try first | rw [if_pos c_1] | rw [if_neg c_1] | rw [if_neg (ne_true_of_eq_false c_1)]); try rfl) (Nat.le_of_ble_eq_true rfl) (Nat.le_of_ble_eq_true rfl) dX3_money_18
set_option maxHeartbeats 4000000 in
set_option maxRecDepth 100000 in
theorem c_X3_settle (l : Launch) (g : gG) (σ : Mem) (w : Int64) (n : Int32) (hF : Mf g σ) : Met l yX3_settle wsX3_settle ({ frames := 2, cells := 0, slots := 0, locals := 45 } : Room) (gPc g σ w [.ref (gad g 8 0), .int (n)]) (gM g g ((mSettle (gst σ 8 0 0 0) n).2) w (some (.int (mSettle (gst σ 8 0 0 0) n).1))) 0 0 (gA g) := by
  refine gx_ofW (cc := cX3_settle) (maxL := 3) (ret := (some .int)) (by decide) rfl (Nat.le_of_ble_eq_true rfl) ?_
  intro p e s m below meth c0 hx hb hr hml hts hown hlocks hin hG hZ hS ls hl
  have hown : s.vm.findClass RX3 = some m.cls := hown
  have hl : lv_has ls 3 [(0, .ref (gad g 8 0)), (1, .int (n))] := hl
  have k1 := hts (.fieldLink RX3 53 "TaxiRankModel" "thrown" "I") (by decide +kernel)
  have k2 := hts (.fieldLink RX3 41 "TaxiRankModel" "dues" "[I") (by decide +kernel)
  have hM := hF.1
  have hc10 := hM.c10
  have ho60 := hM.o60
  refine lv_aload_n hx hb dX3_settle_0 rfl (lv_at hl 0 rfl) ?_
  refine lv_iconst (v := 0) hx hb dX3_settle_1 (by decide) ?_
  refine gx_put hx hb hown hZ hG hS 8 0 0 (0) hM.b8 rfl (by decide) k1 (fun _ h => h) rfl rfl trivial rfl rfl dX3_settle_2 (fun H locs hG hS => ?_)
  have hM := hM.st8 (f := 0) (v := 0) rfl
  have hF := hF.thr (v := 0)
  obtain ⟨σ0, hσ0⟩ : ∃ z : Mem, z = gst σ 8 0 0 0 := ⟨_, rfl⟩
  rw [← hσ0] at hG hF
  rw [← hσ0]
  have hM := hF.1
  have hc10 := hM.c10
  have ho60 := hM.o60
  refine lv_aload_n hx hb dX3_settle_5 rfl (lv_at hl 0 rfl) ?_
  refine lv_iload_n hx hb dX3_settle_6 rfl (lv_at hl 1 rfl) ?_
  refine gx_cR (gx_runV (As := [.int (n)]) (rest := []) ⟨hx, hb, hml, hown, hts⟩ (c_X3_isCab l g σ0 w n hM) (cwV 1 hts gX3_settle_X3_isCab rfl rfl rfl (by decide +kernel) ⟨Nat.le_of_ble_eq_true rfl, Nat.le_of_ble_eq_true rfl⟩) (gx_obj hZ hG 8 0 hM.b8 rfl) hZ hG hS rfl hl.1 rfl (Nat.le_of_ble_eq_true rfl) dX3_settle_7 ⟨Nat.le_of_ble_eq_true rfl, Nat.le_of_ble_eq_true rfl⟩) ?_
  refine lv_if_ne (tgt := 19) hx hb dX3_settle_10 (by decide) (fun c_1 => ?_) (fun c_1 => ?_)
  · skip
    have c_1 := bI_ne0.mp c_1
    have hcn := hM.isC c_1
    have hcn1 := hcn.1
    rw [hcn.2] at hl
    refine lv_aload_n hx hb dX3_settle_19 rfl (lv_at hl 0 rfl) ?_
    refine gx_get hx hb hown hZ hG 8 0 14 hM.b8 rfl (by decide) k2 (fun _ h => h) (v := .ref (gad g 9 8)) (grf_j (hM.rf (f := 14) rfl) (by decide)) dX3_settle_20 ?_
    refine lv_iload_n hx hb dX3_settle_23 rfl (lv_at hl 1 rfl) ?_
    refine gx_aldN hx hb hZ hG 9 8 (ix n) (by rfl) (hM.b9 (by decide)) rfl rfl ⟨by rw [hM.lc (i := 8) (by decide) (by decide)]; omega, by omega⟩ (v := .int (σ0 9 8 (ix n))) rfl dX3_settle_24 ?_
    refine lv_istore_n (lv' := [(2, .int (σ0 9 8 (ix n))), (0, .ref (gad g 8 0)), (1, .int (nI (ix n)))]) hx hb dX3_settle_25 rfl hl (by decide) rfl (fun ls hl => ?_)
    refine lv_aload_n hx hb dX3_settle_26 rfl (lv_at hl 1 rfl) ?_
    refine gx_get hx hb hown hZ hG 8 0 14 hM.b8 rfl (by decide) k2 (fun _ h => h) (v := .ref (gad g 9 8)) (grf_j (hM.rf (f := 14) rfl) (by decide)) dX3_settle_27 ?_
    refine lv_iload_n hx hb dX3_settle_30 rfl (lv_at hl 2 rfl) ?_
    refine lv_iconst (v := 0) hx hb dX3_settle_31 (by decide) ?_
    refine gx_astN hx hb hZ hG hS 9 8 (ix n) (by rfl) (hM.b9 (by decide)) rfl rfl ⟨by rw [hM.lc (i := 8) (by decide) (by decide)]; omega, by omega⟩ rfl trivial dX3_settle_32 (fun H locs hG hS => ?_)
    have hM := hM.st9 (i := 8) (f := ix n) (v := 0) (by decide)
    refine lv_iload_n hx hb dX3_settle_33 rfl (lv_at hl 0 rfl) ?_
    exact gx_iretM hx hb hr hlocks hG hS (by unfold mSettle; (try first | rw [if_pos c_1] | rw [if_neg c_1] | rw [if_neg (ne_true_of_eq_false c_1)]); try rfl) (by unfold mSettle; (try first | rw [if_pos c_1] | rw [if_neg c_1] | rw [if_neg (ne_true_of_eq_false c_1)]); try rfl) (Nat.le_of_ble_eq_true rfl) (Nat.le_of_ble_eq_true rfl) dX3_settle_34
  · skip
    have c_1 := bI_eq0.mp c_1
    refine lv_aload_n hx hb dX3_settle_13 rfl (lv_at hl 0 rfl) ?_
    refine lv_iconst (v := 1) hx hb dX3_settle_14 (by decide) ?_
    refine gx_cM (gx_runV (As := [.int (1)]) (rest := []) ⟨hx, hb, hml, hown, hts⟩ (c_X3_fail l g σ0 w 1 hM) (cwV 1 hts gX3_settle_X3_fail rfl rfl rfl (by decide +kernel) ⟨Nat.le_of_ble_eq_true rfl, Nat.le_of_ble_eq_true rfl⟩) (gx_obj hZ hG 8 0 hM.b8 rfl) hZ hG hS rfl hl.1 rfl (Nat.le_of_ble_eq_true rfl) dX3_settle_15 ⟨Nat.le_of_ble_eq_true rfl, Nat.le_of_ble_eq_true rfl⟩) hS (fun H locs hG hS hsz => ?_)
    exact gx_iretM hx hb hr hlocks hG hS (by unfold mSettle; (try first | rw [if_pos c_1] | rw [if_neg c_1] | rw [if_neg (ne_true_of_eq_false c_1)]); try rfl) (by unfold mSettle; (try first | rw [if_pos c_1] | rw [if_neg c_1] | rw [if_neg (ne_true_of_eq_false c_1)]); try rfl) (Nat.le_of_ble_eq_true rfl) (Nat.le_of_ble_eq_true rfl) dX3_settle_18
set_option maxHeartbeats 4000000 in
set_option maxRecDepth 100000 in
theorem c_X3_lateness (l : Launch) (g : gG) (σ : Mem) (w : Int64) (hF : Mf g σ) : Met l yX3_lateness wsX3_lateness ({ frames := 1, cells := 0, slots := 0, locals := 26 } : Room) (gPc g σ w [.ref (gad g 8 0)]) (gM g g (gst σ 8 0 0 0) w (some (.double (xQuo (mLa (gst σ 8 0 0 0)))))) 0 0 (gA g) := by
  refine gx_ofW (cc := cX3_lateness) (maxL := 4) (ret := (some .double)) (by decide) rfl (Nat.le_of_ble_eq_true rfl) ?_
  intro p e s m below meth c0 hx hb hr hml hts hown hlocks hin hG hZ hS ls hl
  have hown : s.vm.findClass RX3 = some m.cls := hown
  have hl : lv_has ls 4 [(0, .ref (gad g 8 0))] := hl
  have k1 := hts (.fieldLink RX3 53 "TaxiRankModel" "thrown" "I") (by decide +kernel)
  have k2 := hts (.fieldLink RX3 63 "TaxiRankModel" "orders" "I") (by decide +kernel)
  have hM := hF.1
  have hc10 := hM.c10
  have ho60 := hM.o60
  refine lv_aload_n hx hb dX3_lateness_0 rfl (lv_at hl 0 rfl) ?_
  refine lv_iconst (v := 0) hx hb dX3_lateness_1 (by decide) ?_
  refine gx_put hx hb hown hZ hG hS 8 0 0 (0) hM.b8 rfl (by decide) k1 (fun _ h => h) rfl rfl trivial rfl rfl dX3_lateness_2 (fun H locs hG hS => ?_)
  have hM := hM.st8 (f := 0) (v := 0) rfl
  have hF := hF.thr (v := 0)
  obtain ⟨σ0, hσ0⟩ : ∃ z : Mem, z = gst σ 8 0 0 0 := ⟨_, rfl⟩
  rw [← hσ0] at hG hF
  rw [← hσ0]
  have hM := hF.1
  have hc10 := hM.c10
  have ho60 := hM.o60
  refine lv_iconst (v := 0) hx hb dX3_lateness_5 (by decide) ?_
  refine lv_istore_n (lv' := [(1, .int (0)), (0, .ref (gad g 8 0))]) hx hb dX3_lateness_6 rfl hl (by decide) rfl (fun ls hl => ?_)
  refine lv_iconst (v := 0) hx hb dX3_lateness_7 (by decide) ?_
  refine lv_istore_n (lv' := [(2, .int (0)), (1, .int (0)), (0, .ref (gad g 8 0))]) hx hb dX3_lateness_8 rfl hl (by decide) rfl (fun ls hl => ?_)
  refine lv_iconst (v := 0) hx hb dX3_lateness_9 (by decide) ?_
  refine lv_istore_n (lv' := [(3, .int (0)), (2, .int (0)), (1, .int (0)), (0, .ref (gad g 8 0))]) hx hb dX3_lateness_10 rfl hl (by decide) rfl (fun ls hl => ?_)
  have loop_11 : ∀ (nf : Nat) (r : Nat) (k : Nat) (n : Int32) (t : Int32), r < nf → (k + r = mO σ0) → (mLaGo σ0 r k n t = mLa σ0) → ∀ ls : Array Slot, lv_has ls 4 [(0, .ref (gad g 8 0)), (1, .int (n)), (2, .int (t)), (3, .int (nI k))] → W p l e ({ frames := 1, cells := 0, slots := 0, locals := 26 } : Room) s m ([.ref (gad g 8 0)] : List Value).toArray below meth c0 H locs 0 0 (MQ below (gM g g σ0 w (some (.double (xQuo (mLa σ0))))) ([.ref (gad g 8 0)] : List Value).toArray s 0 0 (gA g)) (F0 m 11 ls []) := by
    intro nf
    induction nf with
    | zero => intro r k n t hn; exact absurd hn (Nat.not_lt_zero _)
    | succ nf ih =>
      intro r k n t hn hk hres ls hl
      refine lv_iload_n hx hb dX3_lateness_11 rfl (lv_at hl 3 rfl) ?_
      refine lv_aload_n hx hb dX3_lateness_12 rfl (lv_at hl 0 rfl) ?_
      refine gx_get hx hb hown hZ hG 8 0 15 hM.b8 rfl (by decide) k2 (fun _ h => h) (v := .int (σ0 8 0 15)) rfl dX3_lateness_13 ?_
      refine lv_icmp_ge (tgt := 59) hx hb dX3_lateness_16 (by decide) (fun c_1 => ?_) (fun c_1 => ?_)
      · skip
        have hge := le_of_nIle (hM.eO ▸ c_1) (by omega) (by omega)
        obtain rfl : r = 0 := by omega
        have hres : mLa σ0 = (n, t) := hres.symm
        refine lv_iload_n hx hb dX3_lateness_59 rfl (lv_at hl 1 rfl) ?_
        refine lv_if_ne (tgt := 67) hx hb dX3_lateness_60 (by decide) (fun c_2 => ?_) (fun c_2 => ?_)
        · skip
          refine lv_iload_n hx hb dX3_lateness_67 rfl (lv_at hl 2 rfl) ?_
          refine lv_i2d hx hb dX3_lateness_68 ?_
          refine lv_iload_n hx hb dX3_lateness_69 rfl (lv_at hl 1 rfl) ?_
          refine lv_i2d hx hb dX3_lateness_70 ?_
          refine lv_ddiv hx hb dX3_lateness_71 (gd_n64 (gd_div c_2)) ?_
          exact gx_dretM hx hb hr hlocks hG hS (by rw [hres]; simp only [xQuo, c_2, reduceIte]) rfl (Nat.le_of_ble_eq_true rfl) (Nat.le_of_ble_eq_true rfl) dX3_lateness_72
        · skip
          refine lv_dconst0 hx hb dX3_lateness_63 ?_
          refine lv_goto (tgt := 72) hx hb dX3_lateness_64 (by decide) ?_
          exact gx_dretM hx hb hr hlocks hG hS (by rw [hres]; simp only [xQuo, c_2, reduceIte]) rfl (Nat.le_of_ble_eq_true rfl) (Nat.le_of_ble_eq_true rfl) dX3_lateness_72
      · skip
        have hkc := lt_of_nle (hM.eO ▸ c_1) (by omega)
        obtain ⟨r, rfl⟩ : ∃ q, r = q + 1 := ⟨r - 1, by omega⟩
        refine lv_aload_n hx hb dX3_lateness_19 rfl (lv_at hl 0 rfl) ?_
        refine lv_iload_n hx hb dX3_lateness_20 rfl (lv_at hl 3 rfl) ?_
        refine lv_bipush (v := 6) hx hb dX3_lateness_21 (by decide) ?_
        refine gx_cR (gx_runV (As := [.int (nI k), .int (6)]) (rest := []) ⟨hx, hb, hml, hown, hts⟩ (c_X3_get l g σ0 w k 6 hM (by omega) (by decide)) (cwV 2 hts gX3_lateness_X3_get rfl rfl rfl (by decide +kernel) ⟨Nat.le_of_ble_eq_true rfl, Nat.le_of_ble_eq_true rfl⟩) (gx_obj hZ hG 8 0 hM.b8 rfl) hZ hG hS rfl hl.1 rfl (Nat.le_of_ble_eq_true rfl) dX3_lateness_23 ⟨Nat.le_of_ble_eq_true rfl, Nat.le_of_ble_eq_true rfl⟩) ?_
        refine lv_iconst (v := (-1)) hx hb dX3_lateness_26 (by decide) ?_
        refine lv_icmp_ne (tgt := 33) hx hb dX3_lateness_27 (by decide) (fun c_3 => ?_) (fun c_3 => ?_)
        · skip
          refine lv_iinc (v := n + 1) (lv' := [(1, .int (n + 1)), (0, .ref (gad g 8 0)), (2, .int (t)), (3, .int (nI k))]) hx hb dX3_lateness_33 hl (k := 1) rfl rfl (by decide) rfl (fun ls hl => ?_)
          refine lv_iload_n hx hb dX3_lateness_36 rfl (lv_at hl 2 rfl) ?_
          refine lv_aload_n hx hb dX3_lateness_37 rfl (lv_at hl 1 rfl) ?_
          refine lv_iload_n hx hb dX3_lateness_38 rfl (lv_at hl 3 rfl) ?_
          refine lv_bipush (v := 6) hx hb dX3_lateness_39 (by decide) ?_
          refine gx_cR (gx_runV (As := [.int (nI k), .int (6)]) (rest := [.int (t)]) ⟨hx, hb, hml, hown, hts⟩ (c_X3_get l g σ0 w k 6 hM (by omega) (by decide)) (cwV 2 hts gX3_lateness_X3_get rfl rfl rfl (by decide +kernel) ⟨Nat.le_of_ble_eq_true rfl, Nat.le_of_ble_eq_true rfl⟩) (gx_obj hZ hG 8 0 hM.b8 rfl) hZ hG hS rfl hl.1 rfl (Nat.le_of_ble_eq_true rfl) dX3_lateness_41 ⟨Nat.le_of_ble_eq_true rfl, Nat.le_of_ble_eq_true rfl⟩) ?_
          refine lv_aload_n hx hb dX3_lateness_44 rfl (lv_at hl 1 rfl) ?_
          refine lv_iload_n hx hb dX3_lateness_45 rfl (lv_at hl 3 rfl) ?_
          refine lv_iconst (v := 3) hx hb dX3_lateness_46 (by decide) ?_
          refine gx_cR (gx_runV (As := [.int (nI k), .int (3)]) (rest := [.int (mT σ0 k 6), .int (t)]) ⟨hx, hb, hml, hown, hts⟩ (c_X3_get l g σ0 w k 3 hM (by omega) (by decide)) (cwV 2 hts gX3_lateness_X3_get rfl rfl rfl (by decide +kernel) ⟨Nat.le_of_ble_eq_true rfl, Nat.le_of_ble_eq_true rfl⟩) (gx_obj hZ hG 8 0 hM.b8 rfl) hZ hG hS rfl hl.1 rfl (Nat.le_of_ble_eq_true rfl) dX3_lateness_47 ⟨Nat.le_of_ble_eq_true rfl, Nat.le_of_ble_eq_true rfl⟩) ?_
          refine lv_isub hx hb dX3_lateness_50 ?_
          refine lv_iadd hx hb dX3_lateness_51 ?_
          refine lv_istore_n (lv' := [(2, .int (t + ((mT σ0 k 6) - (mT σ0 k 3)))), (1, .int (n + 1)), (0, .ref (gad g 8 0)), (3, .int (nI k))]) hx hb dX3_lateness_52 rfl hl (by decide) rfl (fun ls hl => ?_)
          refine lv_iinc (v := nI (k + 1)) (lv' := [(3, .int (nI (k + 1))), (2, .int (t + ((mT σ0 k 6) - (mT σ0 k 3)))), (1, .int (n + 1)), (0, .ref (gad g 8 0))]) hx hb dX3_lateness_53 hl (k := 3) rfl (nI_1 _) (by decide) rfl (fun ls hl => ?_)
          refine lv_goto (tgt := 11) hx hb dX3_lateness_56 (by decide) ?_
          exact ih r (k + 1) (n + 1) (t + ((mT σ0 k 6) - (mT σ0 k 3))) (by omega) (by omega) (by rw [← hres]; simp only [mLaGo, c_1, c_3, reduceIte]) ls (lv_sub hl [3, 2, 1, 0] rfl)
        · skip
          refine lv_goto (tgt := 53) hx hb dX3_lateness_30 (by decide) ?_
          refine lv_iinc (v := nI (k + 1)) (lv' := [(3, .int (nI (k + 1))), (0, .ref (gad g 8 0)), (1, .int (n)), (2, .int (t))]) hx hb dX3_lateness_53 hl (k := 3) rfl (nI_1 _) (by decide) rfl (fun ls hl => ?_)
          refine lv_goto (tgt := 11) hx hb dX3_lateness_56 (by decide) ?_
          exact ih r (k + 1) (n) (t) (by omega) (by omega) (by rw [← hres]; simp only [mLaGo, c_1, c_3, reduceIte]) ls (lv_sub hl [1, 2, 3, 0] rfl)
  exact loop_11 (mO σ0 + 1) (mO σ0) 0 0 0 (by omega) (by omega) rfl ls (lv_sub hl [3, 2, 1, 0] rfl)
set_option maxHeartbeats 4000000 in
set_option maxRecDepth 100000 in
theorem c_X3_nearest (l : Launch) (g : gG) (σ : Mem) (w : Int64) (z n : Int32) (hF : Mf g σ) : Met l yX3_nearest wsX3_nearest ({ frames := 2, cells := 0, slots := 0, locals := 46 } : Room) (gPc g σ w [.ref (gad g 8 0), .int (z), .int (n)]) (gM g g ((mNearest (gst σ 8 0 0 0) z n).2) w (some (.int (mNearest (gst σ 8 0 0 0) z n).1))) 0 0 (gA g) := by
  refine gx_ofW (cc := cX3_nearest) (maxL := 5) (ret := (some .int)) (by decide) rfl (Nat.le_of_ble_eq_true rfl) ?_
  intro p e s m below meth c0 hx hb hr hml hts hown hlocks hin hG hZ hS ls hl
  have hown : s.vm.findClass RX3 = some m.cls := hown
  have hl : lv_has ls 5 [(0, .ref (gad g 8 0)), (1, .int (z)), (2, .int (n))] := hl
  have k1 := hts (.fieldLink RX3 53 "TaxiRankModel" "thrown" "I") (by decide +kernel)
  have k2 := hts (.fieldLink RX3 60 "TaxiRankModel" "cabs" "I") (by decide +kernel)
  have k3 := hts (.fieldLink RX3 26 "TaxiRankModel" "doing" "[I") (by decide +kernel)
  have k4 := hts (.fieldLink RX3 29 "TaxiRankModel" "orderOf" "[I") (by decide +kernel)
  have k5 := hts (.fieldLink RX3 20 "TaxiRankModel" "seats" "[I") (by decide +kernel)
  have k6 := hts (.fieldLink RX3 23 "TaxiRankModel" "zones" "[I") (by decide +kernel)
  have hM := hF.1
  have hc10 := hM.c10
  have ho60 := hM.o60
  refine lv_aload_n hx hb dX3_nearest_0 rfl (lv_at hl 0 rfl) ?_
  refine lv_iconst (v := 0) hx hb dX3_nearest_1 (by decide) ?_
  refine gx_put hx hb hown hZ hG hS 8 0 0 (0) hM.b8 rfl (by decide) k1 (fun _ h => h) rfl rfl trivial rfl rfl dX3_nearest_2 (fun H locs hG hS => ?_)
  have hM := hM.st8 (f := 0) (v := 0) rfl
  have hF := hF.thr (v := 0)
  obtain ⟨σ0, hσ0⟩ : ∃ z : Mem, z = gst σ 8 0 0 0 := ⟨_, rfl⟩
  rw [← hσ0] at hG hF
  rw [← hσ0]
  have hM := hF.1
  have hc10 := hM.c10
  have ho60 := hM.o60
  refine lv_iload_n hx hb dX3_nearest_5 rfl (lv_at hl 1 rfl) ?_
  refine gx_cR (gx_runS (As := [.int (z)]) (rest := []) ⟨hx, hb, hml, hown, hts⟩ (c_X3_isZone l g σ0 w z) (va_cwS 1 hts gX3_nearest_X3_isZone rfl rfl rfl (by decide +kernel) ⟨Nat.le_of_ble_eq_true rfl, Nat.le_of_ble_eq_true rfl⟩) hZ hG hS rfl hl.1 rfl (Nat.le_of_ble_eq_true rfl) dX3_nearest_6 ⟨Nat.le_of_ble_eq_true rfl, Nat.le_of_ble_eq_true rfl⟩) ?_
  refine lv_if_ne (tgt := 18) hx hb dX3_nearest_9 (by decide) (fun c_1 => ?_) (fun c_1 => ?_)
  · skip
    have c_1 := bI_ne0.mp c_1
    refine lv_iload_n hx hb dX3_nearest_18 rfl (lv_at hl 2 rfl) ?_
    refine lv_iconst (v := 1) hx hb dX3_nearest_19 (by decide) ?_
    refine lv_bipush (v := 8) hx hb dX3_nearest_20 (by decide) ?_
    refine gx_cR (gx_runS (As := [.int (n), .int (1), .int (8)]) (rest := []) ⟨hx, hb, hml, hown, hts⟩ (c_X3_isIn l g σ0 w n 1 8) (va_cwS 3 hts gX3_nearest_X3_isIn rfl rfl rfl (by decide +kernel) ⟨Nat.le_of_ble_eq_true rfl, Nat.le_of_ble_eq_true rfl⟩) hZ hG hS rfl hl.1 rfl (Nat.le_of_ble_eq_true rfl) dX3_nearest_22 ⟨Nat.le_of_ble_eq_true rfl, Nat.le_of_ble_eq_true rfl⟩) ?_
    refine lv_if_ne (tgt := 34) hx hb dX3_nearest_25 (by decide) (fun c_2 => ?_) (fun c_2 => ?_)
    · skip
      have c_2 := bI_ne0.mp c_2
      have hz : mZ z := mZo_z (by assumption)
      refine lv_iconst (v := (-1)) hx hb dX3_nearest_34 (by decide) ?_
      refine lv_istore_n (lv' := [(3, .int (-1)), (0, .ref (gad g 8 0)), (1, .int (z)), (2, .int (n))]) hx hb dX3_nearest_35 rfl hl (by decide) rfl (fun ls hl => ?_)
      refine lv_iconst (v := 0) hx hb dX3_nearest_36 (by decide) ?_
      refine lv_istore (lv' := [(4, .int (0)), (3, .int (-1)), (0, .ref (gad g 8 0)), (1, .int (z)), (2, .int (n))]) hx hb dX3_nearest_37 hl (by decide) rfl (fun ls hl => ?_)
      have loop_39 : ∀ (nf : Nat) (r : Nat) (k : Nat) (best : Int32), r < nf → (k + r = mC σ0) → ((mNeGo σ0 z n r k best, σ0) = mNearest σ0 z n) → ∀ ls : Array Slot, lv_has ls 5 [(0, .ref (gad g 8 0)), (1, .int (z)), (2, .int (n)), (3, .int (best)), (4, .int (nI k))] → W p l e ({ frames := 2, cells := 0, slots := 0, locals := 46 } : Room) s m ([.ref (gad g 8 0), .int (z), .int (n)] : List Value).toArray below meth c0 H locs 0 0 (MQ below (gM g g ((mNearest σ0 z n).2) w (some (.int (mNearest σ0 z n).1))) ([.ref (gad g 8 0), .int (z), .int (n)] : List Value).toArray s 0 0 (gA g)) (F0 m 39 ls []) := by
        intro nf
        induction nf with
        | zero => intro r k best hn; exact absurd hn (Nat.not_lt_zero _)
        | succ nf ih =>
          intro r k best hn hk hres ls hl
          refine lv_iload hx hb dX3_nearest_39 (lv_at hl 4 rfl) ?_
          refine lv_aload_n hx hb dX3_nearest_41 rfl (lv_at hl 0 rfl) ?_
          refine gx_get hx hb hown hZ hG 8 0 5 hM.b8 rfl (by decide) k2 (fun _ h => h) (v := .int (σ0 8 0 5)) rfl dX3_nearest_42 ?_
          refine lv_icmp_ge (tgt := 121) hx hb dX3_nearest_45 (by decide) (fun c_3 => ?_) (fun c_3 => ?_)
          · skip
            have hge := le_of_nIle (hM.eC ▸ c_3) (by omega) (by omega)
            obtain rfl : r = 0 := by omega
            refine lv_iload_n hx hb dX3_nearest_121 rfl (lv_at hl 3 rfl) ?_
            exact gx_iretM hx hb hr hlocks hG hS (by rw [← hres]; rfl) (by rw [← hres]) (Nat.le_of_ble_eq_true rfl) (Nat.le_of_ble_eq_true rfl) dX3_nearest_122
          · skip
            have hkc := lt_of_nle (hM.eC ▸ c_3) (by omega)
            obtain ⟨r, rfl⟩ : ∃ q, r = q + 1 := ⟨r - 1, by omega⟩
            refine lv_aload_n hx hb dX3_nearest_48 rfl (lv_at hl 0 rfl) ?_
            refine gx_get hx hb hown hZ hG 8 0 8 hM.b8 rfl (by decide) k3 (fun _ h => h) (v := .ref (gad g 9 3)) (grf_j (hM.rf (f := 8) rfl) (by decide)) dX3_nearest_49 ?_
            refine lv_iload hx hb dX3_nearest_52 (lv_at hl 4 rfl) ?_
            refine gx_aldN hx hb hZ hG 9 3 k (by rfl) (hM.b9 (by decide)) rfl rfl ⟨by rw [hM.lc (i := 3) (by decide) (by decide)]; omega, by omega⟩ (v := .int (σ0 9 3 k)) rfl dX3_nearest_54 ?_
            refine lv_iconst (v := 1) hx hb dX3_nearest_55 (by decide) ?_
            refine lv_icmp_ne (tgt := 115) hx hb dX3_nearest_56 (by decide) (fun c_4 => ?_) (fun c_4 => ?_)
            · skip
              refine lv_iinc (v := nI (k + 1)) (lv' := [(4, .int (nI (k + 1))), (0, .ref (gad g 8 0)), (1, .int (z)), (2, .int (n)), (3, .int (best))]) hx hb dX3_nearest_115 hl (k := 4) rfl (nI_1 _) (by decide) rfl (fun ls hl => ?_)
              refine lv_goto (tgt := 39) hx hb dX3_nearest_118 (by decide) ?_
              exact ih r (k + 1) (best) (by omega) (by omega) (by rw [← hres]; simp only [mNeGo, c_3, c_4, reduceIte]) ls (lv_sub hl [1, 2, 3, 4, 0] rfl)
            · skip
              refine lv_aload_n hx hb dX3_nearest_59 rfl (lv_at hl 0 rfl) ?_
              refine gx_get hx hb hown hZ hG 8 0 9 hM.b8 rfl (by decide) k4 (fun _ h => h) (v := .ref (gad g 9 4)) (grf_j (hM.rf (f := 9) rfl) (by decide)) dX3_nearest_60 ?_
              refine lv_iload hx hb dX3_nearest_63 (lv_at hl 4 rfl) ?_
              refine gx_aldN hx hb hZ hG 9 4 k (by rfl) (hM.b9 (by decide)) rfl rfl ⟨by rw [hM.lc (i := 4) (by decide) (by decide)]; omega, by omega⟩ (v := .int (σ0 9 4 k)) rfl dX3_nearest_65 ?_
              refine lv_iconst (v := (-1)) hx hb dX3_nearest_66 (by decide) ?_
              refine lv_icmp_ne (tgt := 115) hx hb dX3_nearest_67 (by decide) (fun c_5 => ?_) (fun c_5 => ?_)
              · skip
                refine lv_iinc (v := nI (k + 1)) (lv' := [(4, .int (nI (k + 1))), (0, .ref (gad g 8 0)), (1, .int (z)), (2, .int (n)), (3, .int (best))]) hx hb dX3_nearest_115 hl (k := 4) rfl (nI_1 _) (by decide) rfl (fun ls hl => ?_)
                refine lv_goto (tgt := 39) hx hb dX3_nearest_118 (by decide) ?_
                exact ih r (k + 1) (best) (by omega) (by omega) (by rw [← hres]; simp only [mNeGo, c_3, c_4, c_5, reduceIte]) ls (lv_sub hl [1, 2, 3, 4, 0] rfl)
              · skip
                refine lv_aload_n hx hb dX3_nearest_70 rfl (lv_at hl 0 rfl) ?_
                refine gx_get hx hb hown hZ hG 8 0 6 hM.b8 rfl (by decide) k5 (fun _ h => h) (v := .ref (gad g 9 1)) (grf_j (hM.rf (f := 6) rfl) (by decide)) dX3_nearest_71 ?_
                refine lv_iload hx hb dX3_nearest_74 (lv_at hl 4 rfl) ?_
                refine gx_aldN hx hb hZ hG 9 1 k (by rfl) (hM.b9 (by decide)) rfl rfl ⟨by rw [hM.lc (i := 1) (by decide) (by decide)]; omega, by omega⟩ (v := .int (σ0 9 1 k)) rfl dX3_nearest_76 ?_
                refine lv_iload_n hx hb dX3_nearest_77 rfl (lv_at hl 2 rfl) ?_
                refine lv_icmp_lt (tgt := 115) hx hb dX3_nearest_78 (by decide) (fun c_6 => ?_) (fun c_6 => ?_)
                · skip
                  refine lv_iinc (v := nI (k + 1)) (lv' := [(4, .int (nI (k + 1))), (0, .ref (gad g 8 0)), (1, .int (z)), (2, .int (n)), (3, .int (best))]) hx hb dX3_nearest_115 hl (k := 4) rfl (nI_1 _) (by decide) rfl (fun ls hl => ?_)
                  refine lv_goto (tgt := 39) hx hb dX3_nearest_118 (by decide) ?_
                  exact ih r (k + 1) (best) (by omega) (by omega) (by rw [← hres]; simp only [mNeGo, c_3, c_4, c_5, c_6, reduceIte]) ls (lv_sub hl [1, 2, 3, 4, 0] rfl)
                · skip
                  refine lv_iload_n hx hb dX3_nearest_81 rfl (lv_at hl 3 rfl) ?_
                  refine lv_iconst (v := (-1)) hx hb dX3_nearest_82 (by decide) ?_
                  refine lv_icmp_eq (tgt := 102) hx hb dX3_nearest_83 (by decide) (fun c_7 => ?_) (fun c_7 => ?_)
                  · skip
                    refine lv_aload_n hx hb dX3_nearest_102 rfl (lv_at hl 0 rfl) ?_
                    refine lv_aload_n hx hb dX3_nearest_103 rfl (lv_at hl 0 rfl) ?_
                    refine gx_get hx hb hown hZ hG 8 0 7 hM.b8 rfl (by decide) k6 (fun _ h => h) (v := .ref (gad g 9 2)) (grf_j (hM.rf (f := 7) rfl) (by decide)) dX3_nearest_104 ?_
                    refine lv_iload hx hb dX3_nearest_107 (lv_at hl 4 rfl) ?_
                    refine gx_aldN hx hb hZ hG 9 2 k (by rfl) (hM.b9 (by decide)) rfl rfl ⟨by rw [hM.lc (i := 2) (by decide) (by decide)]; omega, by omega⟩ (v := .int (σ0 9 2 k)) rfl dX3_nearest_109 ?_
                    refine lv_iload_n hx hb dX3_nearest_110 rfl (lv_at hl 1 rfl) ?_
                    refine gx_cR (gx_runV (As := [.int (σ0 9 2 k), .int (z)]) (rest := []) ⟨hx, hb, hml, hown, hts⟩ (c_X3_way l g σ0 w (σ0 9 2 k) z hM (hM.z (by omega)) hz) (cwV 2 hts gX3_nearest_X3_way rfl rfl rfl (by decide +kernel) ⟨Nat.le_of_ble_eq_true rfl, Nat.le_of_ble_eq_true rfl⟩) (gx_obj hZ hG 8 0 hM.b8 rfl) hZ hG hS rfl hl.1 rfl (Nat.le_of_ble_eq_true rfl) dX3_nearest_111 ⟨Nat.le_of_ble_eq_true rfl, Nat.le_of_ble_eq_true rfl⟩) ?_
                    refine lv_istore_n (lv' := [(3, .int (mWay σ0 (σ0 9 2 k) z)), (0, .ref (gad g 8 0)), (1, .int (z)), (2, .int (n)), (4, .int (nI k))]) hx hb dX3_nearest_114 rfl hl (by decide) rfl (fun ls hl => ?_)
                    refine lv_iinc (v := nI (k + 1)) (lv' := [(4, .int (nI (k + 1))), (3, .int (mWay σ0 (σ0 9 2 k) z)), (0, .ref (gad g 8 0)), (1, .int (z)), (2, .int (n))]) hx hb dX3_nearest_115 hl (k := 4) rfl (nI_1 _) (by decide) rfl (fun ls hl => ?_)
                    refine lv_goto (tgt := 39) hx hb dX3_nearest_118 (by decide) ?_
                    exact ih r (k + 1) (mWay σ0 (σ0 9 2 k) z) (by omega) (by omega) (by rw [← hres]; simp only [mNeGo, c_3, c_4, c_5, c_6, c_7, reduceIte]) ls (lv_sub hl [2, 3, 4, 1, 0] rfl)
                  · skip
                    refine lv_aload_n hx hb dX3_nearest_86 rfl (lv_at hl 0 rfl) ?_
                    refine lv_aload_n hx hb dX3_nearest_87 rfl (lv_at hl 0 rfl) ?_
                    refine gx_get hx hb hown hZ hG 8 0 7 hM.b8 rfl (by decide) k6 (fun _ h => h) (v := .ref (gad g 9 2)) (grf_j (hM.rf (f := 7) rfl) (by decide)) dX3_nearest_88 ?_
                    refine lv_iload hx hb dX3_nearest_91 (lv_at hl 4 rfl) ?_
                    refine gx_aldN hx hb hZ hG 9 2 k (by rfl) (hM.b9 (by decide)) rfl rfl ⟨by rw [hM.lc (i := 2) (by decide) (by decide)]; omega, by omega⟩ (v := .int (σ0 9 2 k)) rfl dX3_nearest_93 ?_
                    refine lv_iload_n hx hb dX3_nearest_94 rfl (lv_at hl 1 rfl) ?_
                    refine gx_cR (gx_runV (As := [.int (σ0 9 2 k), .int (z)]) (rest := []) ⟨hx, hb, hml, hown, hts⟩ (c_X3_way l g σ0 w (σ0 9 2 k) z hM (hM.z (by omega)) hz) (cwV 2 hts gX3_nearest_X3_way rfl rfl rfl (by decide +kernel) ⟨Nat.le_of_ble_eq_true rfl, Nat.le_of_ble_eq_true rfl⟩) (gx_obj hZ hG 8 0 hM.b8 rfl) hZ hG hS rfl hl.1 rfl (Nat.le_of_ble_eq_true rfl) dX3_nearest_95 ⟨Nat.le_of_ble_eq_true rfl, Nat.le_of_ble_eq_true rfl⟩) ?_
                    refine lv_iload_n hx hb dX3_nearest_98 rfl (lv_at hl 3 rfl) ?_
                    refine lv_icmp_ge (tgt := 115) hx hb dX3_nearest_99 (by decide) (fun c_8 => ?_) (fun c_8 => ?_)
                    · skip
                      refine lv_iinc (v := nI (k + 1)) (lv' := [(4, .int (nI (k + 1))), (0, .ref (gad g 8 0)), (1, .int (z)), (2, .int (n)), (3, .int (best))]) hx hb dX3_nearest_115 hl (k := 4) rfl (nI_1 _) (by decide) rfl (fun ls hl => ?_)
                      refine lv_goto (tgt := 39) hx hb dX3_nearest_118 (by decide) ?_
                      exact ih r (k + 1) (best) (by omega) (by omega) (by rw [← hres]; simp only [mNeGo, c_3, c_4, c_5, c_6, c_7, c_8, reduceIte]) ls (lv_sub hl [1, 2, 3, 4, 0] rfl)
                    · skip
                      refine lv_aload_n hx hb dX3_nearest_102 rfl (lv_at hl 0 rfl) ?_
                      refine lv_aload_n hx hb dX3_nearest_103 rfl (lv_at hl 0 rfl) ?_
                      refine gx_get hx hb hown hZ hG 8 0 7 hM.b8 rfl (by decide) k6 (fun _ h => h) (v := .ref (gad g 9 2)) (grf_j (hM.rf (f := 7) rfl) (by decide)) dX3_nearest_104 ?_
                      refine lv_iload hx hb dX3_nearest_107 (lv_at hl 4 rfl) ?_
                      refine gx_aldN hx hb hZ hG 9 2 k (by rfl) (hM.b9 (by decide)) rfl rfl ⟨by rw [hM.lc (i := 2) (by decide) (by decide)]; omega, by omega⟩ (v := .int (σ0 9 2 k)) rfl dX3_nearest_109 ?_
                      refine lv_iload_n hx hb dX3_nearest_110 rfl (lv_at hl 1 rfl) ?_
                      refine gx_cR (gx_runV (As := [.int (σ0 9 2 k), .int (z)]) (rest := []) ⟨hx, hb, hml, hown, hts⟩ (c_X3_way l g σ0 w (σ0 9 2 k) z hM (hM.z (by omega)) hz) (cwV 2 hts gX3_nearest_X3_way rfl rfl rfl (by decide +kernel) ⟨Nat.le_of_ble_eq_true rfl, Nat.le_of_ble_eq_true rfl⟩) (gx_obj hZ hG 8 0 hM.b8 rfl) hZ hG hS rfl hl.1 rfl (Nat.le_of_ble_eq_true rfl) dX3_nearest_111 ⟨Nat.le_of_ble_eq_true rfl, Nat.le_of_ble_eq_true rfl⟩) ?_
                      refine lv_istore_n (lv' := [(3, .int (mWay σ0 (σ0 9 2 k) z)), (0, .ref (gad g 8 0)), (1, .int (z)), (2, .int (n)), (4, .int (nI k))]) hx hb dX3_nearest_114 rfl hl (by decide) rfl (fun ls hl => ?_)
                      refine lv_iinc (v := nI (k + 1)) (lv' := [(4, .int (nI (k + 1))), (3, .int (mWay σ0 (σ0 9 2 k) z)), (0, .ref (gad g 8 0)), (1, .int (z)), (2, .int (n))]) hx hb dX3_nearest_115 hl (k := 4) rfl (nI_1 _) (by decide) rfl (fun ls hl => ?_)
                      refine lv_goto (tgt := 39) hx hb dX3_nearest_118 (by decide) ?_
                      exact ih r (k + 1) (mWay σ0 (σ0 9 2 k) z) (by omega) (by omega) (by rw [← hres]; simp only [mNeGo, c_3, c_4, c_5, c_6, c_7, c_8, reduceIte]) ls (lv_sub hl [2, 3, 4, 1, 0] rfl)
      exact loop_39 (mC σ0 + 1) (mC σ0) 0 (-1) (by omega) (by omega) (by unfold mNearest; (try first | rw [if_pos c_1] | rw [if_neg c_1] | rw [if_neg (ne_true_of_eq_false c_1)]); (try first | rw [if_pos c_2] | rw [if_neg c_2] | rw [if_neg (ne_true_of_eq_false c_2)]); try rfl) ls (lv_sub hl [2, 3, 4, 1, 0] rfl)
    · skip
      have c_2 := bI_eq0.mp c_2
      refine lv_aload_n hx hb dX3_nearest_28 rfl (lv_at hl 0 rfl) ?_
      refine lv_iconst (v := 2) hx hb dX3_nearest_29 (by decide) ?_
      refine gx_cM (gx_runV (As := [.int (2)]) (rest := []) ⟨hx, hb, hml, hown, hts⟩ (c_X3_fail l g σ0 w 2 hM) (cwV 1 hts gX3_nearest_X3_fail rfl rfl rfl (by decide +kernel) ⟨Nat.le_of_ble_eq_true rfl, Nat.le_of_ble_eq_true rfl⟩) (gx_obj hZ hG 8 0 hM.b8 rfl) hZ hG hS rfl hl.1 rfl (Nat.le_of_ble_eq_true rfl) dX3_nearest_30 ⟨Nat.le_of_ble_eq_true rfl, Nat.le_of_ble_eq_true rfl⟩) hS (fun H locs hG hS hsz => ?_)
      exact gx_iretM hx hb hr hlocks hG hS (by unfold mNearest; (try first | rw [if_pos c_1] | rw [if_neg c_1] | rw [if_neg (ne_true_of_eq_false c_1)]); (try first | rw [if_pos c_2] | rw [if_neg c_2] | rw [if_neg (ne_true_of_eq_false c_2)]); try rfl) (by unfold mNearest; (try first | rw [if_pos c_1] | rw [if_neg c_1] | rw [if_neg (ne_true_of_eq_false c_1)]); (try first | rw [if_pos c_2] | rw [if_neg c_2] | rw [if_neg (ne_true_of_eq_false c_2)]); try rfl) (Nat.le_of_ble_eq_true rfl) (Nat.le_of_ble_eq_true rfl) dX3_nearest_33
  · skip
    have c_1 := bI_eq0.mp c_1
    refine lv_aload_n hx hb dX3_nearest_12 rfl (lv_at hl 0 rfl) ?_
    refine lv_iconst (v := 1) hx hb dX3_nearest_13 (by decide) ?_
    refine gx_cM (gx_runV (As := [.int (1)]) (rest := []) ⟨hx, hb, hml, hown, hts⟩ (c_X3_fail l g σ0 w 1 hM) (cwV 1 hts gX3_nearest_X3_fail rfl rfl rfl (by decide +kernel) ⟨Nat.le_of_ble_eq_true rfl, Nat.le_of_ble_eq_true rfl⟩) (gx_obj hZ hG 8 0 hM.b8 rfl) hZ hG hS rfl hl.1 rfl (Nat.le_of_ble_eq_true rfl) dX3_nearest_14 ⟨Nat.le_of_ble_eq_true rfl, Nat.le_of_ble_eq_true rfl⟩) hS (fun H locs hG hS hsz => ?_)
    exact gx_iretM hx hb hr hlocks hG hS (by unfold mNearest; (try first | rw [if_pos c_1] | rw [if_neg c_1] | rw [if_neg (ne_true_of_eq_false c_1)]); try rfl) (by unfold mNearest; (try first | rw [if_pos c_1] | rw [if_neg c_1] | rw [if_neg (ne_true_of_eq_false c_1)]); try rfl) (Nat.le_of_ble_eq_true rfl) (Nat.le_of_ble_eq_true rfl) dX3_nearest_17
