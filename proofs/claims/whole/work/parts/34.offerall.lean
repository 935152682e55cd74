def mBeGo (σ : Mem) : Nat → Nat → Int32 → Int32
  | 0, _, best => best
  | r + 1, k, best => if mT σ k 4 = 0 then (if σ 8 0 1 < mT σ k 3 - 15 then mBeGo σ r (k + 1) best else if mCf σ k = -1 then mBeGo σ r (k + 1) best
      else if best = -1 then mBeGo σ r (k + 1) (nI k) else if mT σ (ix best) 3 ≤ mT σ k 3 then mBeGo σ r (k + 1) best else mBeGo σ r (k + 1) (nI k)) else mBeGo σ r (k + 1) best
def mBest (σ : Mem) : Int32 := mBeGo σ (mO σ) 0 (-1)
def mOff1 (σ : Mem) : Mem := gst (gst (gst (gst σ 9 4 (ix (mCf σ (ix (mBest σ)))) (mBest σ)) 9 5 (ix (mCf σ (ix (mBest σ)))) (σ 8 0 1)) 9 9 (8 * ix (mBest σ) + 4) 1) 9 9 (8 * ix (mBest σ) + 5) (mCf σ (ix (mBest σ)))
def mOAGo : Nat → Mem → Mem
  | 0, σ => σ
  | r + 1, σ => if mBest σ = -1 then σ else mOAGo r (mOff1 σ)
def mOA (σ : Mem) : Mem := mOAGo 11 σ
def mIdGo (σ : Mem) : Nat → Nat
  | 0 => 0
  | n + 1 => mIdGo σ n + (if σ 9 3 n = 1 ∧ σ 9 4 n = -1 then 1 else 0)
def mIdle (σ : Mem) : Nat := mIdGo σ (mC σ)
theorem mIdGo_le (σ : Mem) : ∀ n, mIdGo σ n ≤ n
  | 0 => Nat.le_refl _
  | n + 1 => by
    have := mIdGo_le σ n
    rw [mIdGo]
    split <;> omega
theorem mIdGo_lt {σ σ' : Mem} {c : Nat} (h3 : ∀ k, σ' 9 3 k = σ 9 3 k) (h4 : ∀ k, k ≠ c → σ' 9 4 k = σ 9 4 k) (hc : σ 9 3 c = 1 ∧ σ 9 4 c = -1) (hc2 : ¬ σ' 9 4 c = -1) : ∀ n, (n ≤ c → mIdGo σ' n = mIdGo σ n) ∧ (c < n → mIdGo σ' n + 1 = mIdGo σ n)
  | 0 => ⟨fun _ => rfl, fun h => absurd h (Nat.not_lt_zero _)⟩
  | n + 1 => by
    obtain ⟨i1, i2⟩ := mIdGo_lt h3 h4 hc hc2 n
    refine ⟨fun h => ?_, fun h => ?_⟩
    · rw [mIdGo, mIdGo, i1 (by omega), h3, h4 n (by omega)]
    · rw [mIdGo, mIdGo]
      by_cases e : n = c
      · subst e
        rw [i1 (Nat.le_refl _), if_pos hc, if_neg (fun z => hc2 z.2)]
      · have := i2 (by omega)
        rw [h3, h4 n e]
        omega
theorem mCfGo_ok {σ : Mem} (o : Nat) : ∀ (r k : Nat) (best : Int32), (best = -1 ∨ ∃ j, j < k ∧ best = nI j ∧ mCan σ o j = true) → (mCfGo σ o r k best = -1 ∨ ∃ j, j < k + r ∧ mCfGo σ o r k best = nI j ∧ mCan σ o j = true)
  | 0, k, best, h => h
  | r + 1, k, best, h => by
    have e : k + (r + 1) = k + 1 + r := by omega
    rw [e]
    have h1 : best = -1 ∨ ∃ j, j < k + 1 ∧ best = nI j ∧ mCan σ o j = true := h.imp id (fun ⟨j, a, b, c⟩ => ⟨j, by omega, b, c⟩)
    simp only [mCfGo]
    split
    · next hc =>
      repeat' split
      all_goals first | exact mCfGo_ok o r (k + 1) _ (Or.inr ⟨k, by omega, rfl, hc⟩) | exact mCfGo_ok o r (k + 1) _ h1
    · exact mCfGo_ok o r (k + 1) _ h1
theorem mCf_ok {σ : Mem} (o : Nat) : mCf σ o = -1 ∨ ∃ j, j < mC σ ∧ mCf σ o = nI j ∧ mCan σ o j = true := by
  have := mCfGo_ok (σ := σ) o (mC σ) 0 (-1) (Or.inl rfl)
  rw [Nat.zero_add] at this
  exact this
theorem mBeGo_ok {σ : Mem} : ∀ (r k : Nat) (best : Int32), (best = -1 ∨ ∃ j, j < k ∧ best = nI j ∧ ¬ mCf σ j = -1) → (mBeGo σ r k best = -1 ∨ ∃ j, j < k + r ∧ mBeGo σ r k best = nI j ∧ ¬ mCf σ j = -1)
  | 0, k, best, h => h
  | r + 1, k, best, h => by
    have e : k + (r + 1) = k + 1 + r := by omega
    rw [e]
    have h1 : best = -1 ∨ ∃ j, j < k + 1 ∧ best = nI j ∧ ¬ mCf σ j = -1 := h.imp id (fun ⟨j, a, b, c⟩ => ⟨j, by omega, b, c⟩)
    simp only [mBeGo]
    split
    · split
      · exact mBeGo_ok r (k + 1) _ h1
      · split
        · exact mBeGo_ok r (k + 1) _ h1
        · next hc =>
          repeat' split
          all_goals first | exact mBeGo_ok r (k + 1) _ (Or.inr ⟨k, by omega, rfl, hc⟩) | exact mBeGo_ok r (k + 1) _ h1
    · exact mBeGo_ok r (k + 1) _ h1
theorem mBest_ok {σ : Mem} : mBest σ = -1 ∨ ∃ j, j < mO σ ∧ mBest σ = nI j ∧ ¬ mCf σ j = -1 := by
  have := mBeGo_ok (σ := σ) (mO σ) 0 (-1) (Or.inl rfl)
  rw [Nat.zero_add] at this
  exact this
theorem mCan_idle {σ : Mem} {o c : Nat} (h : mCan σ o c = true) : σ 9 3 c = 1 ∧ σ 9 4 c = -1 := by
  unfold mCan at h
  split at h
  · next h1 =>
    split at h
    · next h2 => exact ⟨h1, h2⟩
    · cases h
  · cases h
/-- what is offered next: the order, the cab -/
theorem Mok.best {g : gG} {σ : Mem} (h : Mok g σ) (hb : ¬ mBest σ = -1) : ∃ o c, o < mO σ ∧ c < mC σ ∧ mBest σ = nI o ∧ ix (mBest σ) = o ∧ mCf σ o = nI c ∧ ix (mCf σ o) = c ∧ mCan σ o c = true := by
  have h60 := h.o60
  have h10 := h.c10
  obtain ⟨o, ho, eo, hc⟩ := mBest_ok.resolve_left hb
  obtain ⟨c, hc1, ec, hcan⟩ := (mCf_ok o).resolve_left hc
  exact ⟨o, c, ho, hc1, eo, by rw [eo, ix_nI (by omega)], ec, by rw [ec, ix_nI (by omega)], hcan⟩
theorem Mok.off1 {g : gG} {σ : Mem} (h : Mok g σ) : Mok g (mOff1 σ) := ((((h.st9 (by decide)).st9 (by decide)).stT (by decide)).stT (by decide))
theorem mC_9 {σ : Mem} {i f : Nat} {v : Int32} : mC (gst σ 9 i f v) = mC σ := by unfold mC; rw [gst_nk (by decide)]
theorem mO_9 {σ : Mem} {i f : Nat} {v : Int32} : mO (gst σ 9 i f v) = mO σ := by unfold mO; rw [gst_nk (by decide)]
theorem Mok.idle {g : gG} {σ : Mem} (h : Mok g σ) (hb : ¬ mBest σ = -1) : mIdle (mOff1 σ) + 1 = mIdle σ := by
  obtain ⟨o, c, ho, hc, eo, eo2, ec, ec2, hcan⟩ := h.best hb
  have h60 := h.o60
  have e : mC (mOff1 σ) = mC σ := by unfold mOff1; rw [mC_9, mC_9, mC_9, mC_9]
  unfold mIdle
  rw [e]
  refine (mIdGo_lt (c := c) (fun k => ?_) (fun k hk => ?_) (mCan_idle hcan) ?_ _).2 hc
  · unfold mOff1; rw [gst_ni (by decide), gst_ni (by decide), gst_ni (by decide), gst_ni (by decide)]
  · unfold mOff1; rw [gst_ni (by decide), gst_ni (by decide), gst_ni (by decide), eo2, ec2, gst_nf hk]
  · unfold mOff1; rw [gst_ni (by decide), gst_ni (by decide), gst_ni (by decide), eo2, ec2, gst_eq, eo]; exact nI_nm (by omega)
theorem Mok.oaGo {g : gG} : ∀ (r : Nat) {σ : Mem} (_ : Mok g σ), Mok g (mOAGo r σ)
  | 0, _, h => h
  | r + 1, σ, h => by
    simp only [mOAGo]
    split
    · exact h
    · exact Mok.oaGo r h.off1
theorem Mok.oa {g : gG} {σ : Mem} (h : Mok g σ) : Mok g (mOA σ) := Mok.oaGo 11 h
theorem Mok.id10 {g : gG} {σ : Mem} (h : Mok g σ) : mIdle σ < 11 := by
  have := mIdGo_le σ (mC σ)
  have := h.c10
  unfold mIdle
  omega
set_option maxHeartbeats 4000000 in
set_option maxRecDepth 100000 in
theorem c_X3_offerAll (l : Launch) (g : gG) (σ : Mem) (w : Int64) (hM : Mok g σ) : Met l yX3_offerAll wsX3_offerAll ({ frames := 3, cells := 0, slots := 0, locals := 72 } : Room) (gPc g σ w [.ref (gad g 8 0)]) (gM g g (mOA σ) w (none)) 0 0 (gA g) := by
  refine gx_ofW (cc := cX3_offerAll) (maxL := 4) (ret := none) (by decide) rfl (Nat.le_of_ble_eq_true rfl) ?_
  intro p e s m below meth c0 hx hb hr hml hts hown hlocks hin hG hZ hS ls hl
  have hown : s.vm.findClass RX3 = some m.cls := hown
  have hl : lv_has ls 4 [(0, .ref (gad g 8 0))] := hl
  have k1 := hts (.fieldLink RX3 63 "TaxiRankModel" "orders" "I") (by decide +kernel)
  have k2 := hts (.fieldLink RX3 29 "TaxiRankModel" "orderOf" "[I") (by decide +kernel)
  have k3 := hts (.fieldLink RX3 32 "TaxiRankModel" "times" "[I") (by decide +kernel)
  have k4 := hts (.fieldLink RX3 121 "TaxiRankModel" "now" "I") (by decide +kernel)
  have hc10 := hM.c10
  have ho60 := hM.o60
  refine lv_iconst (v := 1) hx hb dX3_offerAll_0 (by decide) ?_
  refine lv_istore_n (lv' := [(1, .int (1)), (0, .ref (gad g 8 0))]) hx hb dX3_offerAll_1 rfl hl (by decide) rfl (fun ls hl => ?_)
  have loop_2 : ∀ (nf : Nat) (r : Nat) (b : Bool) (σ1 : Mem), (2 * r + if b = true then 1 else 0) < nf → (Mok g σ1) → (b = true → mIdle σ1 < r) → ((if b = true then mOAGo r σ1 else σ1) = mOA σ) → ∀ (H : Heap) (locs : List Loc), GW g σ1 w H → va_S (gA g) s.heap H locs → ∀ ls : Array Slot, lv_has ls 4 [(0, .ref (gad g 8 0)), (1, .int (bI b))] → W p l e ({ frames := 3, cells := 0, slots := 0, locals := 72 } : Room) s m ([.ref (gad g 8 0)] : List Value).toArray below meth c0 H locs 0 0 (MQ below (gM g g (mOA σ) w (none)) ([.ref (gad g 8 0)] : List Value).toArray s 0 0 (gA g)) (F0 m 2 ls []) := by
    intro nf
    induction nf with
    | zero => intro r b σ1 hn; exact absurd hn (Nat.not_lt_zero _)
    | succ nf ih =>
      intro r b σ1 hn hM hid hres H locs hG hS ls hl
      have hc10 := hM.c10
      have ho60 := hM.o60
      refine lv_iload_n hx hb dX3_offerAll_2 rfl (lv_at hl 1 rfl) ?_
      refine lv_if_eq (tgt := 140) hx hb dX3_offerAll_3 (by decide) (fun c_1 => ?_) (fun c_1 => ?_)
      · skip
        have c_1 := bI_eq0.mp c_1
        exact gx_vretM hx hb hr hlocks hG hS (by rw [← hres, if_neg (by rw [c_1]; decide)]) (Nat.le_of_ble_eq_true rfl) (Nat.le_of_ble_eq_true rfl) dX3_offerAll_140
      · skip
        have c_1 := bI_ne0.mp c_1
        have hbt : b = true := c_1
        have ihO := ih
        have hnO := hn
        obtain ⟨rO, hrO⟩ : ∃ z : Nat, z = r := ⟨_, rfl⟩
        rw [← hrO] at hid hres hnO
        refine lv_iconst (v := (-1)) hx hb dX3_offerAll_6 (by decide) ?_
        refine lv_istore_n (lv' := [(2, .int (-1)), (0, .ref (gad g 8 0)), (1, .int (bI b))]) hx hb dX3_offerAll_7 rfl hl (by decide) rfl (fun ls hl => ?_)
        refine lv_iconst (v := 0) hx hb dX3_offerAll_8 (by decide) ?_
        refine lv_istore_n (lv' := [(3, .int (0)), (2, .int (-1)), (0, .ref (gad g 8 0)), (1, .int (bI b))]) hx hb dX3_offerAll_9 rfl hl (by decide) rfl (fun ls hl => ?_)
        have loop_10 : ∀ (nf : Nat) (r : Nat) (k : Nat) (best : Int32), r < nf → (k + r = mO σ1) → (best = -1 ∨ ∃ j, j < 60 ∧ best = nI j) → (mBeGo σ1 r k best = mBest σ1) → ∀ ls : Array Slot, lv_has ls 4 [(0, .ref (gad g 8 0)), (2, .int (best)), (3, .int (nI k))] → W p l e ({ frames := 3, cells := 0, slots := 0, locals := 72 } : Room) s m ([.ref (gad g 8 0)] : List Value).toArray below meth c0 H locs 0 0 (MQ below (gM g g (mOA σ) w (none)) ([.ref (gad g 8 0)] : List Value).toArray s 0 0 (gA g)) (F0 m 10 ls []) := by
          intro nf
          induction nf with
          | zero => intro r k best hn; exact absurd hn (Nat.not_lt_zero _)
          | succ nf ih =>
            intro r k best hn hk hbst hre2 ls hl
            refine lv_iload_n hx hb dX3_offerAll_10 rfl (lv_at hl 2 rfl) ?_
            refine lv_aload_n hx hb dX3_offerAll_11 rfl (lv_at hl 0 rfl) ?_
            refine gx_get hx hb hown hZ hG 8 0 15 hM.b8 rfl (by decide) k1 (fun _ h => h) (v := .int (σ1 8 0 15)) rfl dX3_offerAll_12 ?_
            refine lv_icmp_ge (tgt := 82) hx hb dX3_offerAll_15 (by decide) (fun c_2 => ?_) (fun c_2 => ?_)
            · skip
              have hge := le_of_nIle (hM.eO ▸ c_2) (by omega) (by omega)
              obtain rfl : r = 0 := by omega
              have hre3 : best = mBest σ1 := hre2
              refine lv_iload_n hx hb dX3_offerAll_82 rfl (lv_at hl 1 rfl) ?_
              refine lv_iconst (v := (-1)) hx hb dX3_offerAll_83 (by decide) ?_
              refine lv_icmp_eq (tgt := 91) hx hb dX3_offerAll_84 (by decide) (fun c_3 => ?_) (fun c_3 => ?_)
              · skip
                have hbn : mBest σ1 = -1 := by rw [← hre3]; exact c_3
                refine lv_iconst (v := 0) hx hb dX3_offerAll_91 (by decide) ?_
                refine lv_istore_n (lv' := [(1, .int (0)), (0, .ref (gad g 8 0)), (2, .int (best)), (3, .int (nI k))]) hx hb dX3_offerAll_92 rfl hl (by decide) rfl (fun ls hl => ?_)
                refine lv_iload_n hx hb dX3_offerAll_93 rfl (lv_at hl 0 rfl) ?_
                refine lv_if_ne (tgt := 100) hx hb dX3_offerAll_94 (by decide) (fun c_4 => ?_) (fun c_4 => ?_)
                · skip
                  exact absurd rfl c_4
                · skip
                  refine lv_goto (tgt := 2) hx hb dX3_offerAll_97 (by decide) ?_
                  exact ihO rO false σ1 (by simp [hbt] at hnO ⊢; omega) hM (fun z => nomatch z) (by rw [← hres, if_pos hbt, if_neg (by decide)]; have h8 := hid hbt; clear hrO hnO hid hres; cases rO with | zero => exact absurd h8 (Nat.not_lt_zero _) | succ q => rw [mOAGo, if_pos hbn]) H locs hG hS ls (lv_sub hl [1, 0] rfl)
              · skip
                have hb9 : ¬ mBest σ1 = -1 := by rw [← hre3]; exact c_3
                obtain ⟨o, c, ho, hc, eo, eo2, ec, ec2, hcan⟩ := hM.best hb9
                have hidl := hM.idle hb9
                have hM9 := hM.off1
                rw [hre3, eo] at hl
                refine lv_iconst (v := 1) hx hb dX3_offerAll_87 (by decide) ?_
                refine lv_goto (tgt := 92) hx hb dX3_offerAll_88 (by decide) ?_
                refine lv_istore_n (lv' := [(1, .int (1)), (0, .ref (gad g 8 0)), (2, .int (nI o)), (3, .int (nI k))]) hx hb dX3_offerAll_92 rfl hl (by decide) rfl (fun ls hl => ?_)
                refine lv_iload_n hx hb dX3_offerAll_93 rfl (lv_at hl 0 rfl) ?_
                refine lv_if_ne (tgt := 100) hx hb dX3_offerAll_94 (by decide) (fun c_5 => ?_) (fun c_5 => ?_)
                · skip
                  refine lv_aload_n hx hb dX3_offerAll_100 rfl (lv_at hl 1 rfl) ?_
                  refine lv_iload_n hx hb dX3_offerAll_101 rfl (lv_at hl 2 rfl) ?_
                  refine gx_cR (gx_runV (As := [.int (nI o)]) (rest := []) ⟨hx, hb, hml, hown, hts⟩ (c_X3_cabFor l g σ1 w o hM (by omega)) (cwV 1 hts gX3_offerAll_X3_cabFor rfl rfl rfl (by decide +kernel) ⟨Nat.le_of_ble_eq_true rfl, Nat.le_of_ble_eq_true rfl⟩) (gx_obj hZ hG 8 0 hM.b8 rfl) hZ hG hS rfl hl.1 rfl (Nat.le_of_ble_eq_true rfl) dX3_offerAll_102 ⟨Nat.le_of_ble_eq_true rfl, Nat.le_of_ble_eq_true rfl⟩) ?_
                  refine gx_topN ec ?_
                  refine lv_istore_n (lv' := [(3, .int (nI c)), (1, .int (1)), (0, .ref (gad g 8 0)), (2, .int (nI o))]) hx hb dX3_offerAll_105 rfl hl (by decide) rfl (fun ls hl => ?_)
                  refine lv_aload_n hx hb dX3_offerAll_106 rfl (lv_at hl 2 rfl) ?_
                  refine gx_get hx hb hown hZ hG 8 0 9 hM.b8 rfl (by decide) k2 (fun _ h => h) (v := .ref (gad g 9 4)) (grf_j (hM.rf (f := 9) rfl) (by decide)) dX3_offerAll_107 ?_
                  refine lv_iload_n hx hb dX3_offerAll_110 rfl (lv_at hl 0 rfl) ?_
                  refine lv_iload_n hx hb dX3_offerAll_111 rfl (lv_at hl 3 rfl) ?_
                  refine gx_astN hx hb hZ hG hS 9 4 c (by rfl) (hM.b9 (by decide)) rfl rfl ⟨by rw [hM.lc (i := 4) (by decide) (by decide)]; omega, by omega⟩ rfl trivial dX3_offerAll_112 (fun H locs hG hS => ?_)
                  have hM := hM.st9 (i := 4) (f := c) (v := nI o) (by decide)
                  refine lv_aload_n hx hb dX3_offerAll_113 rfl (lv_at hl 2 rfl) ?_
                  refine gx_get hx hb hown hZ hG 8 0 10 hM.b8 rfl (by decide) k3 (fun _ h => h) (v := .ref (gad g 9 5)) (grf_j (hM.rf (f := 10) rfl) (by decide)) dX3_offerAll_114 ?_
                  refine lv_iload_n hx hb dX3_offerAll_117 rfl (lv_at hl 0 rfl) ?_
                  refine lv_aload_n hx hb dX3_offerAll_118 rfl (lv_at hl 2 rfl) ?_
                  refine gx_get hx hb hown hZ hG 8 0 1 hM.b8 rfl (by decide) k4 (fun _ h => h) (v := .int (σ1 8 0 1)) (congrArg Value.int (by simp [gst_app])) dX3_offerAll_119 ?_
                  refine gx_astN hx hb hZ hG hS 9 5 c (by rfl) (hM.b9 (by decide)) rfl rfl ⟨by rw [hM.lc (i := 5) (by decide) (by decide)]; omega, by omega⟩ rfl trivial dX3_offerAll_122 (fun H locs hG hS => ?_)
                  have hM := hM.st9 (i := 5) (f := c) (v := σ1 8 0 1) (by decide)
                  refine lv_aload_n hx hb dX3_offerAll_123 rfl (lv_at hl 2 rfl) ?_
                  refine lv_iload_n hx hb dX3_offerAll_124 rfl (lv_at hl 3 rfl) ?_
                  refine lv_iconst (v := 4) hx hb dX3_offerAll_125 (by decide) ?_
                  refine lv_iconst (v := 1) hx hb dX3_offerAll_126 (by decide) ?_
                  refine gx_cM (gx_runV (As := [.int (nI o), .int (4), .int (1)]) (rest := []) ⟨hx, hb, hml, hown, hts⟩ (c_X3_set l g (gst (gst σ1 9 4 c (nI o)) 9 5 c (σ1 8 0 1)) w o 4 1 hM (by omega) (by decide)) (cwV 3 hts gX3_offerAll_X3_set rfl rfl rfl (by decide +kernel) ⟨Nat.le_of_ble_eq_true rfl, Nat.le_of_ble_eq_true rfl⟩) (gx_obj hZ hG 8 0 hM.b8 rfl) hZ hG hS rfl hl.1 rfl (Nat.le_of_ble_eq_true rfl) dX3_offerAll_127 ⟨Nat.le_of_ble_eq_true rfl, Nat.le_of_ble_eq_true rfl⟩) hS (fun H locs hG hS hsz => ?_)
                  have hM := hM.stT (o := o) (k := 4) (v := 1) (by decide)
                  refine lv_aload_n hx hb dX3_offerAll_130 rfl (lv_at hl 2 rfl) ?_
                  refine lv_iload_n hx hb dX3_offerAll_131 rfl (lv_at hl 3 rfl) ?_
                  refine lv_iconst (v := 5) hx hb dX3_offerAll_132 (by decide) ?_
                  refine lv_iload_n hx hb dX3_offerAll_133 rfl (lv_at hl 0 rfl) ?_
                  refine gx_cM (gx_runV (As := [.int (nI o), .int (5), .int (nI c)]) (rest := []) ⟨hx, hb, hml, hown, hts⟩ (c_X3_set l g (gst (gst (gst σ1 9 4 c (nI o)) 9 5 c (σ1 8 0 1)) 9 9 (8 * o + 4) 1) w o 5 (nI c) hM (by omega) (by decide)) (cwV 3 hts gX3_offerAll_X3_set rfl rfl rfl (by decide +kernel) ⟨Nat.le_of_ble_eq_true rfl, Nat.le_of_ble_eq_true rfl⟩) (gx_obj hZ hG 8 0 hM.b8 rfl) hZ hG hS rfl hl.1 rfl (Nat.le_of_ble_eq_true rfl) dX3_offerAll_134 ⟨Nat.le_of_ble_eq_true rfl, Nat.le_of_ble_eq_true rfl⟩) hS (fun H locs hG hS hsz => ?_)
                  have hM := hM.stT (o := o) (k := 5) (v := nI c) (by decide)
                  have hsg : gst (gst (gst (gst σ1 9 4 c (nI o)) 9 5 c (σ1 8 0 1)) 9 9 (8 * o + 4) 1) 9 9 (8 * o + 5) (nI c) = mOff1 σ1 := by unfold mOff1; rw [eo2, ec2, eo, ec]
                  rw [hsg] at hG
                  refine lv_goto (tgt := 2) hx hb dX3_offerAll_137 (by decide) ?_
                  exact ihO (rO - 1) true (mOff1 σ1) (by have := hid hbt; simp [hbt] at hnO ⊢; omega) hM9 (fun _ => by have := hid hbt; omega) (by rw [← hres, if_pos hbt, if_pos rfl]; have h8 := hid hbt; clear hrO hnO hid hres; cases rO with | zero => exact absurd h8 (Nat.not_lt_zero _) | succ q => rw [mOAGo, if_neg hb9]; rfl) H locs hG hS ls (lv_sub hl [2, 1] rfl)
                · skip
                  exact absurd c_5 (by decide)
            · skip
              have hkc := lt_of_nle (hM.eO ▸ c_2) (by omega)
              obtain ⟨r, rfl⟩ : ∃ q, r = q + 1 := ⟨r - 1, by omega⟩
              refine lv_aload_n hx hb dX3_offerAll_18 rfl (lv_at hl 0 rfl) ?_
              refine lv_iload_n hx hb dX3_offerAll_19 rfl (lv_at hl 2 rfl) ?_
              refine gx_cR (gx_runV (As := [.int (nI k)]) (rest := []) ⟨hx, hb, hml, hown, hts⟩ (c_X3_state l g σ1 w k hM (by omega)) (cwV 1 hts gX3_offerAll_X3_state rfl rfl rfl (by decide +kernel) ⟨Nat.le_of_ble_eq_true rfl, Nat.le_of_ble_eq_true rfl⟩) (gx_obj hZ hG 8 0 hM.b8 rfl) hZ hG hS rfl hl.1 rfl (Nat.le_of_ble_eq_true rfl) dX3_offerAll_20 ⟨Nat.le_of_ble_eq_true rfl, Nat.le_of_ble_eq_true rfl⟩) ?_
              refine lv_if_ne (tgt := 76) hx hb dX3_offerAll_23 (by decide) (fun c_6 => ?_) (fun c_6 => ?_)
              · skip
                refine lv_iinc (v := nI (k + 1)) (lv' := [(3, .int (nI (k + 1))), (0, .ref (gad g 8 0)), (2, .int (best))]) hx hb dX3_offerAll_76 hl (k := 2) rfl (nI_1 _) (by decide) rfl (fun ls hl => ?_)
                refine lv_goto (tgt := 10) hx hb dX3_offerAll_79 (by decide) ?_
                exact ih r (k + 1) (best) (by omega) (by omega) hbst (by rw [← hre2]; simp only [mBeGo, c_2, c_6, reduceIte]) ls (lv_sub hl [1, 2, 0] rfl)
              · skip
                refine lv_aload_n hx hb dX3_offerAll_26 rfl (lv_at hl 0 rfl) ?_
                refine gx_get hx hb hown hZ hG 8 0 1 hM.b8 rfl (by decide) k4 (fun _ h => h) (v := .int (σ1 8 0 1)) rfl dX3_offerAll_27 ?_
                refine lv_aload_n hx hb dX3_offerAll_30 rfl (lv_at hl 0 rfl) ?_
                refine lv_iload_n hx hb dX3_offerAll_31 rfl (lv_at hl 2 rfl) ?_
                refine lv_iconst (v := 3) hx hb dX3_offerAll_32 (by decide) ?_
                refine gx_cR (gx_runV (As := [.int (nI k), .int (3)]) (rest := [.int (σ1 8 0 1)]) ⟨hx, hb, hml, hown, hts⟩ (c_X3_get l g σ1 w k 3 hM (by omega) (by decide)) (cwV 2 hts gX3_offerAll_X3_get rfl rfl rfl (by decide +kernel) ⟨Nat.le_of_ble_eq_true rfl, Nat.le_of_ble_eq_true rfl⟩) (gx_obj hZ hG 8 0 hM.b8 rfl) hZ hG hS rfl hl.1 rfl (Nat.le_of_ble_eq_true rfl) dX3_offerAll_33 ⟨Nat.le_of_ble_eq_true rfl, Nat.le_of_ble_eq_true rfl⟩) ?_
                refine lv_bipush (v := 15) hx hb dX3_offerAll_36 (by decide) ?_
                refine lv_isub hx hb dX3_offerAll_38 ?_
                refine lv_icmp_lt (tgt := 76) hx hb dX3_offerAll_39 (by decide) (fun c_7 => ?_) (fun c_7 => ?_)
                · skip
                  refine lv_iinc (v := nI (k + 1)) (lv' := [(3, .int (nI (k + 1))), (0, .ref (gad g 8 0)), (2, .int (best))]) hx hb dX3_offerAll_76 hl (k := 2) rfl (nI_1 _) (by decide) rfl (fun ls hl => ?_)
                  refine lv_goto (tgt := 10) hx hb dX3_offerAll_79 (by decide) ?_
                  exact ih r (k + 1) (best) (by omega) (by omega) hbst (by rw [← hre2]; simp only [mBeGo, c_2, c_6, c_7, reduceIte]) ls (lv_sub hl [1, 2, 0] rfl)
                · skip
                  refine lv_aload_n hx hb dX3_offerAll_42 rfl (lv_at hl 0 rfl) ?_
                  refine lv_iload_n hx hb dX3_offerAll_43 rfl (lv_at hl 2 rfl) ?_
                  refine gx_cR (gx_runV (As := [.int (nI k)]) (rest := []) ⟨hx, hb, hml, hown, hts⟩ (c_X3_cabFor l g σ1 w k hM (by omega)) (cwV 1 hts gX3_offerAll_X3_cabFor rfl rfl rfl (by decide +kernel) ⟨Nat.le_of_ble_eq_true rfl, Nat.le_of_ble_eq_true rfl⟩) (gx_obj hZ hG 8 0 hM.b8 rfl) hZ hG hS rfl hl.1 rfl (Nat.le_of_ble_eq_true rfl) dX3_offerAll_44 ⟨Nat.le_of_ble_eq_true rfl, Nat.le_of_ble_eq_true rfl⟩) ?_
                  refine lv_iconst (v := (-1)) hx hb dX3_offerAll_47 (by decide) ?_
                  refine lv_icmp_ne (tgt := 54) hx hb dX3_offerAll_48 (by decide) (fun c_8 => ?_) (fun c_8 => ?_)
                  · skip
                    refine lv_iload_n hx hb dX3_offerAll_54 rfl (lv_at hl 1 rfl) ?_
                    refine lv_iconst (v := (-1)) hx hb dX3_offerAll_55 (by decide) ?_
                    refine lv_icmp_eq (tgt := 74) hx hb dX3_offerAll_56 (by decide) (fun c_9 => ?_) (fun c_9 => ?_)
                    · skip
                      refine lv_iload_n hx hb dX3_offerAll_74 rfl (lv_at hl 2 rfl) ?_
                      refine lv_istore_n (lv' := [(2, .int (nI k)), (0, .ref (gad g 8 0)), (3, .int (nI k))]) hx hb dX3_offerAll_75 rfl hl (by decide) rfl (fun ls hl => ?_)
                      refine lv_iinc (v := nI (k + 1)) (lv' := [(3, .int (nI (k + 1))), (2, .int (nI k)), (0, .ref (gad g 8 0))]) hx hb dX3_offerAll_76 hl (k := 2) rfl (nI_1 _) (by decide) rfl (fun ls hl => ?_)
                      refine lv_goto (tgt := 10) hx hb dX3_offerAll_79 (by decide) ?_
                      exact ih r (k + 1) (nI k) (by omega) (by omega) (Or.inr ⟨k, by omega, rfl⟩) (by rw [← hre2]; simp only [mBeGo, c_2, c_6, c_7, c_8, c_9, reduceIte]) ls (lv_sub hl [2, 1, 0] rfl)
                    · skip
                      obtain ⟨j, hj, ej⟩ := hbst.resolve_left c_9
                      have hbst : best = -1 ∨ ∃ j, j < 60 ∧ best = nI j := Or.inr ⟨j, hj, ej⟩
                      have hjb : ix best = j := by rw [ej, ix_nI (by omega)]
                      have en : best = nI (ix best) := by rw [hjb]; exact ej
                      refine lv_aload_n hx hb dX3_offerAll_59 rfl (lv_at hl 0 rfl) ?_
                      refine lv_iload_n hx hb dX3_offerAll_60 rfl (lv_at hl 2 rfl) ?_
                      refine lv_iconst (v := 3) hx hb dX3_offerAll_61 (by decide) ?_
                      refine gx_cR (gx_runV (As := [.int (nI k), .int (3)]) (rest := []) ⟨hx, hb, hml, hown, hts⟩ (c_X3_get l g σ1 w k 3 hM (by omega) (by decide)) (cwV 2 hts gX3_offerAll_X3_get rfl rfl rfl (by decide +kernel) ⟨Nat.le_of_ble_eq_true rfl, Nat.le_of_ble_eq_true rfl⟩) (gx_obj hZ hG 8 0 hM.b8 rfl) hZ hG hS rfl hl.1 rfl (Nat.le_of_ble_eq_true rfl) dX3_offerAll_62 ⟨Nat.le_of_ble_eq_true rfl, Nat.le_of_ble_eq_true rfl⟩) ?_
                      refine lv_aload_n hx hb dX3_offerAll_65 rfl (lv_at hl 0 rfl) ?_
                      refine lv_iload_n hx hb dX3_offerAll_66 rfl (lv_at hl 1 rfl) ?_
                      refine lv_iconst (v := 3) hx hb dX3_offerAll_67 (by decide) ?_
                      refine gx_topV2 (v := .int (nI (ix best))) (congrArg Value.int en) ?_
                      refine gx_cR (gx_runV (As := [.int (nI (ix best)), .int (3)]) (rest := [.int (mT σ1 k 3)]) ⟨hx, hb, hml, hown, hts⟩ (c_X3_get l g σ1 w (ix best) 3 hM (by omega) (by decide)) (cwV 2 hts gX3_offerAll_X3_get rfl rfl rfl (by decide +kernel) ⟨Nat.le_of_ble_eq_true rfl, Nat.le_of_ble_eq_true rfl⟩) (gx_obj hZ hG 8 0 hM.b8 rfl) hZ hG hS rfl hl.1 rfl (Nat.le_of_ble_eq_true rfl) dX3_offerAll_68 ⟨Nat.le_of_ble_eq_true rfl, Nat.le_of_ble_eq_true rfl⟩) ?_
                      refine lv_icmp_ge (tgt := 76) hx hb dX3_offerAll_71 (by decide) (fun c_10 => ?_) (fun c_10 => ?_)
                      · skip
                        refine lv_iinc (v := nI (k + 1)) (lv' := [(3, .int (nI (k + 1))), (0, .ref (gad g 8 0)), (2, .int (best))]) hx hb dX3_offerAll_76 hl (k := 2) rfl (nI_1 _) (by decide) rfl (fun ls hl => ?_)
                        refine lv_goto (tgt := 10) hx hb dX3_offerAll_79 (by decide) ?_
                        exact ih r (k + 1) (best) (by omega) (by omega) hbst (by rw [← hre2]; simp only [mBeGo, c_2, c_6, c_7, c_8, c_9, c_10, reduceIte]) ls (lv_sub hl [1, 2, 0] rfl)
                      · skip
                        refine lv_iload_n hx hb dX3_offerAll_74 rfl (lv_at hl 2 rfl) ?_
                        refine lv_istore_n (lv' := [(2, .int (nI k)), (0, .ref (gad g 8 0)), (3, .int (nI k))]) hx hb dX3_offerAll_75 rfl hl (by decide) rfl (fun ls hl => ?_)
                        refine lv_iinc (v := nI (k + 1)) (lv' := [(3, .int (nI (k + 1))), (2, .int (nI k)), (0, .ref (gad g 8 0))]) hx hb dX3_offerAll_76 hl (k := 2) rfl (nI_1 _) (by decide) rfl (fun ls hl => ?_)
                        refine lv_goto (tgt := 10) hx hb dX3_offerAll_79 (by decide) ?_
                        exact ih r (k + 1) (nI k) (by omega) (by omega) (Or.inr ⟨k, by omega, rfl⟩) (by rw [← hre2]; simp only [mBeGo, c_2, c_6, c_7, c_8, c_9, c_10, reduceIte]) ls (lv_sub hl [2, 1, 0] rfl)
                  · skip
                    refine lv_goto (tgt := 76) hx hb dX3_offerAll_51 (by decide) ?_
                    refine lv_iinc (v := nI (k + 1)) (lv' := [(3, .int (nI (k + 1))), (0, .ref (gad g 8 0)), (2, .int (best))]) hx hb dX3_offerAll_76 hl (k := 2) rfl (nI_1 _) (by decide) rfl (fun ls hl => ?_)
                    refine lv_goto (tgt := 10) hx hb dX3_offerAll_79 (by decide) ?_
                    exact ih r (k + 1) (best) (by omega) (by omega) hbst (by rw [← hre2]; simp only [mBeGo, c_2, c_6, c_7, c_8, reduceIte]) ls (lv_sub hl [1, 2, 0] rfl)
        exact loop_10 (mO σ1 + 1) (mO σ1) 0 (-1) (by omega) (by omega) (Or.inl rfl) rfl ls (lv_sub hl [2, 1, 0] rfl)
  exact loop_2 24 11 true σ (by decide) hM (fun _ => hM.id10) rfl _ _ hG hS ls (lv_sub hl [1, 0] rfl)
