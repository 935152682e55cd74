def mD1i (σ : Mem) (c : Nat) : Nat → Nat → Int64 → Int64
  | 0, _, d => d
  | r + 1, q, d => mD1i σ c r (q + 1) (d * 31 + (mCabTold σ c (nI q)).toInt64)
def mDc (σ : Mem) (c : Nat) (d : Int64) : Int64 := (mD1i σ c 5 0 d * 31 + (σ 9 7 c).toInt64) * 31 + (σ 9 8 c).toInt64
def mD1 (σ : Mem) : Nat → Nat → Int64 → Int64
  | 0, _, d => d
  | r + 1, k, d => mD1 σ r (k + 1) (mDc σ k d)
def mD2i (σ : Mem) (o : Nat) : Nat → Nat → Int64 → Int64
  | 0, _, d => d
  | r + 1, q, d => mD2i σ o r (q + 1) (d * 31 + (mOrdTold σ o q).toInt64)
def mDo (σ : Mem) (o : Nat) (d : Int64) : Int64 := mD2i σ o 5 0 d * 31 + (mFare σ o 4).toInt64
def mD2 (σ : Mem) : Nat → Nat → Int64 → Int64
  | 0, _, d => d
  | r + 1, k, d => mD2 σ r (k + 1) (mDo σ k d)
def mQuGo (σ : Mem) (z : Int32) : Nat → Nat → Int64 → Int64
  | 0, _, d => d
  | r + 1, q, d => if mQd σ z (nI q) = -1 then d else mQuGo σ z r (q + 1) (d * 31 + (mQd σ z (nI q)).toInt64)
def mD3 (σ : Mem) : Nat → Nat → Int64 → Int64
  | 0, _, d => d
  | r + 1, k, d => mD3 σ r (k + 1) (mQuGo σ (nI k) 12 0 d)
def mDa (σ : Mem) : Int64 := mD1 σ (mC σ) 0 ((9083 + (σ 8 0 1).toInt64) * 31 + (σ 8 0 5).toInt64)
def mDb (σ : Mem) : Int64 := mD2 σ (mO σ) 0 (mDa σ * 31 + (σ 8 0 15).toInt64)
def mDig (σ : Mem) : Int64 := mD3 σ 6 0 (mDb σ)
theorem mPlGo_le {σ : Mem} {c : Nat} : ∀ (r k j : Nat), ∃ i, i ≤ j + r ∧ mPlGo σ c r k (nI j) = nI i
  | 0, _, j => ⟨j, Nat.le_refl _, rfl⟩
  | r + 1, k, j => by
    have e0 : nI j + 0 = nI j := Int32.add_zero _
    have e1 : nI j + 1 = nI (j + 1) := nI_1 j
    simp only [mPlGo]
    rw [e0, e1]
    have h0 : ∃ i, i ≤ j + (r + 1) ∧ mPlGo σ c r (k + 1) (nI j) = nI i := by
      obtain ⟨i, hi, e⟩ := mPlGo_le (σ := σ) (c := c) r (k + 1) j
      exact ⟨i, by omega, e⟩
    have h1 : ∃ i, i ≤ j + (r + 1) ∧ mPlGo σ c r (k + 1) (nI (j + 1)) = nI i := by
      obtain ⟨i, hi, e⟩ := mPlGo_le (σ := σ) (c := c) r (k + 1) (j + 1)
      exact ⟨i, by omega, e⟩
    repeat' split
    all_goals first | exact h0 | exact h1
theorem mPl_le {σ : Mem} {c : Nat} : mPl σ c = -1 ∨ ∃ i, i ≤ mC σ ∧ mPl σ c = nI i := by
  unfold mPl
  split
  · obtain ⟨i, hi, e⟩ := mPlGo_le (σ := σ) (c := c) (mC σ) 0 0
    exact Or.inr ⟨i, by omega, e⟩
  · exact Or.inl rfl
theorem mQdGo_ok {σ : Mem} {z p : Int32} : ∀ r k, mQdGo σ z p r k = -1 ∨ ∃ c, mPl σ c = p
  | 0, _ => Or.inl rfl
  | r + 1, k => by
    simp only [mQdGo]
    split
    · split
      · next h => exact Or.inr ⟨k, h⟩
      · exact mQdGo_ok r (k + 1)
    · exact mQdGo_ok r (k + 1)
theorem mQd_le {g : gG} {σ : Mem} {z : Int32} {q : Nat} (h : Mok g σ) (hq : q < 2 ^ 31) (hne : ¬ mQd σ z (nI q) = -1) : q ≤ 10 := by
  have h10 := h.c10
  obtain ⟨c, hc⟩ := (mQdGo_ok (mC σ) 0).resolve_left hne
  rcases mPl_le (σ := σ) (c := c) with e | ⟨i, hi, e⟩
  · rw [e] at hc; exact absurd hc.symm (nI_nm hq)
  · rw [e] at hc
    have := nI_inj (by omega) hq hc
    omega
set_option maxHeartbeats 4000000 in
set_option maxRecDepth 100000 in
theorem c_X3_digest (l : Launch) (g : gG) (σ : Mem) (w : Int64) (hF : Mf g σ) : Met l yX3_digest wsX3_digest ({ frames := 3, cells := 0, slots := 0, locals := 74 } : Room) (gPc g σ w [.ref (gad g 8 0)]) (gM g g (gst σ 8 0 0 0) w (some (.long (mDig (gst σ 8 0 0 0))))) 0 0 (gA g) := by
  refine gx_ofW (cc := cX3_digest) (maxL := 5) (ret := (some .long)) (by decide) rfl (Nat.le_of_ble_eq_true rfl) ?_
  intro p e s m below meth c0 hx hb hr hml hts hown hlocks hin hG hZ hS ls hl
  have hown : s.vm.findClass RX3 = some m.cls := hown
  have hl : lv_has ls 5 [(0, .ref (gad g 8 0))] := hl
  have k1 := hts (.fieldLink RX3 53 "TaxiRankModel" "thrown" "I") (by decide +kernel)
  have k2 := hts (.constantLong RX3 168 (9083)) (by decide +kernel)
  have k3 := hts (.fieldLink RX3 121 "TaxiRankModel" "now" "I") (by decide +kernel)
  have k4 := hts (.constantLong RX3 170 (31)) (by decide +kernel)
  have k5 := hts (.fieldLink RX3 60 "TaxiRankModel" "cabs" "I") (by decide +kernel)
  have k6 := hts (.fieldLink RX3 63 "TaxiRankModel" "orders" "I") (by decide +kernel)
  have k7 := hts (.fieldLink RX3 38 "TaxiRankModel" "kept" "[I") (by decide +kernel)
  have k8 := hts (.fieldLink RX3 41 "TaxiRankModel" "dues" "[I") (by decide +kernel)
  have hM := hF.1
  have hc10 := hM.c10
  have ho60 := hM.o60
  refine lv_aload_n hx hb dX3_digest_0 rfl (lv_at hl 0 rfl) ?_
  refine lv_iconst (v := 0) hx hb dX3_digest_1 (by decide) ?_
  refine gx_put hx hb hown hZ hG hS 8 0 0 (0) hM.b8 rfl (by decide) k1 (fun _ h => h) rfl rfl trivial rfl rfl dX3_digest_2 (fun H locs hG hS => ?_)
  have hM := hM.st8 (f := 0) (v := 0) rfl
  have hF := hF.thr (v := 0)
  obtain ⟨σ0, hσ0⟩ : ∃ z : Mem, z = gst σ 8 0 0 0 := ⟨_, rfl⟩
  rw [← hσ0] at hG hF
  rw [← hσ0]
  have hM := hF.1
  have hc10 := hM.c10
  have ho60 := hM.o60
  refine lv_ldc2 (v := 9083) hx hb hown k2 dX3_digest_5 ?_
  refine lv_aload_n hx hb dX3_digest_8 rfl (lv_at hl 0 rfl) ?_
  refine gx_get hx hb hown hZ hG 8 0 1 hM.b8 rfl (by decide) k3 (fun _ h => h) (v := .int (σ0 8 0 1)) rfl dX3_digest_9 ?_
  refine lv_i2l hx hb dX3_digest_12 rfl ?_
  refine lv_ladd hx hb dX3_digest_13 ?_
  refine lv_ldc2 (v := 31) hx hb hown k4 dX3_digest_14 ?_
  refine lv_lmul hx hb dX3_digest_17 ?_
  refine lv_aload_n hx hb dX3_digest_18 rfl (lv_at hl 0 rfl) ?_
  refine gx_get hx hb hown hZ hG 8 0 5 hM.b8 rfl (by decide) k5 (fun _ h => h) (v := .int (σ0 8 0 5)) rfl dX3_digest_19 ?_
  refine lv_i2l hx hb dX3_digest_22 rfl ?_
  refine lv_ladd hx hb dX3_digest_23 ?_
  refine lv_lstore_n (lv' := [(1, .long (((9083 + ((σ0 8 0 1).toInt64)) * 31) + ((σ0 8 0 5).toInt64))), (0, .ref (gad g 8 0))]) hx hb dX3_digest_24 rfl hl (by decide) rfl (fun ls hl => ?_)
  refine lv_iconst (v := 0) hx hb dX3_digest_25 (by decide) ?_
  refine lv_istore_n (lv' := [(3, .int (0)), (1, .long (((9083 + ((σ0 8 0 1).toInt64)) * 31) + ((σ0 8 0 5).toInt64))), (0, .ref (gad g 8 0))]) hx hb dX3_digest_26 rfl hl (by decide) rfl (fun ls hl => ?_)
  have loop_27 : ∀ (nf : Nat) (r : Nat) (k : Nat) (acc : Int64), r < nf → (k + r = mC σ0) → (mD1 σ0 r k acc = mDa σ0) → ∀ ls : Array Slot, lv_has ls 5 [(0, .ref (gad g 8 0)), (1, .long (acc)), (3, .int (nI k))] → W p l e ({ frames := 3, cells := 0, slots := 0, locals := 74 } : Room) s m ([.ref (gad g 8 0)] : List Value).toArray below meth c0 H locs 0 0 (MQ below (gM g g σ0 w (some (.long (mDig σ0)))) ([.ref (gad g 8 0)] : List Value).toArray s 0 0 (gA g)) (F0 m 27 ls []) := by
    intro nf
    induction nf with
    | zero => intro r k acc hn; exact absurd hn (Nat.not_lt_zero _)
    | succ nf ih =>
      intro r k acc hn hk hres ls hl
      refine lv_iload_n hx hb dX3_digest_27 rfl (lv_at hl 2 rfl) ?_
      refine lv_aload_n hx hb dX3_digest_28 rfl (lv_at hl 0 rfl) ?_
      refine gx_get hx hb hown hZ hG 8 0 5 hM.b8 rfl (by decide) k5 (fun _ h => h) (v := .int (σ0 8 0 5)) rfl dX3_digest_29 ?_
      refine lv_icmp_ge (tgt := 97) hx hb dX3_digest_32 (by decide) (fun c_1 => ?_) (fun c_1 => ?_)
      · skip
        have hge := le_of_nIle (hM.eC ▸ c_1) (by omega) (by omega)
        obtain rfl : r = 0 := by omega
        have eA : acc = mDa σ0 := hres
        refine lv_lload_n hx hb dX3_digest_97 rfl (lv_at hl 1 rfl) ?_
        refine lv_ldc2 (v := 31) hx hb hown k4 dX3_digest_98 ?_
        refine lv_lmul hx hb dX3_digest_101 ?_
        refine lv_aload_n hx hb dX3_digest_102 rfl (lv_at hl 0 rfl) ?_
        refine gx_get hx hb hown hZ hG 8 0 15 hM.b8 rfl (by decide) k6 (fun _ h => h) (v := .int (σ0 8 0 15)) rfl dX3_digest_103 ?_
        refine lv_i2l hx hb dX3_digest_106 rfl ?_
        refine lv_ladd hx hb dX3_digest_107 ?_
        refine lv_lstore_n (lv' := [(1, .long ((acc * 31) + ((σ0 8 0 15).toInt64))), (0, .ref (gad g 8 0)), (3, .int (nI k))]) hx hb dX3_digest_108 rfl hl (by decide) rfl (fun ls hl => ?_)
        refine lv_iconst (v := 0) hx hb dX3_digest_109 (by decide) ?_
        refine lv_istore_n (lv' := [(3, .int (0)), (1, .long ((acc * 31) + ((σ0 8 0 15).toInt64))), (0, .ref (gad g 8 0))]) hx hb dX3_digest_110 rfl hl (by decide) rfl (fun ls hl => ?_)
        have loop_111 : ∀ (nf : Nat) (r : Nat) (k : Nat) (acc : Int64), r < nf → (k + r = mO σ0) → (mD2 σ0 r k acc = mDb σ0) → ∀ ls : Array Slot, lv_has ls 5 [(0, .ref (gad g 8 0)), (1, .long (acc)), (3, .int (nI k))] → W p l e ({ frames := 3, cells := 0, slots := 0, locals := 74 } : Room) s m ([.ref (gad g 8 0)] : List Value).toArray below meth c0 H locs 0 0 (MQ below (gM g g σ0 w (some (.long (mDig σ0)))) ([.ref (gad g 8 0)] : List Value).toArray s 0 0 (gA g)) (F0 m 111 ls []) := by
          intro nf
          induction nf with
          | zero => intro r k acc hn; exact absurd hn (Nat.not_lt_zero _)
          | succ nf ih =>
            intro r k acc hn hk hres ls hl
            refine lv_iload_n hx hb dX3_digest_111 rfl (lv_at hl 2 rfl) ?_
            refine lv_aload_n hx hb dX3_digest_112 rfl (lv_at hl 0 rfl) ?_
            refine gx_get hx hb hown hZ hG 8 0 15 hM.b8 rfl (by decide) k6 (fun _ h => h) (v := .int (σ0 8 0 15)) rfl dX3_digest_113 ?_
            refine lv_icmp_ge (tgt := 169) hx hb dX3_digest_116 (by decide) (fun c_2 => ?_) (fun c_2 => ?_)
            · skip
              have hge := le_of_nIle (hM.eO ▸ c_2) (by omega) (by omega)
              obtain rfl : r = 0 := by omega
              have eB : acc = mDb σ0 := hres
              refine lv_iconst (v := 0) hx hb dX3_digest_169 (by decide) ?_
              refine lv_istore_n (lv' := [(3, .int (0)), (0, .ref (gad g 8 0)), (1, .long (acc))]) hx hb dX3_digest_170 rfl hl (by decide) rfl (fun ls hl => ?_)
              have loop_171 : ∀ (nf : Nat) (r : Nat) (k : Nat) (acc : Int64), r < nf → (k + r = 6) → (mD3 σ0 r k acc = mDig σ0) → ∀ ls : Array Slot, lv_has ls 5 [(0, .ref (gad g 8 0)), (1, .long (acc)), (3, .int (nI k))] → W p l e ({ frames := 3, cells := 0, slots := 0, locals := 74 } : Room) s m ([.ref (gad g 8 0)] : List Value).toArray below meth c0 H locs 0 0 (MQ below (gM g g σ0 w (some (.long (mDig σ0)))) ([.ref (gad g 8 0)] : List Value).toArray s 0 0 (gA g)) (F0 m 171 ls []) := by
                intro nf
                induction nf with
                | zero => intro r k acc hn; exact absurd hn (Nat.not_lt_zero _)
                | succ nf ih =>
                  intro r k acc hn hk hres ls hl
                  refine lv_iload_n hx hb dX3_digest_171 rfl (lv_at hl 2 rfl) ?_
                  refine lv_bipush (v := 6) hx hb dX3_digest_172 (by decide) ?_
                  refine lv_icmp_ge (tgt := 218) hx hb dX3_digest_174 (by decide) (fun c_3 => ?_) (fun c_3 => ?_)
                  · skip
                    have hge := le_of_nIle (n := 6) c_3 (by omega) (by omega)
                    obtain rfl : r = 0 := by omega
                    refine lv_lload_n hx hb dX3_digest_218 rfl (lv_at hl 1 rfl) ?_
                    exact gx_lretM hx hb hr hlocks hG hS (by rw [← hres]; rfl) rfl (Nat.le_of_ble_eq_true rfl) (Nat.le_of_ble_eq_true rfl) dX3_digest_219
                  · skip
                    have hkc := lt_of_nle (n := 6) c_3 (by omega)
                    obtain ⟨r, rfl⟩ : ∃ q, r = q + 1 := ⟨r - 1, by omega⟩
                    have ihO3 := ih
                    have hnO3 := hn
                    refine lv_iconst (v := 0) hx hb dX3_digest_177 (by decide) ?_
                    refine lv_istore (lv' := [(4, .int (0)), (0, .ref (gad g 8 0)), (1, .long (acc)), (3, .int (nI k))]) hx hb dX3_digest_178 hl (by decide) rfl (fun ls hl => ?_)
                    have loop_180 : ∀ (nf : Nat) (r2 : Nat) (q : Nat) (acc2 : Int64), r2 < nf → (q + r2 = 12) → (mQuGo σ0 (nI k) r2 q acc2 = mQuGo σ0 (nI k) 12 0 acc) → ∀ ls : Array Slot, lv_has ls 5 [(0, .ref (gad g 8 0)), (1, .long (acc2)), (3, .int (nI k)), (4, .int (nI q))] → W p l e ({ frames := 3, cells := 0, slots := 0, locals := 74 } : Room) s m ([.ref (gad g 8 0)] : List Value).toArray below meth c0 H locs 0 0 (MQ below (gM g g σ0 w (some (.long (mDig σ0)))) ([.ref (gad g 8 0)] : List Value).toArray s 0 0 (gA g)) (F0 m 180 ls []) := by
                      intro nf
                      induction nf with
                      | zero => intro r2 q acc2 hn; exact absurd hn (Nat.not_lt_zero _)
                      | succ nf ih =>
                        intro r2 q acc2 hn hk2 hres2 ls hl
                        refine lv_aload_n hx hb dX3_digest_180 rfl (lv_at hl 0 rfl) ?_
                        refine lv_iload_n hx hb dX3_digest_181 rfl (lv_at hl 2 rfl) ?_
                        refine lv_iload hx hb dX3_digest_182 (lv_at hl 3 rfl) ?_
                        refine gx_cR (gx_runV (As := [.int (nI k), .int (nI q)]) (rest := []) ⟨hx, hb, hml, hown, hts⟩ (c_X3_queued l g σ0 w (nI k) (nI q) hM) (cwV 2 hts gX3_digest_X3_queued rfl rfl rfl (by decide +kernel) ⟨Nat.le_of_ble_eq_true rfl, Nat.le_of_ble_eq_true rfl⟩) (gx_obj hZ hG 8 0 hM.b8 rfl) hZ hG hS rfl hl.1 rfl (Nat.le_of_ble_eq_true rfl) dX3_digest_184 ⟨Nat.le_of_ble_eq_true rfl, Nat.le_of_ble_eq_true rfl⟩) ?_
                        refine lv_iconst (v := (-1)) hx hb dX3_digest_187 (by decide) ?_
                        refine lv_icmp_eq (tgt := 212) hx hb dX3_digest_188 (by decide) (fun c_4 => ?_) (fun c_4 => ?_)
                        · skip
                          have e1 : acc2 = mQuGo σ0 (nI k) 12 0 acc := by rw [← hres2]; clear hn hk2 hres2; cases r2 with | zero => rfl | succ x => rw [mQuGo, if_pos c_4]
                          refine lv_iinc (v := nI (k + 1)) (lv' := [(3, .int (nI (k + 1))), (0, .ref (gad g 8 0)), (1, .long (acc2)), (4, .int (nI q))]) hx hb dX3_digest_212 hl (k := 2) rfl (nI_1 _) (by decide) rfl (fun ls hl => ?_)
                          refine lv_goto (tgt := 171) hx hb dX3_digest_215 (by decide) ?_
                          exact ihO3 r (k + 1) (acc2) (by omega) (by omega) (by rw [← hres, mD3, ← e1]) ls (lv_sub hl [1, 2, 0] rfl)
                        · skip
                          have hq10 := mQd_le hM (by omega) c_4
                          obtain ⟨r2, rfl⟩ : ∃ q, r2 = q + 1 := ⟨r2 - 1, by omega⟩
                          refine lv_lload_n hx hb dX3_digest_191 rfl (lv_at hl 1 rfl) ?_
                          refine lv_ldc2 (v := 31) hx hb hown k4 dX3_digest_192 ?_
                          refine lv_lmul hx hb dX3_digest_195 ?_
                          refine lv_aload_n hx hb dX3_digest_196 rfl (lv_at hl 0 rfl) ?_
                          refine lv_iload_n hx hb dX3_digest_197 rfl (lv_at hl 2 rfl) ?_
                          refine lv_iload hx hb dX3_digest_198 (lv_at hl 3 rfl) ?_
                          refine gx_cR (gx_runV (As := [.int (nI k), .int (nI q)]) (rest := [.long (acc2 * 31)]) ⟨hx, hb, hml, hown, hts⟩ (c_X3_queued l g σ0 w (nI k) (nI q) hM) (cwV 2 hts gX3_digest_X3_queued rfl rfl rfl (by decide +kernel) ⟨Nat.le_of_ble_eq_true rfl, Nat.le_of_ble_eq_true rfl⟩) (gx_obj hZ hG 8 0 hM.b8 rfl) hZ hG hS rfl hl.1 rfl (Nat.le_of_ble_eq_true rfl) dX3_digest_200 ⟨Nat.le_of_ble_eq_true rfl, Nat.le_of_ble_eq_true rfl⟩) ?_
                          refine lv_i2l hx hb dX3_digest_203 rfl ?_
                          refine lv_ladd hx hb dX3_digest_204 ?_
                          refine lv_lstore_n (lv' := [(1, .long ((acc2 * 31) + ((mQd σ0 (nI k) (nI q)).toInt64))), (0, .ref (gad g 8 0)), (3, .int (nI k)), (4, .int (nI q))]) hx hb dX3_digest_205 rfl hl (by decide) rfl (fun ls hl => ?_)
                          refine lv_iinc (v := nI (q + 1)) (lv' := [(4, .int (nI (q + 1))), (1, .long ((acc2 * 31) + ((mQd σ0 (nI k) (nI q)).toInt64))), (0, .ref (gad g 8 0)), (3, .int (nI k))]) hx hb dX3_digest_206 hl (k := 3) rfl (nI_1 _) (by decide) rfl (fun ls hl => ?_)
                          refine lv_goto (tgt := 180) hx hb dX3_digest_209 (by decide) ?_
                          exact ih r2 (q + 1) ((acc2 * 31) + ((mQd σ0 (nI k) (nI q)).toInt64)) (by omega) (by omega) (by rw [← hres2, mQuGo, if_neg c_4]) ls (lv_sub hl [2, 1, 3, 0] rfl)
                    exact loop_180 13 12 0 acc (by omega) (by omega) rfl ls (lv_sub hl [1, 2, 3, 0] rfl)
              exact loop_171 7 6 0 acc (by omega) (by omega) (by rw [mDig, ← eB]) ls (lv_sub hl [1, 2, 0] rfl)
            · skip
              have hkc := lt_of_nle (hM.eO ▸ c_2) (by omega)
              obtain ⟨r, rfl⟩ : ∃ q, r = q + 1 := ⟨r - 1, by omega⟩
              have ihO2 := ih
              have hnO2 := hn
              refine lv_iconst (v := 0) hx hb dX3_digest_119 (by decide) ?_
              refine lv_istore (lv' := [(4, .int (0)), (0, .ref (gad g 8 0)), (1, .long (acc)), (3, .int (nI k))]) hx hb dX3_digest_120 hl (by decide) rfl (fun ls hl => ?_)
              have loop_122 : ∀ (nf : Nat) (r2 : Nat) (q : Nat) (acc2 : Int64), r2 < nf → (q + r2 = 5) → (mD2i σ0 k r2 q acc2 = mD2i σ0 k 5 0 acc) → ∀ ls : Array Slot, lv_has ls 5 [(0, .ref (gad g 8 0)), (1, .long (acc2)), (3, .int (nI k)), (4, .int (nI q))] → W p l e ({ frames := 3, cells := 0, slots := 0, locals := 74 } : Room) s m ([.ref (gad g 8 0)] : List Value).toArray below meth c0 H locs 0 0 (MQ below (gM g g σ0 w (some (.long (mDig σ0)))) ([.ref (gad g 8 0)] : List Value).toArray s 0 0 (gA g)) (F0 m 122 ls []) := by
                intro nf
                induction nf with
                | zero => intro r2 q acc2 hn; exact absurd hn (Nat.not_lt_zero _)
                | succ nf ih =>
                  intro r2 q acc2 hn hk2 hres2 ls hl
                  refine lv_iload hx hb dX3_digest_122 (lv_at hl 3 rfl) ?_
                  refine lv_iconst (v := 5) hx hb dX3_digest_124 (by decide) ?_
                  refine lv_icmp_ge (tgt := 149) hx hb dX3_digest_125 (by decide) (fun c_5 => ?_) (fun c_5 => ?_)
                  · skip
                    have hge := le_of_nIle (n := 5) c_5 (by omega) (by omega)
                    obtain rfl : r2 = 0 := by omega
                    have e1 : acc2 = mD2i σ0 k 5 0 acc := hres2
                    refine lv_lload_n hx hb dX3_digest_149 rfl (lv_at hl 1 rfl) ?_
                    refine lv_ldc2 (v := 31) hx hb hown k4 dX3_digest_150 ?_
                    refine lv_lmul hx hb dX3_digest_153 ?_
                    refine lv_aload_n hx hb dX3_digest_154 rfl (lv_at hl 0 rfl) ?_
                    refine lv_iload_n hx hb dX3_digest_155 rfl (lv_at hl 2 rfl) ?_
                    refine lv_iconst (v := 4) hx hb dX3_digest_156 (by decide) ?_
                    refine gx_cR (gx_runV (As := [.int (nI k), .int (4)]) (rest := [.long (acc2 * 31)]) ⟨hx, hb, hml, hown, hts⟩ (c_X3_fareOf l g σ0 w k 4 hM (by omega) (by decide)) (cwV 2 hts gX3_digest_X3_fareOf rfl rfl rfl (by decide +kernel) ⟨Nat.le_of_ble_eq_true rfl, Nat.le_of_ble_eq_true rfl⟩) (gx_obj hZ hG 8 0 hM.b8 rfl) hZ hG hS rfl hl.1 rfl (Nat.le_of_ble_eq_true rfl) dX3_digest_157 ⟨Nat.le_of_ble_eq_true rfl, Nat.le_of_ble_eq_true rfl⟩) ?_
                    refine lv_i2l hx hb dX3_digest_160 rfl ?_
                    refine lv_ladd hx hb dX3_digest_161 ?_
                    refine lv_lstore_n (lv' := [(1, .long ((acc2 * 31) + ((mFare σ0 k 4).toInt64))), (0, .ref (gad g 8 0)), (3, .int (nI k)), (4, .int (nI q))]) hx hb dX3_digest_162 rfl hl (by decide) rfl (fun ls hl => ?_)
                    refine lv_iinc (v := nI (k + 1)) (lv' := [(3, .int (nI (k + 1))), (1, .long ((acc2 * 31) + ((mFare σ0 k 4).toInt64))), (0, .ref (gad g 8 0)), (4, .int (nI q))]) hx hb dX3_digest_163 hl (k := 2) rfl (nI_1 _) (by decide) rfl (fun ls hl => ?_)
                    refine lv_goto (tgt := 111) hx hb dX3_digest_166 (by decide) ?_
                    exact ihO2 r (k + 1) ((acc2 * 31) + ((mFare σ0 k 4).toInt64)) (by omega) (by omega) (by rw [← hres, mD2, mDo, ← e1]) ls (lv_sub hl [2, 1, 0] rfl)
                  · skip
                    have hkq := lt_of_nle (n := 5) c_5 (by omega)
                    obtain ⟨r2, rfl⟩ : ∃ q, r2 = q + 1 := ⟨r2 - 1, by omega⟩
                    refine lv_lload_n hx hb dX3_digest_128 rfl (lv_at hl 1 rfl) ?_
                    refine lv_ldc2 (v := 31) hx hb hown k4 dX3_digest_129 ?_
                    refine lv_lmul hx hb dX3_digest_132 ?_
                    refine lv_aload_n hx hb dX3_digest_133 rfl (lv_at hl 0 rfl) ?_
                    refine lv_iload_n hx hb dX3_digest_134 rfl (lv_at hl 2 rfl) ?_
                    refine lv_iload hx hb dX3_digest_135 (lv_at hl 3 rfl) ?_
                    refine gx_cR (gx_runV (As := [.int (nI k), .int (nI q)]) (rest := [.long (acc2 * 31)]) ⟨hx, hb, hml, hown, hts⟩ (c_X3_orderTold l g σ0 w k q hM (by omega) (by omega)) (cwV 2 hts gX3_digest_X3_orderTold rfl rfl rfl (by decide +kernel) ⟨Nat.le_of_ble_eq_true rfl, Nat.le_of_ble_eq_true rfl⟩) (gx_obj hZ hG 8 0 hM.b8 rfl) hZ hG hS rfl hl.1 rfl (Nat.le_of_ble_eq_true rfl) dX3_digest_137 ⟨Nat.le_of_ble_eq_true rfl, Nat.le_of_ble_eq_true rfl⟩) ?_
                    refine lv_i2l hx hb dX3_digest_140 rfl ?_
                    refine lv_ladd hx hb dX3_digest_141 ?_
                    refine lv_lstore_n (lv' := [(1, .long ((acc2 * 31) + ((mOrdTold σ0 k q).toInt64))), (0, .ref (gad g 8 0)), (3, .int (nI k)), (4, .int (nI q))]) hx hb dX3_digest_142 rfl hl (by decide) rfl (fun ls hl => ?_)
                    refine lv_iinc (v := nI (q + 1)) (lv' := [(4, .int (nI (q + 1))), (1, .long ((acc2 * 31) + ((mOrdTold σ0 k q).toInt64))), (0, .ref (gad g 8 0)), (3, .int (nI k))]) hx hb dX3_digest_143 hl (k := 3) rfl (nI_1 _) (by decide) rfl (fun ls hl => ?_)
                    refine lv_goto (tgt := 122) hx hb dX3_digest_146 (by decide) ?_
                    exact ih r2 (q + 1) ((acc2 * 31) + ((mOrdTold σ0 k q).toInt64)) (by omega) (by omega) (by rw [← hres2]; rfl) ls (lv_sub hl [2, 1, 3, 0] rfl)
              exact loop_122 6 5 0 acc (by omega) (by omega) rfl ls (lv_sub hl [1, 2, 3, 0] rfl)
        exact loop_111 (mO σ0 + 1) (mO σ0) 0 ((acc * 31) + ((σ0 8 0 15).toInt64)) (by omega) (by omega) (by rw [mDb, ← eA]) ls (lv_sub hl [2, 1, 0] rfl)
      · skip
        have hkc := lt_of_nle (hM.eC ▸ c_1) (by omega)
        obtain ⟨r, rfl⟩ : ∃ q, r = q + 1 := ⟨r - 1, by omega⟩
        have ihO1 := ih
        have hnO1 := hn
        refine lv_iconst (v := 0) hx hb dX3_digest_35 (by decide) ?_
        refine lv_istore (lv' := [(4, .int (0)), (0, .ref (gad g 8 0)), (1, .long (acc)), (3, .int (nI k))]) hx hb dX3_digest_36 hl (by decide) rfl (fun ls hl => ?_)
        have loop_38 : ∀ (nf : Nat) (r2 : Nat) (q : Nat) (acc2 : Int64), r2 < nf → (q + r2 = 5) → (mD1i σ0 k r2 q acc2 = mD1i σ0 k 5 0 acc) → ∀ ls : Array Slot, lv_has ls 5 [(0, .ref (gad g 8 0)), (1, .long (acc2)), (3, .int (nI k)), (4, .int (nI q))] → W p l e ({ frames := 3, cells := 0, slots := 0, locals := 74 } : Room) s m ([.ref (gad g 8 0)] : List Value).toArray below meth c0 H locs 0 0 (MQ below (gM g g σ0 w (some (.long (mDig σ0)))) ([.ref (gad g 8 0)] : List Value).toArray s 0 0 (gA g)) (F0 m 38 ls []) := by
          intro nf
          induction nf with
          | zero => intro r2 q acc2 hn; exact absurd hn (Nat.not_lt_zero _)
          | succ nf ih =>
            intro r2 q acc2 hn hk2 hres2 ls hl
            refine lv_iload hx hb dX3_digest_38 (lv_at hl 3 rfl) ?_
            refine lv_iconst (v := 5) hx hb dX3_digest_40 (by decide) ?_
            refine lv_icmp_ge (tgt := 65) hx hb dX3_digest_41 (by decide) (fun c_6 => ?_) (fun c_6 => ?_)
            · skip
              have hge := le_of_nIle (n := 5) c_6 (by omega) (by omega)
              obtain rfl : r2 = 0 := by omega
              have e1 : acc2 = mD1i σ0 k 5 0 acc := hres2
              refine lv_lload_n hx hb dX3_digest_65 rfl (lv_at hl 1 rfl) ?_
              refine lv_ldc2 (v := 31) hx hb hown k4 dX3_digest_66 ?_
              refine lv_lmul hx hb dX3_digest_69 ?_
              refine lv_aload_n hx hb dX3_digest_70 rfl (lv_at hl 0 rfl) ?_
              refine gx_get hx hb hown hZ hG 8 0 13 hM.b8 rfl (by decide) k7 (fun _ h => h) (v := .ref (gad g 9 7)) (grf_j (hM.rf (f := 13) rfl) (by decide)) dX3_digest_71 ?_
              refine lv_iload_n hx hb dX3_digest_74 rfl (lv_at hl 2 rfl) ?_
              refine gx_aldN hx hb hZ hG 9 7 k (by rfl) (hM.b9 (by decide)) rfl rfl ⟨by rw [hM.lc (i := 7) (by decide) (by decide)]; omega, by omega⟩ (v := .int (σ0 9 7 k)) rfl dX3_digest_75 ?_
              refine lv_i2l hx hb dX3_digest_76 rfl ?_
              refine lv_ladd hx hb dX3_digest_77 ?_
              refine lv_ldc2 (v := 31) hx hb hown k4 dX3_digest_78 ?_
              refine lv_lmul hx hb dX3_digest_81 ?_
              refine lv_aload_n hx hb dX3_digest_82 rfl (lv_at hl 0 rfl) ?_
              refine gx_get hx hb hown hZ hG 8 0 14 hM.b8 rfl (by decide) k8 (fun _ h => h) (v := .ref (gad g 9 8)) (grf_j (hM.rf (f := 14) rfl) (by decide)) dX3_digest_83 ?_
              refine lv_iload_n hx hb dX3_digest_86 rfl (lv_at hl 2 rfl) ?_
              refine gx_aldN hx hb hZ hG 9 8 k (by rfl) (hM.b9 (by decide)) rfl rfl ⟨by rw [hM.lc (i := 8) (by decide) (by decide)]; omega, by omega⟩ (v := .int (σ0 9 8 k)) rfl dX3_digest_87 ?_
              refine lv_i2l hx hb dX3_digest_88 rfl ?_
              refine lv_ladd hx hb dX3_digest_89 ?_
              refine lv_lstore_n (lv' := [(1, .long ((((acc2 * 31) + ((σ0 9 7 k).toInt64)) * 31) + ((σ0 9 8 k).toInt64))), (0, .ref (gad g 8 0)), (3, .int (nI k)), (4, .int (nI q))]) hx hb dX3_digest_90 rfl hl (by decide) rfl (fun ls hl => ?_)
              refine lv_iinc (v := nI (k + 1)) (lv' := [(3, .int (nI (k + 1))), (1, .long ((((acc2 * 31) + ((σ0 9 7 k).toInt64)) * 31) + ((σ0 9 8 k).toInt64))), (0, .ref (gad g 8 0)), (4, .int (nI q))]) hx hb dX3_digest_91 hl (k := 2) rfl (nI_1 _) (by decide) rfl (fun ls hl => ?_)
              refine lv_goto (tgt := 27) hx hb dX3_digest_94 (by decide) ?_
              exact ihO1 r (k + 1) ((((acc2 * 31) + ((σ0 9 7 k).toInt64)) * 31) + ((σ0 9 8 k).toInt64)) (by omega) (by omega) (by rw [← hres, mD1, mDc, ← e1]) ls (lv_sub hl [2, 1, 0] rfl)
            · skip
              have hkq := lt_of_nle (n := 5) c_6 (by omega)
              obtain ⟨r2, rfl⟩ : ∃ q, r2 = q + 1 := ⟨r2 - 1, by omega⟩
              refine lv_lload_n hx hb dX3_digest_44 rfl (lv_at hl 1 rfl) ?_
              refine lv_ldc2 (v := 31) hx hb hown k4 dX3_digest_45 ?_
              refine lv_lmul hx hb dX3_digest_48 ?_
              refine lv_aload_n hx hb dX3_digest_49 rfl (lv_at hl 0 rfl) ?_
              refine lv_iload_n hx hb dX3_digest_50 rfl (lv_at hl 2 rfl) ?_
              refine lv_iload hx hb dX3_digest_51 (lv_at hl 3 rfl) ?_
              refine gx_cR (gx_runV (As := [.int (nI k), .int (nI q)]) (rest := [.long (acc2 * 31)]) ⟨hx, hb, hml, hown, hts⟩ (c_X3_cabTold l g σ0 w k (nI q) hM (by omega)) (cwV 2 hts gX3_digest_X3_cabTold rfl rfl rfl (by decide +kernel) ⟨Nat.le_of_ble_eq_true rfl, Nat.le_of_ble_eq_true rfl⟩) (gx_obj hZ hG 8 0 hM.b8 rfl) hZ hG hS rfl hl.1 rfl (Nat.le_of_ble_eq_true rfl) dX3_digest_53 ⟨Nat.le_of_ble_eq_true rfl, Nat.le_of_ble_eq_true rfl⟩) ?_
              refine lv_i2l hx hb dX3_digest_56 rfl ?_
              refine lv_ladd hx hb dX3_digest_57 ?_
              refine lv_lstore_n (lv' := [(1, .long ((acc2 * 31) + ((mCabTold σ0 k (nI q)).toInt64))), (0, .ref (gad g 8 0)), (3, .int (nI k)), (4, .int (nI q))]) hx hb dX3_digest_58 rfl hl (by decide) rfl (fun ls hl => ?_)
              refine lv_iinc (v := nI (q + 1)) (lv' := [(4, .int (nI (q + 1))), (1, .long ((acc2 * 31) + ((mCabTold σ0 k (nI q)).toInt64))), (0, .ref (gad g 8 0)), (3, .int (nI k))]) hx hb dX3_digest_59 hl (k := 3) rfl (nI_1 _) (by decide) rfl (fun ls hl => ?_)
              refine lv_goto (tgt := 38) hx hb dX3_digest_62 (by decide) ?_
              exact ih r2 (q + 1) ((acc2 * 31) + ((mCabTold σ0 k (nI q)).toInt64)) (by omega) (by omega) (by rw [← hres2]; rfl) ls (lv_sub hl [2, 1, 3, 0] rfl)
        exact loop_38 6 5 0 acc (by omega) (by omega) rfl ls (lv_sub hl [1, 2, 3, 0] rfl)
  exact loop_27 (mC σ0 + 1) (mC σ0) 0 ((9083 + (σ0 8 0 1).toInt64) * 31 + (σ0 8 0 5).toInt64) (by omega) (by omega) rfl ls (lv_sub hl [2, 1, 0] rfl)
