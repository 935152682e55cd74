/-! what the minute needs of the cabs, at each of its steps -/
def rIn (σ : Mem) (z c : Nat) : Prop := 1 ≤ rAt σ z c ∧ rAt σ z c ≤ rQn σ z ∧ σ 18 z (rAt σ z c) = nI c ∧ ∀ j, 1 ≤ j → j < rAt σ z c → ¬ σ 18 z j = nI c
/-- before cab c's offer is looked at -/
def rG1 (g : gG) (σ : Mem) (c : Nat) : Prop := σ 16 c 2 = 1 → ¬ σ 16 c 3 < 0 → ∃ z o, z < 6 ∧ σ 16 c 1 = nI z ∧ o < gcn g 17 ∧ σ 16 c 3 = nI o ∧ σ 18 z 0 = nI (rQn σ z) ∧ rQn σ z ≤ 10 ∧ rIn σ z c
/-- before cab c is brought on -/
def rG2 (g : gG) (σ : Mem) (c : Nat) : Prop := ¬ σ 16 c 2 < 2 → ∃ o a b, o < gcn g 17 ∧ σ 16 c 3 = nI o ∧ a < 6 ∧ σ 17 o 0 = nI a ∧ b < 6 ∧ σ 17 o 1 = nI b ∧ σ 18 b 0 = nI (rQn σ b) ∧ rQn σ b ≤ 9
def rM0 (σ : Mem) : Mem := gst σ 8 0 8 (σ 8 0 8 + 1)
def rM1 (n : Nat) (σ : Mem) : Mem := rAgeN n (rM0 σ)
def rM2 (n : Nat) (σ : Mem) : Int32 × Mem := rRunN n (rM1 n σ)
set_option maxHeartbeats 4000000 in
set_option maxRecDepth 100000 in
theorem c_X3_minute (l : Launch) (g : gG) (σ : Mem) (w : Int64) (N : Nat) (hR : Rr g σ) (h1 : ∀ k, k < gcn g 16 → rG1 g (rAgeN k (rM0 σ)) k) (h2 : ∀ k, k < gcn g 16 → rG2 g (rRunN k (rM1 (gcn g 16) σ)).2 k)
  (hQ : ∀ z, z < 6 → rQw (gcn g 16) (rM2 (gcn g 16) σ).2 z) (ha : ∀ o, o < gcn g 17 → inN 6 ((rM2 (gcn g 16) σ).2 17 o 0))
  (hN : ∀ i, i < N → ¬ rBest (rOffN i (rM2 (gcn g 16) σ).2) < 0) (hE : rBest (rOffN N (rM2 (gcn g 16) σ).2) < 0) : Met l yX3_minute wsX3_minute ({ frames := 3, cells := 0, slots := 0, locals := 73 } : Room) (gPc g σ w [.ref (gad g 8 0)]) (gM g g (rOffN N (rM2 (gcn g 16) σ).2) w (some (.int (rM2 (gcn g 16) σ).1))) 0 0 (gA g) := by
  refine gx_ofW (cc := cX3_minute) (maxL := 6) (ret := (some .int)) (by decide) rfl (Nat.le_of_ble_eq_true rfl) ?_
  intro p e s m below meth c0 hx hb hr hml hts hown hlocks hin hG hZ hS ls hl
  have hown : s.vm.findClass RX3 = some m.cls := hown
  have hl : lv_has ls 6 [(0, .ref (gad g 8 0))] := hl
  have k1 := hts (.fieldLink RX3 47 "TaxiRankLaw$Rank" "now" "I") (by decide +kernel)
  have k2 := hts (.fieldLink RX3 64 "TaxiRankLaw$Rank" "many" "I") (by decide +kernel)
  have k3 := hts (.fieldLink RX3 16 "TaxiRankLaw$Rank" "cabs" "[[I") (by decide +kernel)
  have k4 := hts (.fieldLink RX3 19 "TaxiRankLaw$Rank" "orders" "[[I") (by decide +kernel)
  have k5 := hts (.fieldLink RX3 9 "TaxiRankLaw$Rank" "ways" "[[I") (by decide +kernel)
  have k6 := hts (.fieldLink RX3 33 "TaxiRankLaw$Rank" "base" "I") (by decide +kernel)
  have k7 := hts (.fieldLink RX3 37 "TaxiRankLaw$Rank" "rate" "I") (by decide +kernel)
  have k8 := hts (.fieldLink RX3 30 "TaxiRankLaw$Rank" "money" "[[I") (by decide +kernel)
  have hc10 := hR.c10
  have ho60 := hR.o60
  have hR0 := hR
  refine lv_aload_n hx hb dX3_minute_0 rfl (lv_at hl 0 rfl) ?_
  refine lv_dup hx hb dX3_minute_1 rfl ?_
  refine gx_get hx hb hown hZ hG 8 0 8 hR.k8 rfl (by decide) k1 (fun _ h => h) (v := .int (σ 8 0 8)) rfl dX3_minute_2 ?_
  refine lv_iconst (v := 1) hx hb dX3_minute_5 (by decide) ?_
  refine lv_iadd hx hb dX3_minute_6 ?_
  refine gx_put hx hb hown hZ hG hS 8 0 8 ((σ 8 0 8) + 1) hR.k8 rfl (by decide) k1 (fun _ h => h) rfl rfl trivial rfl rfl dX3_minute_7 (fun H locs hG hS => ?_)
  have hR := hR.st8 (f := 8) (v := (σ 8 0 8) + 1) (by decide)
  refine lv_iconst (v := 0) hx hb dX3_minute_10 (by decide) ?_
  refine lv_istore_n (lv' := [(1, .int (0)), (0, .ref (gad g 8 0))]) hx hb dX3_minute_11 rfl hl (by decide) rfl (fun ls hl => ?_)
  have loop_12 : ∀ (nf : Nat) (r : Nat) (k : Nat) (σa : Mem), r < nf → (k + r = gcn g 16) → (σa = rAgeN k (rM0 σ)) → ∀ (H : Heap) (locs : List Loc), GW g σa w H → va_S (gA g) s.heap H locs → ∀ ls : Array Slot, lv_has ls 6 [(0, .ref (gad g 8 0)), (1, .int (nI k))] → W p l e ({ frames := 3, cells := 0, slots := 0, locals := 73 } : Room) s m ([.ref (gad g 8 0)] : List Value).toArray below meth c0 H locs 0 0 (MQ below (gM g g (rOffN N (rM2 (gcn g 16) σ).2) w (some (.int (rM2 (gcn g 16) σ).1))) ([.ref (gad g 8 0)] : List Value).toArray s 0 0 (gA g)) (F0 m 12 ls []) := by
    intro nf
    induction nf with
    | zero => intro r k σa hn; exact absurd hn (Nat.not_lt_zero _)
    | succ nf ih =>
      intro r k σa hn hk hσ H locs hG hS ls hl
      have hR : Rr g σa := by rw [hσ]; exact Rr.ageN (hR0.st8 (by decide)) k
      refine lv_iload_n hx hb dX3_minute_12 rfl (lv_at hl 1 rfl) ?_
      refine lv_aload_n hx hb dX3_minute_13 rfl (lv_at hl 0 rfl) ?_
      refine gx_get hx hb hown hZ hG 8 0 6 hR.k8 rfl (by decide) k2 (fun _ h => h) (v := .int (nI (gcn g 16))) (congrArg Value.int hR.nm) dX3_minute_14 ?_
      refine lv_icmp_ge (tgt := 79) hx hb dX3_minute_17 (by decide) (fun c_1 => ?_) (fun c_1 => ?_)
      · skip
        have hkm0 : k = gcn g 16 := by have := le_of_nIle c_1 (by omega) (by omega); omega
        refine lv_iconst (v := 0) hx hb dX3_minute_79 (by decide) ?_
        refine lv_istore_n (lv' := [(1, .int (0)), (0, .ref (gad g 8 0))]) hx hb dX3_minute_80 rfl hl (by decide) rfl (fun ls hl => ?_)
        refine lv_iconst (v := 0) hx hb dX3_minute_81 (by decide) ?_
        refine lv_istore_n (lv' := [(2, .int (0)), (1, .int (0)), (0, .ref (gad g 8 0))]) hx hb dX3_minute_82 rfl hl (by decide) rfl (fun ls hl => ?_)
        have loop_83 : ∀ (nf : Nat) (rb : Nat) (kb : Nat) (dn : Int32) (σb : Mem), rb < nf → (kb + rb = gcn g 16) → ((dn, σb) = rRunN kb (rM1 (gcn g 16) σ)) → ∀ (H : Heap) (locs : List Loc), GW g σb w H → va_S (gA g) s.heap H locs → ∀ ls : Array Slot, lv_has ls 6 [(0, .ref (gad g 8 0)), (1, .int (dn)), (2, .int (nI kb))] → W p l e ({ frames := 3, cells := 0, slots := 0, locals := 73 } : Room) s m ([.ref (gad g 8 0)] : List Value).toArray below meth c0 H locs 0 0 (MQ below (gM g g (rOffN N (rM2 (gcn g 16) σ).2) w (some (.int (rM2 (gcn g 16) σ).1))) ([.ref (gad g 8 0)] : List Value).toArray s 0 0 (gA g)) (F0 m 83 ls []) := by
          intro nf
          induction nf with
          | zero => intro rb kb dn σb hn; exact absurd hn (Nat.not_lt_zero _)
          | succ nf ih =>
            intro rb kb dn σb hn hk2 hσ2 H locs hG hS ls hl
            have hR : Rr g σb := by rw [show σb = (rRunN kb (rM1 (gcn g 16) σ)).2 from congrArg Prod.snd hσ2]; exact Rr.runN (Rr.ageN (hR0.st8 (by decide)) _) kb
            refine lv_iload_n hx hb dX3_minute_83 rfl (lv_at hl 2 rfl) ?_
            refine lv_aload_n hx hb dX3_minute_84 rfl (lv_at hl 0 rfl) ?_
            refine gx_get hx hb hown hZ hG 8 0 6 hR.k8 rfl (by decide) k2 (fun _ h => h) (v := .int (nI (gcn g 16))) (congrArg Value.int hR.nm) dX3_minute_85 ?_
            refine lv_icmp_ge (tgt := 369) hx hb dX3_minute_88 (by decide) (fun c_2 => ?_) (fun c_2 => ?_)
            · skip
              have hk20 : kb = gcn g 16 := by have := le_of_nIle c_2 (by omega) (by omega); omega
              rw [hk20] at hσ2
              have eb2 : σb = (rM2 (gcn g 16) σ).2 := congrArg Prod.snd hσ2
              refine lv_aload_n hx hb dX3_minute_369 rfl (lv_at hl 0 rfl) ?_
              refine gx_cM (gx_runV (As := []) (rest := []) ⟨hx, hb, hml, hown, hts⟩ (c_X3_offer l g σb w N hR (by rw [eb2]; exact hQ) (by rw [eb2]; exact ha) (by rw [eb2]; exact hN) (by rw [eb2]; exact hE)) (cwV 0 hts gX3_minute_X3_offer rfl rfl rfl (by decide +kernel) ⟨Nat.le_of_ble_eq_true rfl, Nat.le_of_ble_eq_true rfl⟩) (gx_obj hZ hG 8 0 hR.k8 rfl) hZ hG hS rfl hl.1 rfl (Nat.le_of_ble_eq_true rfl) dX3_minute_370 ⟨Nat.le_of_ble_eq_true rfl, Nat.le_of_ble_eq_true rfl⟩) hS (fun H locs hG hS hsz => ?_)
              refine lv_iload_n hx hb dX3_minute_373 rfl (lv_at hl 1 rfl) ?_
              exact gx_iretM hx hb hr hlocks hG hS (congrArg Prod.fst hσ2) (by rw [eb2]) (Nat.le_of_ble_eq_true rfl) (Nat.le_of_ble_eq_true rfl) dX3_minute_374
            · skip
              have hkm2 : kb < gcn g 16 := by
                rcases Nat.lt_or_ge kb (gcn g 16) with q | q
                · exact q
                · exact absurd (nI_le q (by omega)) c_2
              obtain ⟨rb, rfl⟩ : ∃ q, rb = q + 1 := ⟨rb - 1, by omega⟩
              refine lv_aload_n hx hb dX3_minute_91 rfl (lv_at hl 0 rfl) ?_
              refine gx_get hx hb hown hZ hG 8 0 1 hR.k8 rfl (by decide) k3 (fun _ h => h) (v := .ref (gad g 10 0)) (grf_z (hR.rf (f := 1) (by decide))) dX3_minute_92 ?_
              refine lv_iload_n hx hb dX3_minute_95 rfl (lv_at hl 2 rfl) ?_
              refine gx_rt hx hb hZ hG hR 10 kb (by rfl) (by decide) (by decide) hkm2 (by decide) dX3_minute_96 ?_
              refine lv_iconst (v := 2) hx hb dX3_minute_97 (by decide) ?_
              refine gx_aldN hx hb hZ hG 16 kb 2 (by rfl) (hR.rb 10 (by decide) (by decide) hkm2) rfl rfl ⟨by rw [hR.ln 16 (by decide) (by decide) (hR.rb 10 (by decide) (by decide) hkm2)]; decide, by decide⟩ (v := .int (σb 16 kb 2)) rfl dX3_minute_98 ?_
              refine lv_iconst (v := 2) hx hb dX3_minute_99 (by decide) ?_
              refine lv_icmp_lt (tgt := 363) hx hb dX3_minute_100 (by decide) (fun c_3 => ?_) (fun c_3 => ?_)
              · skip
                refine lv_iinc (v := nI (kb + 1)) (lv' := [(2, .int (nI (kb + 1))), (0, .ref (gad g 8 0)), (1, .int (dn))]) hx hb dX3_minute_363 hl (k := 2) rfl (nI_1 _) (by decide) rfl (fun ls hl => ?_)
                refine lv_goto (tgt := 83) hx hb dX3_minute_366 (by decide) ?_
                exact ih rb (kb + 1) (dn) (σb) (by omega) (by omega) (by rw [rRunN_s hσ2]; unfold rRunD rRun1; simp only [c_3, reduceIte, Int32.add_zero]; first | done | rfl) H locs hG hS ls (lv_sub hl [1, 2, 0] rfl)
              · skip
                have h2k : rG2 g σb kb := by rw [show σb = (rRunN kb (rM1 (gcn g 16) σ)).2 from congrArg Prod.snd hσ2]; exact h2 kb hkm2
                obtain ⟨o, a, b, ho, eo, ha6, ea, hb6, eb, hqb, hnb⟩ := h2k c_3
                have hixo : ix (nI o) = o := ix_nI (by omega)
                have hixa : ix (nI a) = a := ix_nI (by omega)
                have hixb : ix (nI b) = b := ix_nI (by omega)
                refine lv_aload_n hx hb dX3_minute_103 rfl (lv_at hl 0 rfl) ?_
                refine gx_get hx hb hown hZ hG 8 0 8 hR.k8 rfl (by decide) k1 (fun _ h => h) (v := .int (σb 8 0 8)) rfl dX3_minute_104 ?_
                refine lv_aload_n hx hb dX3_minute_107 rfl (lv_at hl 0 rfl) ?_
                refine gx_get hx hb hown hZ hG 8 0 1 hR.k8 rfl (by decide) k3 (fun _ h => h) (v := .ref (gad g 10 0)) (grf_z (hR.rf (f := 1) (by decide))) dX3_minute_108 ?_
                refine lv_iload_n hx hb dX3_minute_111 rfl (lv_at hl 2 rfl) ?_
                refine gx_rt hx hb hZ hG hR 10 kb (by rfl) (by decide) (by decide) hkm2 (by decide) dX3_minute_112 ?_
                refine lv_iconst (v := 4) hx hb dX3_minute_113 (by decide) ?_
                refine gx_aldN hx hb hZ hG 16 kb 4 (by rfl) (hR.rb 10 (by decide) (by decide) hkm2) rfl rfl ⟨by rw [hR.ln 16 (by decide) (by decide) (hR.rb 10 (by decide) (by decide) hkm2)]; decide, by decide⟩ (v := .int (σb 16 kb 4)) rfl dX3_minute_114 ?_
                refine lv_icmp_ge (tgt := 121) hx hb dX3_minute_115 (by decide) (fun c_4 => ?_) (fun c_4 => ?_)
                · skip
                  refine lv_aload_n hx hb dX3_minute_121 rfl (lv_at hl 0 rfl) ?_
                  refine gx_get hx hb hown hZ hG 8 0 2 hR.k8 rfl (by decide) k4 (fun _ h => h) (v := .ref (gad g 11 0)) (grf_z (hR.rf (f := 2) (by decide))) dX3_minute_122 ?_
                  refine lv_aload_n hx hb dX3_minute_125 rfl (lv_at hl 0 rfl) ?_
                  refine gx_get hx hb hown hZ hG 8 0 1 hR.k8 rfl (by decide) k3 (fun _ h => h) (v := .ref (gad g 10 0)) (grf_z (hR.rf (f := 1) (by decide))) dX3_minute_126 ?_
                  refine lv_iload_n hx hb dX3_minute_129 rfl (lv_at hl 2 rfl) ?_
                  refine gx_rt hx hb hZ hG hR 10 kb (by rfl) (by decide) (by decide) hkm2 (by decide) dX3_minute_130 ?_
                  refine lv_iconst (v := 3) hx hb dX3_minute_131 (by decide) ?_
                  refine gx_aldN hx hb hZ hG 16 kb 3 (by rfl) (hR.rb 10 (by decide) (by decide) hkm2) rfl rfl ⟨by rw [hR.ln 16 (by decide) (by decide) (hR.rb 10 (by decide) (by decide) hkm2)]; decide, by decide⟩ (v := .int (nI o)) (congrArg Value.int eo) dX3_minute_132 ?_
                  refine gx_rt hx hb hZ hG hR 11 o (by rfl) (by decide) (by decide) ho (by decide) dX3_minute_133 ?_
                  refine lv_astore_n (lv' := [(3, .ref (gad g 17 o)), (0, .ref (gad g 8 0)), (1, .int (dn)), (2, .int (nI kb))]) hx hb dX3_minute_134 rfl hl (by decide) rfl (fun ls hl => ?_)
                  refine lv_aload_n hx hb dX3_minute_135 rfl (lv_at hl 1 rfl) ?_
                  refine gx_get hx hb hown hZ hG 8 0 1 hR.k8 rfl (by decide) k3 (fun _ h => h) (v := .ref (gad g 10 0)) (grf_z (hR.rf (f := 1) (by decide))) dX3_minute_136 ?_
                  refine lv_iload_n hx hb dX3_minute_139 rfl (lv_at hl 3 rfl) ?_
                  refine gx_rt hx hb hZ hG hR 10 kb (by rfl) (by decide) (by decide) hkm2 (by decide) dX3_minute_140 ?_
                  refine lv_iconst (v := 2) hx hb dX3_minute_141 (by decide) ?_
                  refine gx_aldN hx hb hZ hG 16 kb 2 (by rfl) (hR.rb 10 (by decide) (by decide) hkm2) rfl rfl ⟨by rw [hR.ln 16 (by decide) (by decide) (hR.rb 10 (by decide) (by decide) hkm2)]; decide, by decide⟩ (v := .int (σb 16 kb 2)) rfl dX3_minute_142 ?_
                  refine lv_iconst (v := 3) hx hb dX3_minute_143 (by decide) ?_
                  refine lv_icmp_ne (tgt := 220) hx hb dX3_minute_144 (by decide) (fun c_5 => ?_) (fun c_5 => ?_)
                  · skip
                    refine lv_aload_n hx hb dX3_minute_220 rfl (lv_at hl 1 rfl) ?_
                    refine gx_get hx hb hown hZ hG 8 0 8 hR.k8 rfl (by decide) k1 (fun _ h => h) (v := .int (σb 8 0 8)) rfl dX3_minute_221 ?_
                    refine lv_aload_n hx hb dX3_minute_224 rfl (lv_at hl 0 rfl) ?_
                    refine lv_iconst (v := 3) hx hb dX3_minute_225 (by decide) ?_
                    refine gx_aldN hx hb hZ hG 17 o 3 (by rfl) (hR.rb 11 (by decide) (by decide) ho) rfl rfl ⟨by rw [hR.ln 17 (by decide) (by decide) (hR.rb 11 (by decide) (by decide) ho)]; decide, by decide⟩ (v := .int (σb 17 o 3)) rfl dX3_minute_226 ?_
                    refine lv_icmp_lt (tgt := 363) hx hb dX3_minute_227 (by decide) (fun c_6 => ?_) (fun c_6 => ?_)
                    · skip
                      refine lv_iinc (v := nI (kb + 1)) (lv' := [(2, .int (nI (kb + 1))), (3, .ref (gad g 17 o)), (0, .ref (gad g 8 0)), (1, .int (dn))]) hx hb dX3_minute_363 hl (k := 3) rfl (nI_1 _) (by decide) rfl (fun ls hl => ?_)
                      refine lv_goto (tgt := 83) hx hb dX3_minute_366 (by decide) ?_
                      exact ih rb (kb + 1) (dn) (σb) (by omega) (by omega) (by rw [rRunN_s hσ2]; unfold rRunD rRun1; simp only [c_3, c_4, c_5, c_6, eo, ea, eb, hixo, hixa, hixb, rDone, rRide, rFare, rWy, reduceIte, Int32.add_zero]; first | done | rfl) H locs hG hS ls (lv_sub hl [2, 3, 0] rfl)
                    · skip
                      refine lv_aload_n hx hb dX3_minute_230 rfl (lv_at hl 1 rfl) ?_
                      refine gx_get hx hb hown hZ hG 8 0 0 hR.k8 rfl (by decide) k5 (fun _ h => h) (v := .ref (gad g 9 0)) (grf_z (hR.rf (f := 0) (by decide))) dX3_minute_231 ?_
                      refine lv_aload_n hx hb dX3_minute_234 rfl (lv_at hl 0 rfl) ?_
                      refine lv_iconst (v := 0) hx hb dX3_minute_235 (by decide) ?_
                      refine gx_aldN hx hb hZ hG 17 o 0 (by rfl) (hR.rb 11 (by decide) (by decide) ho) rfl rfl ⟨by rw [hR.ln 17 (by decide) (by decide) (hR.rb 11 (by decide) (by decide) ho)]; decide, by decide⟩ (v := .int (nI a)) (congrArg Value.int ea) dX3_minute_236 ?_
                      refine gx_rt hx hb hZ hG hR 9 a (by rfl) (by decide) (by decide) ha6 (by decide) dX3_minute_237 ?_
                      refine lv_aload_n hx hb dX3_minute_238 rfl (lv_at hl 0 rfl) ?_
                      refine lv_iconst (v := 1) hx hb dX3_minute_239 (by decide) ?_
                      refine gx_aldN hx hb hZ hG 17 o 1 (by rfl) (hR.rb 11 (by decide) (by decide) ho) rfl rfl ⟨by rw [hR.ln 17 (by decide) (by decide) (hR.rb 11 (by decide) (by decide) ho)]; decide, by decide⟩ (v := .int (nI b)) (congrArg Value.int eb) dX3_minute_240 ?_
                      refine gx_aldN hx hb hZ hG 15 a b (by rfl) (hR.rb 9 (by decide) (by decide) ha6) rfl rfl ⟨by rw [hR.ln 15 (by decide) (by decide) (hR.rb 9 (by decide) (by decide) ha6)]; show b < 6; omega, by omega⟩ (v := .int (σb 15 a b)) rfl dX3_minute_241 ?_
                      refine lv_istore (lv' := [(4, .int (σb 15 a b)), (3, .ref (gad g 17 o)), (0, .ref (gad g 8 0)), (1, .int (dn)), (2, .int (nI kb))]) hx hb dX3_minute_242 hl (by decide) rfl (fun ls hl => ?_)
                      refine lv_aload_n hx hb dX3_minute_244 rfl (lv_at hl 1 rfl) ?_
                      refine lv_iconst (v := 4) hx hb dX3_minute_245 (by decide) ?_
                      refine lv_iconst (v := 3) hx hb dX3_minute_246 (by decide) ?_
                      refine gx_astN hx hb hZ hG hS 17 o 4 (by rfl) (hR.rb 11 (by decide) (by decide) ho) rfl rfl ⟨by rw [hR.ln 17 (by decide) (by decide) (hR.rb 11 (by decide) (by decide) ho)]; decide, by decide⟩ rfl trivial dX3_minute_247 (fun H locs hG hS => ?_)
                      have hR := hR.st (k := 17) (i := o) (f := 4) (v := 3) (by decide)
                      refine lv_aload_n hx hb dX3_minute_248 rfl (lv_at hl 1 rfl) ?_
                      refine lv_bipush (v := 6) hx hb dX3_minute_249 (by decide) ?_
                      refine lv_aload_n hx hb dX3_minute_251 rfl (lv_at hl 2 rfl) ?_
                      refine gx_get hx hb hown hZ hG 8 0 8 hR.k8 rfl (by decide) k1 (fun _ h => h) (v := .int (σb 8 0 8)) (congrArg Value.int (by simp [gst_app])) dX3_minute_252 ?_
                      refine gx_astN hx hb hZ hG hS 17 o 6 (by rfl) (hR.rb 11 (by decide) (by decide) ho) rfl rfl ⟨by rw [hR.ln 17 (by decide) (by decide) (hR.rb 11 (by decide) (by decide) ho)]; decide, by decide⟩ rfl trivial dX3_minute_255 (fun H locs hG hS => ?_)
                      have hR := hR.st (k := 17) (i := o) (f := 6) (v := σb 8 0 8) (by decide)
                      refine lv_aload_n hx hb dX3_minute_256 rfl (lv_at hl 2 rfl) ?_
                      refine gx_get hx hb hown hZ hG 8 0 8 hR.k8 rfl (by decide) k1 (fun _ h => h) (v := .int (σb 8 0 8)) (congrArg Value.int (by simp [gst_app])) dX3_minute_257 ?_
                      refine lv_aload_n hx hb dX3_minute_260 rfl (lv_at hl 1 rfl) ?_
                      refine lv_iconst (v := 3) hx hb dX3_minute_261 (by decide) ?_
                      refine gx_aldN hx hb hZ hG 17 o 3 (by rfl) (hR.rb 11 (by decide) (by decide) ho) rfl rfl ⟨by rw [hR.ln 17 (by decide) (by decide) (hR.rb 11 (by decide) (by decide) ho)]; decide, by decide⟩ (v := .int (σb 17 o 3)) (congrArg Value.int (by simp [gst_app])) dX3_minute_262 ?_
                      refine lv_isub hx hb dX3_minute_263 ?_
                      refine lv_istore (lv' := [(5, .int ((σb 8 0 8) - (σb 17 o 3))), (4, .int (σb 15 a b)), (3, .ref (gad g 17 o)), (0, .ref (gad g 8 0)), (1, .int (dn)), (2, .int (nI kb))]) hx hb dX3_minute_264 hl (by decide) rfl (fun ls hl => ?_)
                      refine lv_aload_n hx hb dX3_minute_266 rfl (lv_at hl 2 rfl) ?_
                      refine lv_bipush (v := 9) hx hb dX3_minute_267 (by decide) ?_
                      refine lv_aload_n hx hb dX3_minute_269 rfl (lv_at hl 3 rfl) ?_
                      refine gx_get hx hb hown hZ hG 8 0 9 hR.k8 rfl (by decide) k6 (fun _ h => h) (v := .int (σb 8 0 9)) (congrArg Value.int (by simp [gst_app])) dX3_minute_270 ?_
                      refine lv_aload_n hx hb dX3_minute_273 rfl (lv_at hl 3 rfl) ?_
                      refine gx_get hx hb hown hZ hG 8 0 10 hR.k8 rfl (by decide) k7 (fun _ h => h) (v := .int (σb 8 0 10)) (congrArg Value.int (by simp [gst_app])) dX3_minute_274 ?_
                      refine lv_iload hx hb dX3_minute_277 (lv_at hl 1 rfl) ?_
                      refine lv_imul hx hb dX3_minute_279 ?_
                      refine lv_iadd hx hb dX3_minute_280 ?_
                      refine lv_iload hx hb dX3_minute_281 (lv_at hl 0 rfl) ?_
                      refine lv_iconst (v := 5) hx hb dX3_minute_283 (by decide) ?_
                      refine lv_icmp_le (tgt := 291) hx hb dX3_minute_284 (by decide) (fun c_7 => ?_) (fun c_7 => ?_)
                      · skip
                        refine lv_iload hx hb dX3_minute_291 (lv_at hl 0 rfl) ?_
                        refine lv_isub hx hb dX3_minute_293 ?_
                        refine lv_aload_n hx hb dX3_minute_294 rfl (lv_at hl 3 rfl) ?_
                        refine gx_get hx hb hown hZ hG 8 0 8 hR.k8 rfl (by decide) k1 (fun _ h => h) (v := .int (σb 8 0 8)) (congrArg Value.int (by simp [gst_app])) dX3_minute_295 ?_
                        refine lv_sipush (v := 1440) hx hb dX3_minute_298 (by decide) ?_
                        refine lv_irem hx hb dX3_minute_301 (by decide) ?_
                        refine lv_sipush (v := 360) hx hb dX3_minute_302 (by decide) ?_
                        refine lv_icmp_ge (tgt := 325) hx hb dX3_minute_305 (by decide) (fun c_8 => ?_) (fun c_8 => ?_)
                        · skip
                          refine lv_iconst (v := 0) hx hb dX3_minute_325 (by decide) ?_
                          refine lv_iadd hx hb dX3_minute_326 ?_
                          refine gx_astN hx hb hZ hG hS 17 o 9 (by rfl) (hR.rb 11 (by decide) (by decide) ho) rfl rfl ⟨by rw [hR.ln 17 (by decide) (by decide) (hR.rb 11 (by decide) (by decide) ho)]; decide, by decide⟩ rfl trivial dX3_minute_327 (fun H locs hG hS => ?_)
                          have hR := hR.st (k := 17) (i := o) (f := 9) (v := (((σb 8 0 9) + ((σb 8 0 10) * (σb 15 a b))) - ((σb 8 0 8) - (σb 17 o 3))) + 0) (by decide)
                          refine lv_aload_n hx hb dX3_minute_328 rfl (lv_at hl 3 rfl) ?_
                          refine gx_get hx hb hown hZ hG 8 0 1 hR.k8 rfl (by decide) k3 (fun _ h => h) (v := .ref (gad g 10 0)) (grf_z (hR.rf (f := 1) (by decide))) dX3_minute_329 ?_
                          refine lv_iload_n hx hb dX3_minute_332 rfl (lv_at hl 5 rfl) ?_
                          refine gx_rt hx hb hZ hG hR 10 kb (by rfl) (by decide) (by decide) hkm2 (by decide) dX3_minute_333 ?_
                          refine lv_iconst (v := 2) hx hb dX3_minute_334 (by decide) ?_
                          refine lv_iconst (v := 3) hx hb dX3_minute_335 (by decide) ?_
                          refine gx_astN hx hb hZ hG hS 16 kb 2 (by rfl) (hR.rb 10 (by decide) (by decide) hkm2) rfl rfl ⟨by rw [hR.ln 16 (by decide) (by decide) (hR.rb 10 (by decide) (by decide) hkm2)]; decide, by decide⟩ rfl trivial dX3_minute_336 (fun H locs hG hS => ?_)
                          have hR := hR.st (k := 16) (i := kb) (f := 2) (v := 3) (by decide)
                          refine lv_aload_n hx hb dX3_minute_337 rfl (lv_at hl 3 rfl) ?_
                          refine gx_get hx hb hown hZ hG 8 0 1 hR.k8 rfl (by decide) k3 (fun _ h => h) (v := .ref (gad g 10 0)) (grf_z (hR.rf (f := 1) (by decide))) dX3_minute_338 ?_
                          refine lv_iload_n hx hb dX3_minute_341 rfl (lv_at hl 5 rfl) ?_
                          refine gx_rt hx hb hZ hG hR 10 kb (by rfl) (by decide) (by decide) hkm2 (by decide) dX3_minute_342 ?_
                          refine lv_iconst (v := 1) hx hb dX3_minute_343 (by decide) ?_
                          refine lv_aload_n hx hb dX3_minute_344 rfl (lv_at hl 2 rfl) ?_
                          refine lv_iconst (v := 0) hx hb dX3_minute_345 (by decide) ?_
                          refine gx_aldN hx hb hZ hG 17 o 0 (by rfl) (hR.rb 11 (by decide) (by decide) ho) rfl rfl ⟨by rw [hR.ln 17 (by decide) (by decide) (hR.rb 11 (by decide) (by decide) ho)]; decide, by decide⟩ (v := .int (nI a)) (congrArg Value.int (by simp [gst_app, ea])) dX3_minute_346 ?_
                          refine gx_astN hx hb hZ hG hS 16 kb 1 (by rfl) (hR.rb 10 (by decide) (by decide) hkm2) rfl rfl ⟨by rw [hR.ln 16 (by decide) (by decide) (hR.rb 10 (by decide) (by decide) hkm2)]; decide, by decide⟩ rfl trivial dX3_minute_347 (fun H locs hG hS => ?_)
                          have hR := hR.st (k := 16) (i := kb) (f := 1) (v := nI a) (by decide)
                          refine lv_aload_n hx hb dX3_minute_348 rfl (lv_at hl 3 rfl) ?_
                          refine gx_get hx hb hown hZ hG 8 0 1 hR.k8 rfl (by decide) k3 (fun _ h => h) (v := .ref (gad g 10 0)) (grf_z (hR.rf (f := 1) (by decide))) dX3_minute_349 ?_
                          refine lv_iload_n hx hb dX3_minute_352 rfl (lv_at hl 5 rfl) ?_
                          refine gx_rt hx hb hZ hG hR 10 kb (by rfl) (by decide) (by decide) hkm2 (by decide) dX3_minute_353 ?_
                          refine lv_iconst (v := 4) hx hb dX3_minute_354 (by decide) ?_
                          refine lv_aload_n hx hb dX3_minute_355 rfl (lv_at hl 3 rfl) ?_
                          refine gx_get hx hb hown hZ hG 8 0 8 hR.k8 rfl (by decide) k1 (fun _ h => h) (v := .int (σb 8 0 8)) (congrArg Value.int (by simp [gst_app])) dX3_minute_356 ?_
                          refine lv_iload hx hb dX3_minute_359 (lv_at hl 1 rfl) ?_
                          refine lv_iadd hx hb dX3_minute_361 ?_
                          refine gx_astN hx hb hZ hG hS 16 kb 4 (by rfl) (hR.rb 10 (by decide) (by decide) hkm2) rfl rfl ⟨by rw [hR.ln 16 (by decide) (by decide) (hR.rb 10 (by decide) (by decide) hkm2)]; decide, by decide⟩ rfl trivial dX3_minute_362 (fun H locs hG hS => ?_)
                          have hR := hR.st (k := 16) (i := kb) (f := 4) (v := (σb 8 0 8) + (σb 15 a b)) (by decide)
                          refine lv_iinc (v := nI (kb + 1)) (lv' := [(2, .int (nI (kb + 1))), (5, .int ((σb 8 0 8) - (σb 17 o 3))), (4, .int (σb 15 a b)), (3, .ref (gad g 17 o)), (0, .ref (gad g 8 0)), (1, .int (dn))]) hx hb dX3_minute_363 hl (k := 5) rfl (nI_1 _) (by decide) rfl (fun ls hl => ?_)
                          refine lv_goto (tgt := 83) hx hb dX3_minute_366 (by decide) ?_
                          exact ih rb (kb + 1) (dn) (gst (gst (gst (gst (gst (gst σb 17 o 4 3) 17 o 6 (σb 8 0 8)) 17 o 9 ((((σb 8 0 9) + ((σb 8 0 10) * (σb 15 a b))) - ((σb 8 0 8) - (σb 17 o 3))) + 0)) 16 kb 2 3) 16 kb 1 (nI a)) 16 kb 4 ((σb 8 0 8) + (σb 15 a b))) (by omega) (by omega) (by rw [rRunN_s hσ2]; unfold rRunD rRun1; simp only [c_3, c_4, c_5, c_6, c_7, c_8, eo, ea, eb, hixo, hixa, hixb, rDone, rRide, rFare, rWy, reduceIte, Int32.add_zero]; first | done | rfl) H locs hG hS ls (lv_sub hl [4, 5, 0] rfl)
                        · skip
                          refine lv_aload_n hx hb dX3_minute_308 rfl (lv_at hl 3 rfl) ?_
                          refine gx_get hx hb hown hZ hG 8 0 9 hR.k8 rfl (by decide) k6 (fun _ h => h) (v := .int (σb 8 0 9)) (congrArg Value.int (by simp [gst_app])) dX3_minute_309 ?_
                          refine lv_aload_n hx hb dX3_minute_312 rfl (lv_at hl 3 rfl) ?_
                          refine gx_get hx hb hown hZ hG 8 0 10 hR.k8 rfl (by decide) k7 (fun _ h => h) (v := .int (σb 8 0 10)) (congrArg Value.int (by simp [gst_app])) dX3_minute_313 ?_
                          refine lv_iload hx hb dX3_minute_316 (lv_at hl 1 rfl) ?_
                          refine lv_imul hx hb dX3_minute_318 ?_
                          refine lv_iadd hx hb dX3_minute_319 ?_
                          refine lv_iconst (v := 2) hx hb dX3_minute_320 (by decide) ?_
                          refine lv_idiv hx hb dX3_minute_321 (by decide) ?_
                          refine lv_goto (tgt := 326) hx hb dX3_minute_322 (by decide) ?_
                          refine lv_iadd hx hb dX3_minute_326 ?_
                          refine gx_astN hx hb hZ hG hS 17 o 9 (by rfl) (hR.rb 11 (by decide) (by decide) ho) rfl rfl ⟨by rw [hR.ln 17 (by decide) (by decide) (hR.rb 11 (by decide) (by decide) ho)]; decide, by decide⟩ rfl trivial dX3_minute_327 (fun H locs hG hS => ?_)
                          have hR := hR.st (k := 17) (i := o) (f := 9) (v := (((σb 8 0 9) + ((σb 8 0 10) * (σb 15 a b))) - ((σb 8 0 8) - (σb 17 o 3))) + (((σb 8 0 9) + ((σb 8 0 10) * (σb 15 a b))) / 2)) (by decide)
                          refine lv_aload_n hx hb dX3_minute_328 rfl (lv_at hl 3 rfl) ?_
                          refine gx_get hx hb hown hZ hG 8 0 1 hR.k8 rfl (by decide) k3 (fun _ h => h) (v := .ref (gad g 10 0)) (grf_z (hR.rf (f := 1) (by decide))) dX3_minute_329 ?_
                          refine lv_iload_n hx hb dX3_minute_332 rfl (lv_at hl 5 rfl) ?_
                          refine gx_rt hx hb hZ hG hR 10 kb (by rfl) (by decide) (by decide) hkm2 (by decide) dX3_minute_333 ?_
                          refine lv_iconst (v := 2) hx hb dX3_minute_334 (by decide) ?_
                          refine lv_iconst (v := 3) hx hb dX3_minute_335 (by decide) ?_
                          refine gx_astN hx hb hZ hG hS 16 kb 2 (by rfl) (hR.rb 10 (by decide) (by decide) hkm2) rfl rfl ⟨by rw [hR.ln 16 (by decide) (by decide) (hR.rb 10 (by decide) (by decide) hkm2)]; decide, by decide⟩ rfl trivial dX3_minute_336 (fun H locs hG hS => ?_)
                          have hR := hR.st (k := 16) (i := kb) (f := 2) (v := 3) (by decide)
                          refine lv_aload_n hx hb dX3_minute_337 rfl (lv_at hl 3 rfl) ?_
                          refine gx_get hx hb hown hZ hG 8 0 1 hR.k8 rfl (by decide) k3 (fun _ h => h) (v := .ref (gad g 10 0)) (grf_z (hR.rf (f := 1) (by decide))) dX3_minute_338 ?_
                          refine lv_iload_n hx hb dX3_minute_341 rfl (lv_at hl 5 rfl) ?_
                          refine gx_rt hx hb hZ hG hR 10 kb (by rfl) (by decide) (by decide) hkm2 (by decide) dX3_minute_342 ?_
                          refine lv_iconst (v := 1) hx hb dX3_minute_343 (by decide) ?_
                          refine lv_aload_n hx hb dX3_minute_344 rfl (lv_at hl 2 rfl) ?_
                          refine lv_iconst (v := 0) hx hb dX3_minute_345 (by decide) ?_
                          refine gx_aldN hx hb hZ hG 17 o 0 (by rfl) (hR.rb 11 (by decide) (by decide) ho) rfl rfl ⟨by rw [hR.ln 17 (by decide) (by decide) (hR.rb 11 (by decide) (by decide) ho)]; decide, by decide⟩ (v := .int (nI a)) (congrArg Value.int (by simp [gst_app, ea])) dX3_minute_346 ?_
                          refine gx_astN hx hb hZ hG hS 16 kb 1 (by rfl) (hR.rb 10 (by decide) (by decide) hkm2) rfl rfl ⟨by rw [hR.ln 16 (by decide) (by decide) (hR.rb 10 (by decide) (by decide) hkm2)]; decide, by decide⟩ rfl trivial dX3_minute_347 (fun H locs hG hS => ?_)
                          have hR := hR.st (k := 16) (i := kb) (f := 1) (v := nI a) (by decide)
                          refine lv_aload_n hx hb dX3_minute_348 rfl (lv_at hl 3 rfl) ?_
                          refine gx_get hx hb hown hZ hG 8 0 1 hR.k8 rfl (by decide) k3 (fun _ h => h) (v := .ref (gad g 10 0)) (grf_z (hR.rf (f := 1) (by decide))) dX3_minute_349 ?_
                          refine lv_iload_n hx hb dX3_minute_352 rfl (lv_at hl 5 rfl) ?_
                          refine gx_rt hx hb hZ hG hR 10 kb (by rfl) (by decide) (by decide) hkm2 (by decide) dX3_minute_353 ?_
                          refine lv_iconst (v := 4) hx hb dX3_minute_354 (by decide) ?_
                          refine lv_aload_n hx hb dX3_minute_355 rfl (lv_at hl 3 rfl) ?_
                          refine gx_get hx hb hown hZ hG 8 0 8 hR.k8 rfl (by decide) k1 (fun _ h => h) (v := .int (σb 8 0 8)) (congrArg Value.int (by simp [gst_app])) dX3_minute_356 ?_
                          refine lv_iload hx hb dX3_minute_359 (lv_at hl 1 rfl) ?_
                          refine lv_iadd hx hb dX3_minute_361 ?_
                          refine gx_astN hx hb hZ hG hS 16 kb 4 (by rfl) (hR.rb 10 (by decide) (by decide) hkm2) rfl rfl ⟨by rw [hR.ln 16 (by decide) (by decide) (hR.rb 10 (by decide) (by decide) hkm2)]; decide, by decide⟩ rfl trivial dX3_minute_362 (fun H locs hG hS => ?_)
                          have hR := hR.st (k := 16) (i := kb) (f := 4) (v := (σb 8 0 8) + (σb 15 a b)) (by decide)
                          refine lv_iinc (v := nI (kb + 1)) (lv' := [(2, .int (nI (kb + 1))), (5, .int ((σb 8 0 8) - (σb 17 o 3))), (4, .int (σb 15 a b)), (3, .ref (gad g 17 o)), (0, .ref (gad g 8 0)), (1, .int (dn))]) hx hb dX3_minute_363 hl (k := 5) rfl (nI_1 _) (by decide) rfl (fun ls hl => ?_)
                          refine lv_goto (tgt := 83) hx hb dX3_minute_366 (by decide) ?_
                          exact ih rb (kb + 1) (dn) (gst (gst (gst (gst (gst (gst σb 17 o 4 3) 17 o 6 (σb 8 0 8)) 17 o 9 ((((σb 8 0 9) + ((σb 8 0 10) * (σb 15 a b))) - ((σb 8 0 8) - (σb 17 o 3))) + (((σb 8 0 9) + ((σb 8 0 10) * (σb 15 a b))) / 2))) 16 kb 2 3) 16 kb 1 (nI a)) 16 kb 4 ((σb 8 0 8) + (σb 15 a b))) (by omega) (by omega) (by rw [rRunN_s hσ2]; unfold rRunD rRun1; simp only [c_3, c_4, c_5, c_6, c_7, c_8, eo, ea, eb, hixo, hixa, hixb, rDone, rRide, rFare, rWy, reduceIte, Int32.add_zero]; first | done | rfl) H locs hG hS ls (lv_sub hl [4, 5, 0] rfl)
                      · skip
                        refine lv_iconst (v := 5) hx hb dX3_minute_287 (by decide) ?_
                        refine lv_goto (tgt := 293) hx hb dX3_minute_288 (by decide) ?_
                        refine lv_isub hx hb dX3_minute_293 ?_
                        refine lv_aload_n hx hb dX3_minute_294 rfl (lv_at hl 3 rfl) ?_
                        refine gx_get hx hb hown hZ hG 8 0 8 hR.k8 rfl (by decide) k1 (fun _ h => h) (v := .int (σb 8 0 8)) (congrArg Value.int (by simp [gst_app])) dX3_minute_295 ?_
                        refine lv_sipush (v := 1440) hx hb dX3_minute_298 (by decide) ?_
                        refine lv_irem hx hb dX3_minute_301 (by decide) ?_
                        refine lv_sipush (v := 360) hx hb dX3_minute_302 (by decide) ?_
                        refine lv_icmp_ge (tgt := 325) hx hb dX3_minute_305 (by decide) (fun c_9 => ?_) (fun c_9 => ?_)
                        · skip
                          refine lv_iconst (v := 0) hx hb dX3_minute_325 (by decide) ?_
                          refine lv_iadd hx hb dX3_minute_326 ?_
                          refine gx_astN hx hb hZ hG hS 17 o 9 (by rfl) (hR.rb 11 (by decide) (by decide) ho) rfl rfl ⟨by rw [hR.ln 17 (by decide) (by decide) (hR.rb 11 (by decide) (by decide) ho)]; decide, by decide⟩ rfl trivial dX3_minute_327 (fun H locs hG hS => ?_)
                          have hR := hR.st (k := 17) (i := o) (f := 9) (v := (((σb 8 0 9) + ((σb 8 0 10) * (σb 15 a b))) - 5) + 0) (by decide)
                          refine lv_aload_n hx hb dX3_minute_328 rfl (lv_at hl 3 rfl) ?_
                          refine gx_get hx hb hown hZ hG 8 0 1 hR.k8 rfl (by decide) k3 (fun _ h => h) (v := .ref (gad g 10 0)) (grf_z (hR.rf (f := 1) (by decide))) dX3_minute_329 ?_
                          refine lv_iload_n hx hb dX3_minute_332 rfl (lv_at hl 5 rfl) ?_
                          refine gx_rt hx hb hZ hG hR 10 kb (by rfl) (by decide) (by decide) hkm2 (by decide) dX3_minute_333 ?_
                          refine lv_iconst (v := 2) hx hb dX3_minute_334 (by decide) ?_
                          refine lv_iconst (v := 3) hx hb dX3_minute_335 (by decide) ?_
                          refine gx_astN hx hb hZ hG hS 16 kb 2 (by rfl) (hR.rb 10 (by decide) (by decide) hkm2) rfl rfl ⟨by rw [hR.ln 16 (by decide) (by decide) (hR.rb 10 (by decide) (by decide) hkm2)]; decide, by decide⟩ rfl trivial dX3_minute_336 (fun H locs hG hS => ?_)
                          have hR := hR.st (k := 16) (i := kb) (f := 2) (v := 3) (by decide)
                          refine lv_aload_n hx hb dX3_minute_337 rfl (lv_at hl 3 rfl) ?_
                          refine gx_get hx hb hown hZ hG 8 0 1 hR.k8 rfl (by decide) k3 (fun _ h => h) (v := .ref (gad g 10 0)) (grf_z (hR.rf (f := 1) (by decide))) dX3_minute_338 ?_
                          refine lv_iload_n hx hb dX3_minute_341 rfl (lv_at hl 5 rfl) ?_
                          refine gx_rt hx hb hZ hG hR 10 kb (by rfl) (by decide) (by decide) hkm2 (by decide) dX3_minute_342 ?_
                          refine lv_iconst (v := 1) hx hb dX3_minute_343 (by decide) ?_
                          refine lv_aload_n hx hb dX3_minute_344 rfl (lv_at hl 2 rfl) ?_
                          refine lv_iconst (v := 0) hx hb dX3_minute_345 (by decide) ?_
                          refine gx_aldN hx hb hZ hG 17 o 0 (by rfl) (hR.rb 11 (by decide) (by decide) ho) rfl rfl ⟨by rw [hR.ln 17 (by decide) (by decide) (hR.rb 11 (by decide) (by decide) ho)]; decide, by decide⟩ (v := .int (nI a)) (congrArg Value.int (by simp [gst_app, ea])) dX3_minute_346 ?_
                          refine gx_astN hx hb hZ hG hS 16 kb 1 (by rfl) (hR.rb 10 (by decide) (by decide) hkm2) rfl rfl ⟨by rw [hR.ln 16 (by decide) (by decide) (hR.rb 10 (by decide) (by decide) hkm2)]; decide, by decide⟩ rfl trivial dX3_minute_347 (fun H locs hG hS => ?_)
                          have hR := hR.st (k := 16) (i := kb) (f := 1) (v := nI a) (by decide)
                          refine lv_aload_n hx hb dX3_minute_348 rfl (lv_at hl 3 rfl) ?_
                          refine gx_get hx hb hown hZ hG 8 0 1 hR.k8 rfl (by decide) k3 (fun _ h => h) (v := .ref (gad g 10 0)) (grf_z (hR.rf (f := 1) (by decide))) dX3_minute_349 ?_
                          refine lv_iload_n hx hb dX3_minute_352 rfl (lv_at hl 5 rfl) ?_
                          refine gx_rt hx hb hZ hG hR 10 kb (by rfl) (by decide) (by decide) hkm2 (by decide) dX3_minute_353 ?_
                          refine lv_iconst (v := 4) hx hb dX3_minute_354 (by decide) ?_
                          refine lv_aload_n hx hb dX3_minute_355 rfl (lv_at hl 3 rfl) ?_
                          refine gx_get hx hb hown hZ hG 8 0 8 hR.k8 rfl (by decide) k1 (fun _ h => h) (v := .int (σb 8 0 8)) (congrArg Value.int (by simp [gst_app])) dX3_minute_356 ?_
                          refine lv_iload hx hb dX3_minute_359 (lv_at hl 1 rfl) ?_
                          refine lv_iadd hx hb dX3_minute_361 ?_
                          refine gx_astN hx hb hZ hG hS 16 kb 4 (by rfl) (hR.rb 10 (by decide) (by decide) hkm2) rfl rfl ⟨by rw [hR.ln 16 (by decide) (by decide) (hR.rb 10 (by decide) (by decide) hkm2)]; decide, by decide⟩ rfl trivial dX3_minute_362 (fun H locs hG hS => ?_)
                          have hR := hR.st (k := 16) (i := kb) (f := 4) (v := (σb 8 0 8) + (σb 15 a b)) (by decide)
                          refine lv_iinc (v := nI (kb + 1)) (lv' := [(2, .int (nI (kb + 1))), (5, .int ((σb 8 0 8) - (σb 17 o 3))), (4, .int (σb 15 a b)), (3, .ref (gad g 17 o)), (0, .ref (gad g 8 0)), (1, .int (dn))]) hx hb dX3_minute_363 hl (k := 5) rfl (nI_1 _) (by decide) rfl (fun ls hl => ?_)
                          refine lv_goto (tgt := 83) hx hb dX3_minute_366 (by decide) ?_
                          exact ih rb (kb + 1) (dn) (gst (gst (gst (gst (gst (gst σb 17 o 4 3) 17 o 6 (σb 8 0 8)) 17 o 9 ((((σb 8 0 9) + ((σb 8 0 10) * (σb 15 a b))) - 5) + 0)) 16 kb 2 3) 16 kb 1 (nI a)) 16 kb 4 ((σb 8 0 8) + (σb 15 a b))) (by omega) (by omega) (by rw [rRunN_s hσ2]; unfold rRunD rRun1; simp only [c_3, c_4, c_5, c_6, c_7, c_9, eo, ea, eb, hixo, hixa, hixb, rDone, rRide, rFare, rWy, reduceIte, Int32.add_zero]; first | done | rfl) H locs hG hS ls (lv_sub hl [4, 5, 0] rfl)
                        · skip
                          refine lv_aload_n hx hb dX3_minute_308 rfl (lv_at hl 3 rfl) ?_
                          refine gx_get hx hb hown hZ hG 8 0 9 hR.k8 rfl (by decide) k6 (fun _ h => h) (v := .int (σb 8 0 9)) (congrArg Value.int (by simp [gst_app])) dX3_minute_309 ?_
                          refine lv_aload_n hx hb dX3_minute_312 rfl (lv_at hl 3 rfl) ?_
                          refine gx_get hx hb hown hZ hG 8 0 10 hR.k8 rfl (by decide) k7 (fun _ h => h) (v := .int (σb 8 0 10)) (congrArg Value.int (by simp [gst_app])) dX3_minute_313 ?_
                          refine lv_iload hx hb dX3_minute_316 (lv_at hl 1 rfl) ?_
                          refine lv_imul hx hb dX3_minute_318 ?_
                          refine lv_iadd hx hb dX3_minute_319 ?_
                          refine lv_iconst (v := 2) hx hb dX3_minute_320 (by decide) ?_
                          refine lv_idiv hx hb dX3_minute_321 (by decide) ?_
                          refine lv_goto (tgt := 326) hx hb dX3_minute_322 (by decide) ?_
                          refine lv_iadd hx hb dX3_minute_326 ?_
                          refine gx_astN hx hb hZ hG hS 17 o 9 (by rfl) (hR.rb 11 (by decide) (by decide) ho) rfl rfl ⟨by rw [hR.ln 17 (by decide) (by decide) (hR.rb 11 (by decide) (by decide) ho)]; decide, by decide⟩ rfl trivial dX3_minute_327 (fun H locs hG hS => ?_)
                          have hR := hR.st (k := 17) (i := o) (f := 9) (v := (((σb 8 0 9) + ((σb 8 0 10) * (σb 15 a b))) - 5) + (((σb 8 0 9) + ((σb 8 0 10) * (σb 15 a b))) / 2)) (by decide)
                          refine lv_aload_n hx hb dX3_minute_328 rfl (lv_at hl 3 rfl) ?_
                          refine gx_get hx hb hown hZ hG 8 0 1 hR.k8 rfl (by decide) k3 (fun _ h => h) (v := .ref (gad g 10 0)) (grf_z (hR.rf (f := 1) (by decide))) dX3_minute_329 ?_
                          refine lv_iload_n hx hb dX3_minute_332 rfl (lv_at hl 5 rfl) ?_
                          refine gx_rt hx hb hZ hG hR 10 kb (by rfl) (by decide) (by decide) hkm2 (by decide) dX3_minute_333 ?_
                          refine lv_iconst (v := 2) hx hb dX3_minute_334 (by decide) ?_
                          refine lv_iconst (v := 3) hx hb dX3_minute_335 (by decide) ?_
                          refine gx_astN hx hb hZ hG hS 16 kb 2 (by rfl) (hR.rb 10 (by decide) (by decide) hkm2) rfl rfl ⟨by rw [hR.ln 16 (by decide) (by decide) (hR.rb 10 (by decide) (by decide) hkm2)]; decide, by decide⟩ rfl trivial dX3_minute_336 (fun H locs hG hS => ?_)
                          have hR := hR.st (k := 16) (i := kb) (f := 2) (v := 3) (by decide)
                          refine lv_aload_n hx hb dX3_minute_337 rfl (lv_at hl 3 rfl) ?_
                          refine gx_get hx hb hown hZ hG 8 0 1 hR.k8 rfl (by decide) k3 (fun _ h => h) (v := .ref (gad g 10 0)) (grf_z (hR.rf (f := 1) (by decide))) dX3_minute_338 ?_
                          refine lv_iload_n hx hb dX3_minute_341 rfl (lv_at hl 5 rfl) ?_
                          refine gx_rt hx hb hZ hG hR 10 kb (by rfl) (by decide) (by decide) hkm2 (by decide) dX3_minute_342 ?_
                          refine lv_iconst (v := 1) hx hb dX3_minute_343 (by decide) ?_
                          refine lv_aload_n hx hb dX3_minute_344 rfl (lv_at hl 2 rfl) ?_
                          refine lv_iconst (v := 0) hx hb dX3_minute_345 (by decide) ?_
                          refine gx_aldN hx hb hZ hG 17 o 0 (by rfl) (hR.rb 11 (by decide) (by decide) ho) rfl rfl ⟨by rw [hR.ln 17 (by decide) (by decide) (hR.rb 11 (by decide) (by decide) ho)]; decide, by decide⟩ (v := .int (nI a)) (congrArg Value.int (by simp [gst_app, ea])) dX3_minute_346 ?_
                          refine gx_astN hx hb hZ hG hS 16 kb 1 (by rfl) (hR.rb 10 (by decide) (by decide) hkm2) rfl rfl ⟨by rw [hR.ln 16 (by decide) (by decide) (hR.rb 10 (by decide) (by decide) hkm2)]; decide, by decide⟩ rfl trivial dX3_minute_347 (fun H locs hG hS => ?_)
                          have hR := hR.st (k := 16) (i := kb) (f := 1) (v := nI a) (by decide)
                          refine lv_aload_n hx hb dX3_minute_348 rfl (lv_at hl 3 rfl) ?_
                          refine gx_get hx hb hown hZ hG 8 0 1 hR.k8 rfl (by decide) k3 (fun _ h => h) (v := .ref (gad g 10 0)) (grf_z (hR.rf (f := 1) (by decide))) dX3_minute_349 ?_
                          refine lv_iload_n hx hb dX3_minute_352 rfl (lv_at hl 5 rfl) ?_
                          refine gx_rt hx hb hZ hG hR 10 kb (by rfl) (by decide) (by decide) hkm2 (by decide) dX3_minute_353 ?_
                          refine lv_iconst (v := 4) hx hb dX3_minute_354 (by decide) ?_
                          refine lv_aload_n hx hb dX3_minute_355 rfl (lv_at hl 3 rfl) ?_
                          refine gx_get hx hb hown hZ hG 8 0 8 hR.k8 rfl (by decide) k1 (fun _ h => h) (v := .int (σb 8 0 8)) (congrArg Value.int (by simp [gst_app])) dX3_minute_356 ?_
                          refine lv_iload hx hb dX3_minute_359 (lv_at hl 1 rfl) ?_
                          refine lv_iadd hx hb dX3_minute_361 ?_
                          refine gx_astN hx hb hZ hG hS 16 kb 4 (by rfl) (hR.rb 10 (by decide) (by decide) hkm2) rfl rfl ⟨by rw [hR.ln 16 (by decide) (by decide) (hR.rb 10 (by decide) (by decide) hkm2)]; decide, by decide⟩ rfl trivial dX3_minute_362 (fun H locs hG hS => ?_)
                          have hR := hR.st (k := 16) (i := kb) (f := 4) (v := (σb 8 0 8) + (σb 15 a b)) (by decide)
                          refine lv_iinc (v := nI (kb + 1)) (lv' := [(2, .int (nI (kb + 1))), (5, .int ((σb 8 0 8) - (σb 17 o 3))), (4, .int (σb 15 a b)), (3, .ref (gad g 17 o)), (0, .ref (gad g 8 0)), (1, .int (dn))]) hx hb dX3_minute_363 hl (k := 5) rfl (nI_1 _) (by decide) rfl (fun ls hl => ?_)
                          refine lv_goto (tgt := 83) hx hb dX3_minute_366 (by decide) ?_
                          exact ih rb (kb + 1) (dn) (gst (gst (gst (gst (gst (gst σb 17 o 4 3) 17 o 6 (σb 8 0 8)) 17 o 9 ((((σb 8 0 9) + ((σb 8 0 10) * (σb 15 a b))) - 5) + (((σb 8 0 9) + ((σb 8 0 10) * (σb 15 a b))) / 2))) 16 kb 2 3) 16 kb 1 (nI a)) 16 kb 4 ((σb 8 0 8) + (σb 15 a b))) (by omega) (by omega) (by rw [rRunN_s hσ2]; unfold rRunD rRun1; simp only [c_3, c_4, c_5, c_6, c_7, c_9, eo, ea, eb, hixo, hixa, hixb, rDone, rRide, rFare, rWy, reduceIte, Int32.add_zero]; first | done | rfl) H locs hG hS ls (lv_sub hl [4, 5, 0] rfl)
                  · skip
                    refine lv_aload_n hx hb dX3_minute_147 rfl (lv_at hl 0 rfl) ?_
                    refine lv_iconst (v := 4) hx hb dX3_minute_148 (by decide) ?_
                    refine lv_iconst (v := 4) hx hb dX3_minute_149 (by decide) ?_
                    refine gx_astN hx hb hZ hG hS 17 o 4 (by rfl) (hR.rb 11 (by decide) (by decide) ho) rfl rfl ⟨by rw [hR.ln 17 (by decide) (by decide) (hR.rb 11 (by decide) (by decide) ho)]; decide, by decide⟩ rfl trivial dX3_minute_150 (fun H locs hG hS => ?_)
                    have hR := hR.st (k := 17) (i := o) (f := 4) (v := 4) (by decide)
                    refine lv_aload_n hx hb dX3_minute_151 rfl (lv_at hl 0 rfl) ?_
                    refine lv_bipush (v := 7) hx hb dX3_minute_152 (by decide) ?_
                    refine lv_aload_n hx hb dX3_minute_154 rfl (lv_at hl 1 rfl) ?_
                    refine gx_get hx hb hown hZ hG 8 0 8 hR.k8 rfl (by decide) k1 (fun _ h => h) (v := .int (σb 8 0 8)) (congrArg Value.int (by simp [gst_app])) dX3_minute_155 ?_
                    refine gx_astN hx hb hZ hG hS 17 o 7 (by rfl) (hR.rb 11 (by decide) (by decide) ho) rfl rfl ⟨by rw [hR.ln 17 (by decide) (by decide) (hR.rb 11 (by decide) (by decide) ho)]; decide, by decide⟩ rfl trivial dX3_minute_158 (fun H locs hG hS => ?_)
                    have hR := hR.st (k := 17) (i := o) (f := 7) (v := σb 8 0 8) (by decide)
                    refine lv_aload_n hx hb dX3_minute_159 rfl (lv_at hl 1 rfl) ?_
                    refine gx_get hx hb hown hZ hG 8 0 5 hR.k8 rfl (by decide) k8 (fun _ h => h) (v := .ref (gad g 14 0)) (grf_z (hR.rf (f := 5) (by decide))) dX3_minute_160 ?_
                    refine lv_iload_n hx hb dX3_minute_163 rfl (lv_at hl 3 rfl) ?_
                    refine gx_rt hx hb hZ hG hR 14 kb (by rfl) (by decide) (by decide) (show kb < 10 by omega) (by decide) dX3_minute_164 ?_
                    refine lv_iconst (v := 0) hx hb dX3_minute_165 (by decide) ?_
                    refine lv_dup2_11 hx hb dX3_minute_166 rfl rfl ?_
                    refine gx_aldN hx hb hZ hG 20 kb 0 (by rfl) (hR.rb 14 (by decide) (by decide) (show kb < 10 by omega)) rfl rfl ⟨by rw [hR.ln 20 (by decide) (by decide) (hR.rb 14 (by decide) (by decide) (show kb < 10 by omega))]; decide, by decide⟩ (v := .int (σb 20 kb 0)) (congrArg Value.int (by simp [gst_app])) dX3_minute_167 ?_
                    refine lv_aload_n hx hb dX3_minute_168 rfl (lv_at hl 0 rfl) ?_
                    refine lv_bipush (v := 9) hx hb dX3_minute_169 (by decide) ?_
                    refine gx_aldN hx hb hZ hG 17 o 9 (by rfl) (hR.rb 11 (by decide) (by decide) ho) rfl rfl ⟨by rw [hR.ln 17 (by decide) (by decide) (hR.rb 11 (by decide) (by decide) ho)]; decide, by decide⟩ (v := .int (σb 17 o 9)) (congrArg Value.int (by simp [gst_app])) dX3_minute_171 ?_
                    refine lv_bipush (v := 80) hx hb dX3_minute_172 (by decide) ?_
                    refine lv_imul hx hb dX3_minute_174 ?_
                    refine lv_bipush (v := 100) hx hb dX3_minute_175 (by decide) ?_
                    refine lv_idiv hx hb dX3_minute_177 (by decide) ?_
                    refine lv_iadd hx hb dX3_minute_178 ?_
                    refine gx_astN hx hb hZ hG hS 20 kb 0 (by rfl) (hR.rb 14 (by decide) (by decide) (show kb < 10 by omega)) rfl rfl ⟨by rw [hR.ln 20 (by decide) (by decide) (hR.rb 14 (by decide) (by decide) (show kb < 10 by omega))]; decide, by decide⟩ rfl trivial dX3_minute_179 (fun H locs hG hS => ?_)
                    have hR := hR.st (k := 20) (i := kb) (f := 0) (v := (σb 20 kb 0) + (((σb 17 o 9) * 80) / 100)) (by decide)
                    refine lv_aload_n hx hb dX3_minute_180 rfl (lv_at hl 1 rfl) ?_
                    refine gx_get hx hb hown hZ hG 8 0 5 hR.k8 rfl (by decide) k8 (fun _ h => h) (v := .ref (gad g 14 0)) (grf_z (hR.rf (f := 5) (by decide))) dX3_minute_181 ?_
                    refine lv_iload_n hx hb dX3_minute_184 rfl (lv_at hl 3 rfl) ?_
                    refine gx_rt hx hb hZ hG hR 14 kb (by rfl) (by decide) (by decide) (show kb < 10 by omega) (by decide) dX3_minute_185 ?_
                    refine lv_iconst (v := 1) hx hb dX3_minute_186 (by decide) ?_
                    refine lv_dup2_11 hx hb dX3_minute_187 rfl rfl ?_
                    refine gx_aldN hx hb hZ hG 20 kb 1 (by rfl) (hR.rb 14 (by decide) (by decide) (show kb < 10 by omega)) rfl rfl ⟨by rw [hR.ln 20 (by decide) (by decide) (hR.rb 14 (by decide) (by decide) (show kb < 10 by omega))]; decide, by decide⟩ (v := .int (σb 20 kb 1)) (congrArg Value.int (by simp [gst_app])) dX3_minute_188 ?_
                    refine lv_aload_n hx hb dX3_minute_189 rfl (lv_at hl 0 rfl) ?_
                    refine lv_bipush (v := 9) hx hb dX3_minute_190 (by decide) ?_
                    refine gx_aldN hx hb hZ hG 17 o 9 (by rfl) (hR.rb 11 (by decide) (by decide) ho) rfl rfl ⟨by rw [hR.ln 17 (by decide) (by decide) (hR.rb 11 (by decide) (by decide) ho)]; decide, by decide⟩ (v := .int (σb 17 o 9)) (congrArg Value.int (by simp [gst_app])) dX3_minute_192 ?_
                    refine lv_aload_n hx hb dX3_minute_193 rfl (lv_at hl 0 rfl) ?_
                    refine lv_bipush (v := 9) hx hb dX3_minute_194 (by decide) ?_
                    refine gx_aldN hx hb hZ hG 17 o 9 (by rfl) (hR.rb 11 (by decide) (by decide) ho) rfl rfl ⟨by rw [hR.ln 17 (by decide) (by decide) (hR.rb 11 (by decide) (by decide) ho)]; decide, by decide⟩ (v := .int (σb 17 o 9)) (congrArg Value.int (by simp [gst_app])) dX3_minute_196 ?_
                    refine lv_bipush (v := 80) hx hb dX3_minute_197 (by decide) ?_
                    refine lv_imul hx hb dX3_minute_199 ?_
                    refine lv_bipush (v := 100) hx hb dX3_minute_200 (by decide) ?_
                    refine lv_idiv hx hb dX3_minute_202 (by decide) ?_
                    refine lv_isub hx hb dX3_minute_203 ?_
                    refine lv_iadd hx hb dX3_minute_204 ?_
                    refine gx_astN hx hb hZ hG hS 20 kb 1 (by rfl) (hR.rb 14 (by decide) (by decide) (show kb < 10 by omega)) rfl rfl ⟨by rw [hR.ln 20 (by decide) (by decide) (hR.rb 14 (by decide) (by decide) (show kb < 10 by omega))]; decide, by decide⟩ rfl trivial dX3_minute_205 (fun H locs hG hS => ?_)
                    have hR := hR.st (k := 20) (i := kb) (f := 1) (v := (σb 20 kb 1) + ((σb 17 o 9) - (((σb 17 o 9) * 80) / 100))) (by decide)
                    refine lv_aload_n hx hb dX3_minute_206 rfl (lv_at hl 1 rfl) ?_
                    refine lv_iload_n hx hb dX3_minute_207 rfl (lv_at hl 3 rfl) ?_
                    refine lv_aload_n hx hb dX3_minute_208 rfl (lv_at hl 0 rfl) ?_
                    refine lv_iconst (v := 1) hx hb dX3_minute_209 (by decide) ?_
                    refine gx_aldN hx hb hZ hG 17 o 1 (by rfl) (hR.rb 11 (by decide) (by decide) ho) rfl rfl ⟨by rw [hR.ln 17 (by decide) (by decide) (hR.rb 11 (by decide) (by decide) ho)]; decide, by decide⟩ (v := .int (nI b)) (congrArg Value.int (by simp [gst_app, eb])) dX3_minute_210 ?_
                    refine gx_cM (gx_runV (As := [.int (nI kb), .int (nI b)]) (rest := []) ⟨hx, hb, hml, hown, hts⟩ (c_X3_free l g (gst (gst (gst (gst σb 17 o 4 4) 17 o 7 (σb 8 0 8)) 20 kb 0 ((σb 20 kb 0) + (((σb 17 o 9) * 80) / 100))) 20 kb 1 ((σb 20 kb 1) + ((σb 17 o 9) - (((σb 17 o 9) * 80) / 100)))) w kb b hR hkm2 hb6 (show σb 18 b 0 = nI (rQn σb b) from hqb) (show rQn σb b ≤ 9 from hnb)) (cwV 2 hts gX3_minute_X3_free rfl rfl rfl (by decide +kernel) ⟨Nat.le_of_ble_eq_true rfl, Nat.le_of_ble_eq_true rfl⟩) (gx_obj hZ hG 8 0 hR.k8 rfl) hZ hG hS rfl hl.1 rfl (Nat.le_of_ble_eq_true rfl) dX3_minute_211 ⟨Nat.le_of_ble_eq_true rfl, Nat.le_of_ble_eq_true rfl⟩) hS (fun H locs hG hS hsz => ?_)
                    have hR := hR.free (c := kb) (z := b)
                    refine lv_iinc (v := dn + 1) (lv' := [(1, .int (dn + 1)), (3, .ref (gad g 17 o)), (0, .ref (gad g 8 0)), (2, .int (nI kb))]) hx hb dX3_minute_214 hl (k := 2) rfl rfl (by decide) rfl (fun ls hl => ?_)
                    refine lv_goto (tgt := 363) hx hb dX3_minute_217 (by decide) ?_
                    refine lv_iinc (v := nI (kb + 1)) (lv' := [(2, .int (nI (kb + 1))), (1, .int (dn + 1)), (3, .ref (gad g 17 o)), (0, .ref (gad g 8 0))]) hx hb dX3_minute_363 hl (k := 3) rfl (nI_1 _) (by decide) rfl (fun ls hl => ?_)
                    refine lv_goto (tgt := 83) hx hb dX3_minute_366 (by decide) ?_
                    exact ih rb (kb + 1) (dn + 1) (rFree (gst (gst (gst (gst σb 17 o 4 4) 17 o 7 (σb 8 0 8)) 20 kb 0 ((σb 20 kb 0) + (((σb 17 o 9) * 80) / 100))) 20 kb 1 ((σb 20 kb 1) + ((σb 17 o 9) - (((σb 17 o 9) * 80) / 100)))) kb b) (by omega) (by omega) (by rw [rRunN_s hσ2]; unfold rRunD rRun1; simp only [c_3, c_4, c_5, eo, ea, eb, hixo, hixa, hixb, rDone, rRide, rFare, rWy, reduceIte, Int32.add_zero]; first | done | rfl) H locs hG hS ls (lv_sub hl [3, 1, 0] rfl)
                · skip
                  refine lv_goto (tgt := 363) hx hb dX3_minute_118 (by decide) ?_
                  refine lv_iinc (v := nI (kb + 1)) (lv' := [(2, .int (nI (kb + 1))), (0, .ref (gad g 8 0)), (1, .int (dn))]) hx hb dX3_minute_363 hl (k := 2) rfl (nI_1 _) (by decide) rfl (fun ls hl => ?_)
                  refine lv_goto (tgt := 83) hx hb dX3_minute_366 (by decide) ?_
                  exact ih rb (kb + 1) (dn) (σb) (by omega) (by omega) (by rw [rRunN_s hσ2]; unfold rRunD rRun1; simp only [c_3, c_4, eo, ea, eb, hixo, hixa, hixb, rDone, rRide, rFare, rWy, reduceIte, Int32.add_zero]; first | done | rfl) H locs hG hS ls (lv_sub hl [1, 2, 0] rfl)
        exact loop_83 (gcn g 16 + 1) (gcn g 16) 0 0 σa (by omega) (by omega) (by show (0, σa) = (0, rM1 (gcn g 16) σ); unfold rM1; rw [hσ, hkm0]) _ _ hG hS ls (lv_sub hl [2, 1, 0] rfl)
      · skip
        have hkm : k < gcn g 16 := by
          rcases Nat.lt_or_ge k (gcn g 16) with q | q
          · exact q
          · exact absurd (nI_le q (by omega)) c_1
        obtain ⟨r, rfl⟩ : ∃ q, r = q + 1 := ⟨r - 1, by omega⟩
        refine lv_aload_n hx hb dX3_minute_20 rfl (lv_at hl 0 rfl) ?_
        refine gx_get hx hb hown hZ hG 8 0 1 hR.k8 rfl (by decide) k3 (fun _ h => h) (v := .ref (gad g 10 0)) (grf_z (hR.rf (f := 1) (by decide))) dX3_minute_21 ?_
        refine lv_iload_n hx hb dX3_minute_24 rfl (lv_at hl 1 rfl) ?_
        refine gx_rt hx hb hZ hG hR 10 k (by rfl) (by decide) (by decide) hkm (by decide) dX3_minute_25 ?_
        refine lv_iconst (v := 2) hx hb dX3_minute_26 (by decide) ?_
        refine gx_aldN hx hb hZ hG 16 k 2 (by rfl) (hR.rb 10 (by decide) (by decide) hkm) rfl rfl ⟨by rw [hR.ln 16 (by decide) (by decide) (hR.rb 10 (by decide) (by decide) hkm)]; decide, by decide⟩ (v := .int (σa 16 k 2)) rfl dX3_minute_27 ?_
        refine lv_iconst (v := 1) hx hb dX3_minute_28 (by decide) ?_
        refine lv_icmp_ne (tgt := 73) hx hb dX3_minute_29 (by decide) (fun c_10 => ?_) (fun c_10 => ?_)
        · skip
          refine lv_iinc (v := nI (k + 1)) (lv' := [(1, .int (nI (k + 1))), (0, .ref (gad g 8 0))]) hx hb dX3_minute_73 hl (k := 1) rfl (nI_1 _) (by decide) rfl (fun ls hl => ?_)
          refine lv_goto (tgt := 12) hx hb dX3_minute_76 (by decide) ?_
          exact ih r (k + 1) (σa) (by omega) (by omega) (by show _ = rAge1 (rAgeN k (rM0 σ)) k; rw [← hσ]; unfold rAge1; simp only [c_10, reduceIte]) H locs hG hS ls (lv_sub hl [1, 0] rfl)
        · skip
          refine lv_aload_n hx hb dX3_minute_32 rfl (lv_at hl 0 rfl) ?_
          refine gx_get hx hb hown hZ hG 8 0 1 hR.k8 rfl (by decide) k3 (fun _ h => h) (v := .ref (gad g 10 0)) (grf_z (hR.rf (f := 1) (by decide))) dX3_minute_33 ?_
          refine lv_iload_n hx hb dX3_minute_36 rfl (lv_at hl 1 rfl) ?_
          refine gx_rt hx hb hZ hG hR 10 k (by rfl) (by decide) (by decide) hkm (by decide) dX3_minute_37 ?_
          refine lv_iconst (v := 3) hx hb dX3_minute_38 (by decide) ?_
          refine gx_aldN hx hb hZ hG 16 k 3 (by rfl) (hR.rb 10 (by decide) (by decide) hkm) rfl rfl ⟨by rw [hR.ln 16 (by decide) (by decide) (hR.rb 10 (by decide) (by decide) hkm)]; decide, by decide⟩ (v := .int (σa 16 k 3)) rfl dX3_minute_39 ?_
          refine lv_if_lt (tgt := 73) hx hb dX3_minute_40 (by decide) (fun c_11 => ?_) (fun c_11 => ?_)
          · skip
            refine lv_iinc (v := nI (k + 1)) (lv' := [(1, .int (nI (k + 1))), (0, .ref (gad g 8 0))]) hx hb dX3_minute_73 hl (k := 1) rfl (nI_1 _) (by decide) rfl (fun ls hl => ?_)
            refine lv_goto (tgt := 12) hx hb dX3_minute_76 (by decide) ?_
            exact ih r (k + 1) (σa) (by omega) (by omega) (by show _ = rAge1 (rAgeN k (rM0 σ)) k; rw [← hσ]; unfold rAge1; simp only [c_10, c_11, reduceIte]) H locs hG hS ls (lv_sub hl [1, 0] rfl)
          · skip
            refine lv_aload_n hx hb dX3_minute_43 rfl (lv_at hl 0 rfl) ?_
            refine gx_get hx hb hown hZ hG 8 0 8 hR.k8 rfl (by decide) k1 (fun _ h => h) (v := .int (σa 8 0 8)) rfl dX3_minute_44 ?_
            refine lv_aload_n hx hb dX3_minute_47 rfl (lv_at hl 0 rfl) ?_
            refine gx_get hx hb hown hZ hG 8 0 1 hR.k8 rfl (by decide) k3 (fun _ h => h) (v := .ref (gad g 10 0)) (grf_z (hR.rf (f := 1) (by decide))) dX3_minute_48 ?_
            refine lv_iload_n hx hb dX3_minute_51 rfl (lv_at hl 1 rfl) ?_
            refine gx_rt hx hb hZ hG hR 10 k (by rfl) (by decide) (by decide) hkm (by decide) dX3_minute_52 ?_
            refine lv_iconst (v := 4) hx hb dX3_minute_53 (by decide) ?_
            refine gx_aldN hx hb hZ hG 16 k 4 (by rfl) (hR.rb 10 (by decide) (by decide) hkm) rfl rfl ⟨by rw [hR.ln 16 (by decide) (by decide) (hR.rb 10 (by decide) (by decide) hkm)]; decide, by decide⟩ (v := .int (σa 16 k 4)) rfl dX3_minute_54 ?_
            refine lv_iconst (v := 2) hx hb dX3_minute_55 (by decide) ?_
            refine lv_iadd hx hb dX3_minute_56 ?_
            refine lv_icmp_ge (tgt := 63) hx hb dX3_minute_57 (by decide) (fun c_12 => ?_) (fun c_12 => ?_)
            · skip
              obtain ⟨z, o, hz, ez, ho, eo, hq, hn10, hA⟩ := (show rG1 g σa k by rw [hσ]; exact h1 k hkm) c_10 c_11
              have r1 : rRfd σa k 16 k 1 = nI z := by unfold rRfd; simp [gst_app, ez]
              have r2 : ∀ z j, rRfd σa k 18 z j = σa 18 z j := fun z j => by unfold rRfd; simp [gst_app]
              have r3 : rQn (rRfd σa k) z = rQn σa z := by unfold rQn; rw [r2]
              have r4 : rAt (rRfd σa k) z k = rAt σa z k := rAt_cong (fun j => r2 z j)
              refine lv_aload_n hx hb dX3_minute_63 rfl (lv_at hl 0 rfl) ?_
              refine lv_iload_n hx hb dX3_minute_64 rfl (lv_at hl 1 rfl) ?_
              refine gx_cM (gx_runV (As := [.int (nI k)]) (rest := []) ⟨hx, hb, hml, hown, hts⟩ (c_X3_refuse l g σa w k o hR hkm ho eo) (cwV 1 hts gX3_minute_X3_refuse rfl rfl rfl (by decide +kernel) ⟨Nat.le_of_ble_eq_true rfl, Nat.le_of_ble_eq_true rfl⟩) (gx_obj hZ hG 8 0 hR.k8 rfl) hZ hG hS rfl hl.1 rfl (Nat.le_of_ble_eq_true rfl) dX3_minute_65 ⟨Nat.le_of_ble_eq_true rfl, Nat.le_of_ble_eq_true rfl⟩) hS (fun H locs hG hS hsz => ?_)
              have hR := hR.rfd (c := k)
              refine lv_aload_n hx hb dX3_minute_68 rfl (lv_at hl 0 rfl) ?_
              refine lv_iload_n hx hb dX3_minute_69 rfl (lv_at hl 1 rfl) ?_
              refine gx_cM (gx_runV (As := [.int (nI k)]) (rest := []) ⟨hx, hb, hml, hown, hts⟩ (c_X3_back l g (rRfd σa k) w k z hR hkm hz r1 (by rw [r2, r3]; exact hq) (by rw [r3]; exact hn10) ⟨by rw [r4]; exact hA.1, by rw [r4, r3]; exact hA.2.1, by rw [r4, r2]; exact hA.2.2.1, fun j q1 q2 => by rw [r4] at q2; rw [r2]; exact hA.2.2.2 j q1 q2⟩) (cwV 1 hts gX3_minute_X3_back rfl rfl rfl (by decide +kernel) ⟨Nat.le_of_ble_eq_true rfl, Nat.le_of_ble_eq_true rfl⟩) (gx_obj hZ hG 8 0 hR.k8 rfl) hZ hG hS rfl hl.1 rfl (Nat.le_of_ble_eq_true rfl) dX3_minute_70 ⟨Nat.le_of_ble_eq_true rfl, Nat.le_of_ble_eq_true rfl⟩) hS (fun H locs hG hS hsz => ?_)
              have hR := hR.back (c := k)
              refine lv_iinc (v := nI (k + 1)) (lv' := [(1, .int (nI (k + 1))), (0, .ref (gad g 8 0))]) hx hb dX3_minute_73 hl (k := 1) rfl (nI_1 _) (by decide) rfl (fun ls hl => ?_)
              refine lv_goto (tgt := 12) hx hb dX3_minute_76 (by decide) ?_
              exact ih r (k + 1) (rBack (rRfd σa k) k) (by omega) (by omega) (by show _ = rAge1 (rAgeN k (rM0 σ)) k; rw [← hσ]; unfold rAge1; simp only [c_10, c_11, c_12, reduceIte]) H locs hG hS ls (lv_sub hl [1, 0] rfl)
            · skip
              refine lv_goto (tgt := 73) hx hb dX3_minute_60 (by decide) ?_
              refine lv_iinc (v := nI (k + 1)) (lv' := [(1, .int (nI (k + 1))), (0, .ref (gad g 8 0))]) hx hb dX3_minute_73 hl (k := 1) rfl (nI_1 _) (by decide) rfl (fun ls hl => ?_)
              refine lv_goto (tgt := 12) hx hb dX3_minute_76 (by decide) ?_
              exact ih r (k + 1) (σa) (by omega) (by omega) (by show _ = rAge1 (rAgeN k (rM0 σ)) k; rw [← hσ]; unfold rAge1; simp only [c_10, c_11, c_12, reduceIte]) H locs hG hS ls (lv_sub hl [1, 0] rfl)
  exact loop_12 (gcn g 16 + 1) (gcn g 16) 0 (rM0 σ) (by omega) (by omega) rfl _ _ hG hS ls (lv_sub hl [1, 0] rfl)
