section LAWS
variable {p : Program} {e : Env} {s : State} {m : MethodId} {args : Array Value} {below : List Frame} {meth : Method} {c0 : Code} {H : Heap} {locs : List Loc} {Q : State → Prop} {ls : Array Slot} {g : gG} {σ μ : Mem} {w : Int64} {hs : Nat → Nat × Bool} {t B b : Nat} {cells slots : Nat}
set_option maxHeartbeats 4000000 in
set_option maxRecDepth 100000 in
theorem law_A (l : Launch) (hl0 : l.stackTraces = false) (C : LC p s m c0 args) (hZ : ZZ g s) (hG : GW g μ w H) (hS : va_S (gA g) s.heap H locs) (hX : Xok g μ) (hR : Rr g μ) (hA : LA g) {o i d : Nat} {x : Int32} (hog : o < gcn g 7) (hog17 : o < gcn g 17) (ho60 : o < 60) (hge : ¬ bcnt (μ 7 o 8) < μ 21 0 o) (hle : bcnt (μ 7 o 8) ≤ nI (gcn g 16)) (ed : μ 17 o 3 = nI d) (hroom : cells + 100 ≤ 600104 ∧ slots + 600 ≤ 7301314) (hl : lv_has ls 11 [(0, .ref b), (1, .ref (gad g 0 0)), (2, .ref (gad g 8 0)), (3, .ref (gad g 21 0)), (4, .ref (gad g 22 0)), (5, .int (nI i)), (6, .int (x)), (7, .int (nI o))]) (kk : ∀ (H : Heap) (locs : List Loc) (ls : Array Slot), GW g (gst μ 21 0 o (bcnt (μ 7 o 8))) w H → va_S (gA g) s.heap H locs → lv_has ls 11 [(0, .ref b), (1, .ref (gad g 0 0)), (2, .ref (gad g 8 0)), (3, .ref (gad g 21 0)), (4, .ref (gad g 22 0)), (5, .int (nI i)), (6, .int (x)), (7, .int (nI o)), (8, .int (μ 7 o 5)), (9, .int (nI d))] → W p l e room_1 s m args below meth c0 H locs (cells + 8) (slots + 48) Q (F0 m 141 ls [])) : W p l e room_1 s m args below meth c0 H locs cells slots Q (F0 m 80 ls []) := by
  obtain ⟨hx, hb, hml, hown, hts⟩ := C
  have k1 := hts (.fieldLink RL 15 "TaxiRankLaw$Rank" "many" "I") (by decide +kernel)
  have k2 := hts (.fieldLink RL 36 "TaxiRankLaw$Rank" "orders" "[[I") (by decide +kernel)
  have hc10 := hR.c10
  have hn6 := hX.n6
  refine lv_aload_n hx hb dL_law_80 rfl (lv_at hl 1 rfl) ?_
  refine lv_iload hx hb dL_law_81 (lv_at hl 7 rfl) ?_
  refine lv_iconst (v := 0) hx hb dL_law_83 (by decide) ?_
  refine gx_cRx (gx_xrunV (As := [.int (nI o), .int (0)]) (rest := []) ⟨hx, hb, hml, hown, hts⟩ (c_X2_told l hl0 g μ w (nI o) 0 hX) (cwV 2 hts gL_law_X2_told rfl rfl rfl (by decide +kernel) ⟨Nat.le_of_ble_eq_true rfl, Nat.le_of_ble_eq_true rfl⟩) (gx_obj hZ hG 0 0 hX.k0 rfl) hZ hG hS rfl hl.1 rfl (Nat.le_of_ble_eq_true rfl) dL_law_84 ⟨rc1 (by omega), rs1 (by omega)⟩) hG hS (fun E ce q9 H1 hPE hG hS hz1 hk1 hce hcv hcl => ?_) (fun hD => ?_)
  · exact absurd (hPE.2.symm.trans (toldE hX hog (by decide) (by decide))) (by decide)
  refine gx_topN (y := μ 7 o 5) (by rw [ix_nI (by omega)]; exact xod0) ?_
  refine lv_istore (lv' := [(8, .int (μ 7 o 5)), (0, .ref b), (1, .ref (gad g 0 0)), (2, .ref (gad g 8 0)), (3, .ref (gad g 21 0)), (4, .ref (gad g 22 0)), (5, .int (nI i)), (6, .int (x)), (7, .int (nI o))]) hx hb dL_law_87 hl (by decide) rfl (fun ls hl => ?_)
  refine lv_aload_n hx hb dL_law_89 rfl (lv_at hl 2 rfl) ?_
  refine lv_iload hx hb dL_law_90 (lv_at hl 8 rfl) ?_
  refine lv_iconst (v := 4) hx hb dL_law_92 (by decide) ?_
  refine gx_cRx (gx_xrunV (As := [.int (nI o), .int (4)]) (rest := []) ⟨hx, hb, hml, hown, hts⟩ (c_X2_told l hl0 g μ w (nI o) 4 hX) (cwV 2 hts gL_law_X2_told rfl rfl rfl (by decide +kernel) ⟨Nat.le_of_ble_eq_true rfl, Nat.le_of_ble_eq_true rfl⟩) (gx_obj hZ hG 0 0 hX.k0 rfl) hZ hG hS rfl hl.1 rfl (Nat.le_of_ble_eq_true rfl) dL_law_93 ⟨rc1 (by omega), rs1 (by omega)⟩) hG hS (fun E ce q9 H1 hPE hG hS hz1 hk1 hce hcv hcl => ?_) (fun hD => ?_)
  · exact absurd (hPE.2.symm.trans (toldE hX hog (by decide) (by decide))) (by decide)
  refine gx_topN (y := bcnt (μ 7 o 8)) (by rw [ix_nI (by omega)]; exact xod4) ?_
  refine lv_aload_n hx hb dL_law_96 rfl (lv_at hl 4 rfl) ?_
  refine lv_iload hx hb dL_law_97 (lv_at hl 8 rfl) ?_
  refine gx_aldN hx hb hZ hG 21 0 o (by rfl) (by rw [hA.1.1]; decide) rfl rfl ⟨by rw [hA.2.1]; omega, by omega⟩ (v := .int (μ 21 0 o)) rfl dL_law_99 ?_
  refine lv_icmp_lt (tgt := 117) hx hb dL_law_100 (by decide) (fun c_1 => ?_) (fun c_1 => ?_)
  · skip
    exact absurd c_1 hge
  · skip
    refine lv_aload_n hx hb dL_law_103 rfl (lv_at hl 2 rfl) ?_
    refine lv_iload hx hb dL_law_104 (lv_at hl 8 rfl) ?_
    refine lv_iconst (v := 4) hx hb dL_law_106 (by decide) ?_
    refine gx_cRx (gx_xrunV (As := [.int (nI o), .int (4)]) (rest := []) ⟨hx, hb, hml, hown, hts⟩ (c_X2_told l hl0 g μ w (nI o) 4 hX) (cwV 2 hts gL_law_X2_told rfl rfl rfl (by decide +kernel) ⟨Nat.le_of_ble_eq_true rfl, Nat.le_of_ble_eq_true rfl⟩) (gx_obj hZ hG 0 0 hX.k0 rfl) hZ hG hS rfl hl.1 rfl (Nat.le_of_ble_eq_true rfl) dL_law_107 ⟨rc1 (by omega), rs1 (by omega)⟩) hG hS (fun E ce q9 H1 hPE hG hS hz1 hk1 hce hcv hcl => ?_) (fun hD => ?_)
    · exact absurd (hPE.2.symm.trans (toldE hX hog (by decide) (by decide))) (by decide)
    refine gx_topN (y := bcnt (μ 7 o 8)) (by rw [ix_nI (by omega)]; exact xod4) ?_
    refine lv_aload_n hx hb dL_law_110 rfl (lv_at hl 3 rfl) ?_
    refine gx_get hx hb hown hZ hG 8 0 6 hR.k8 rfl (by decide) k1 (fun _ h => h) (v := .int (nI (gcn g 16))) (congrArg Value.int hR.nm) dL_law_111 ?_
    refine lv_icmp_le (tgt := 119) hx hb dL_law_114 (by decide) (fun c_2 => ?_) (fun c_2 => ?_)
    · skip
      refine lv_aload_n hx hb dL_law_119 rfl (lv_at hl 4 rfl) ?_
      refine lv_iload hx hb dL_law_120 (lv_at hl 8 rfl) ?_
      refine lv_aload_n hx hb dL_law_122 rfl (lv_at hl 2 rfl) ?_
      refine lv_iload hx hb dL_law_123 (lv_at hl 8 rfl) ?_
      refine lv_iconst (v := 4) hx hb dL_law_125 (by decide) ?_
      refine gx_cRx (gx_xrunV (As := [.int (nI o), .int (4)]) (rest := [.int (nI o), .ref (gad g 21 0)]) ⟨hx, hb, hml, hown, hts⟩ (c_X2_told l hl0 g μ w (nI o) 4 hX) (cwV 2 hts gL_law_X2_told rfl rfl rfl (by decide +kernel) ⟨Nat.le_of_ble_eq_true rfl, Nat.le_of_ble_eq_true rfl⟩) (gx_obj hZ hG 0 0 hX.k0 rfl) hZ hG hS rfl hl.1 rfl (Nat.le_of_ble_eq_true rfl) dL_law_126 ⟨rc1 (by omega), rs1 (by omega)⟩) hG hS (fun E ce q9 H1 hPE hG hS hz1 hk1 hce hcv hcl => ?_) (fun hD => ?_)
      · exact absurd (hPE.2.symm.trans (toldE hX hog (by decide) (by decide))) (by decide)
      refine gx_topN (y := bcnt (μ 7 o 8)) (by rw [ix_nI (by omega)]; exact xod4) ?_
      refine gx_astN hx hb hZ hG hS 21 0 o (by rfl) (by rw [hA.1.1]; decide) rfl rfl ⟨by rw [hA.2.1]; omega, by omega⟩ rfl trivial dL_law_129 (fun H locs hG hS => ?_)
      have hR := hR.st (k := 21) (i := 0) (f := o) (v := bcnt (μ 7 o 8)) (by decide)
      have hX := hX.st (k := 21) (i := 0) (f := o) (v := bcnt (μ 7 o 8)) rfl
      refine lv_aload_n hx hb dL_law_130 rfl (lv_at hl 3 rfl) ?_
      refine gx_get hx hb hown hZ hG 8 0 2 hR.k8 rfl (by decide) k2 (fun _ h => h) (v := .ref (gad g 11 0)) (grf_z (hR.rf (f := 2) (by decide))) dL_law_131 ?_
      refine lv_iload hx hb dL_law_134 (lv_at hl 8 rfl) ?_
      refine gx_rt hx hb hZ hG hR 11 o (by rfl) (by decide) (by decide) hog17 (by decide) dL_law_136 ?_
      refine lv_iconst (v := 3) hx hb dL_law_137 (by decide) ?_
      refine gx_aldN hx hb hZ hG 17 o 3 (by rfl) (hR.rb 11 (by decide) (by decide) hog17) rfl rfl ⟨by rw [hR.ln 17 (by decide) (by decide) (hR.rb 11 (by decide) (by decide) hog17)]; decide, by decide⟩ (v := .int (nI d)) (congrArg Value.int (by simp [gst_app, ed])) dL_law_138 ?_
      refine lv_istore (lv' := [(9, .int (nI d)), (8, .int (μ 7 o 5)), (0, .ref b), (1, .ref (gad g 0 0)), (2, .ref (gad g 8 0)), (3, .ref (gad g 21 0)), (4, .ref (gad g 22 0)), (5, .int (nI i)), (6, .int (x)), (7, .int (nI o))]) hx hb dL_law_139 hl (by decide) rfl (fun ls hl => ?_)
      refine W.widen (k := cells + 8) (n := slots + 48) (by omega) (by omega) ?_
      exact kk _ _ ls hG hS (lv_sub hl [2, 3, 4, 5, 6, 7, 8, 9, 1, 0] rfl)
    · skip
      exact absurd hle c_2
set_option maxHeartbeats 4000000 in
set_option maxRecDepth 100000 in
theorem law_B (l : Launch) (hl0 : l.stackTraces = false) (C : LC p s m c0 args) (hZ : ZZ g s) (hG : GW g μ w H) (hS : va_S (gA g) s.heap H locs) (hX : Xok g μ) (hR : Rr g μ) (hA : LA g) {o i d : Nat} {x : Int32} (hog : o < gcn g 7) (hog17 : o < gcn g 17) (ho60 : o < 60) {sv : Int32} (hsv : sv = 1 → ∃ c a1, c < gcn g 6 ∧ c < gcn g 16 ∧ xOrdDet μ o 1 = nI c ∧ μ 19 o c = 0 ∧ ¬ μ 6 c 1 < μ 17 o 2 ∧ μ 16 c 4 = nI a1 ∧ a1 ≤ t ∧ t ≤ a1 + 1 ∧ d ≤ t + 15) (hd : d ≤ 9999) (ht : t ≤ 9999) (et : μ 0 0 3 = nI t) (hroom : cells + 100 ≤ 600104 ∧ slots + 600 ≤ 7301314) (hl : lv_has ls 11 [(0, .ref b), (1, .ref (gad g 0 0)), (2, .ref (gad g 8 0)), (3, .ref (gad g 21 0)), (4, .ref (gad g 22 0)), (5, .int (nI i)), (6, .int (x)), (7, .int (nI o)), (8, .int (sv)), (9, .int (nI d))]) (kk : ∀ ls : Array Slot, lv_has ls 11 [(0, .ref b), (1, .ref (gad g 0 0)), (2, .ref (gad g 8 0)), (3, .ref (gad g 21 0)), (4, .ref (gad g 22 0)), (5, .int (nI i)), (6, .int (x)), (7, .int (nI o)), (8, .int (sv)), (9, .int (nI d))] → W p l e room_1 s m args below meth c0 H locs (cells + 4) (slots + 24) Q (F0 m 220 ls [])) : W p l e room_1 s m args below meth c0 H locs cells slots Q (F0 m 141 ls []) := by
  obtain ⟨hx, hb, hml, hown, hts⟩ := C
  have k1 := hts (.fieldLink RL 106 "TaxiRankLaw$Rank" "refused" "[[Z") (by decide +kernel)
  have k2 := hts (.fieldLink RL 36 "TaxiRankLaw$Rank" "orders" "[[I") (by decide +kernel)
  have k3 := hts (.fieldLink RL 21 "TaxiRankLaw$Rank" "cabs" "[[I") (by decide +kernel)
  have hc10 := hR.c10
  have hn6 := hX.n6
  refine lv_iload hx hb dL_law_141 (lv_at hl 8 rfl) ?_
  refine lv_iconst (v := 1) hx hb dL_law_143 (by decide) ?_
  refine lv_icmp_ne (tgt := 220) hx hb dL_law_144 (by decide) (fun c_1 => ?_) (fun c_1 => ?_)
  · skip
    refine W.widen (k := cells + 4) (n := slots + 24) (by omega) (by omega) ?_
    exact kk ls (lv_sub hl [0, 1, 2, 3, 4, 5, 6, 7, 8, 9] rfl)
  · skip
    obtain ⟨c, a1, hc6, hc16, ec, hr0, hseat, e4, ha1, ha2, hd15⟩ := hsv c_1
    refine lv_aload_n hx hb dL_law_147 rfl (lv_at hl 1 rfl) ?_
    refine lv_iload hx hb dL_law_148 (lv_at hl 7 rfl) ?_
    refine lv_iconst (v := 1) hx hb dL_law_150 (by decide) ?_
    refine gx_cRx (gx_xrunV (As := [.int (nI o), .int (1)]) (rest := []) ⟨hx, hb, hml, hown, hts⟩ (c_X2_told l hl0 g μ w (nI o) 1 hX) (cwV 2 hts gL_law_X2_told rfl rfl rfl (by decide +kernel) ⟨Nat.le_of_ble_eq_true rfl, Nat.le_of_ble_eq_true rfl⟩) (gx_obj hZ hG 0 0 hX.k0 rfl) hZ hG hS rfl hl.1 rfl (Nat.le_of_ble_eq_true rfl) dL_law_151 ⟨rc1 (by omega), rs1 (by omega)⟩) hG hS (fun E ce q9 H1 hPE hG hS hz1 hk1 hce hcv hcl => ?_) (fun hD => ?_)
    · exact absurd (hPE.2.symm.trans (toldE hX hog (by decide) (by decide))) (by decide)
    refine gx_topN (y := nI c) (by rw [ix_nI (by omega)]; exact ec) ?_
    refine lv_istore (lv' := [(10, .int (nI c)), (0, .ref b), (1, .ref (gad g 0 0)), (2, .ref (gad g 8 0)), (3, .ref (gad g 21 0)), (4, .ref (gad g 22 0)), (5, .int (nI i)), (6, .int (x)), (7, .int (nI o)), (8, .int (sv)), (9, .int (nI d))]) hx hb dL_law_154 hl (by decide) rfl (fun ls hl => ?_)
    refine lv_aload_n hx hb dL_law_156 rfl (lv_at hl 3 rfl) ?_
    refine gx_get hx hb hown hZ hG 8 0 4 hR.k8 rfl (by decide) k1 (fun _ h => h) (v := .ref (gad g 13 0)) (grf_z (hR.rf (f := 4) (by decide))) dL_law_157 ?_
    refine lv_iload hx hb dL_law_160 (lv_at hl 8 rfl) ?_
    refine gx_rt hx hb hZ hG hR 13 o (by rfl) (by decide) (by decide) ho60 (by decide) dL_law_162 ?_
    refine lv_iload hx hb dL_law_163 (lv_at hl 0 rfl) ?_
    refine gx_zaldN hx hb hZ hG 19 o c (by rfl) (hR.rb 13 (by decide) (by decide) ho60) rfl rfl ⟨by rw [hR.ln 19 (by decide) (by decide) (hR.rb 13 (by decide) (by decide) ho60)]; show c < 10; omega, by omega⟩ (v := .int (μ 19 o c)) rfl dL_law_165 ?_
    refine lv_if_ne (tgt := 218) hx hb dL_law_166 (by decide) (fun c_2 => ?_) (fun c_2 => ?_)
    · skip
      exact absurd hr0 c_2
    · skip
      refine lv_aload_n hx hb dL_law_169 rfl (lv_at hl 2 rfl) ?_
      refine lv_iload hx hb dL_law_170 (lv_at hl 0 rfl) ?_
      refine lv_iconst (v := 2) hx hb dL_law_172 (by decide) ?_
      refine gx_cRx (gx_xrunV (As := [.int (nI c), .int (2)]) (rest := []) ⟨hx, hb, hml, hown, hts⟩ (c_X2_cab l hl0 g μ w (nI c) 2 hX) (cwV 2 hts gL_law_X2_cab rfl rfl rfl (by decide +kernel) ⟨Nat.le_of_ble_eq_true rfl, Nat.le_of_ble_eq_true rfl⟩) (gx_obj hZ hG 0 0 hX.k0 rfl) hZ hG hS rfl hl.1 rfl (Nat.le_of_ble_eq_true rfl) dL_law_173 ⟨rc1 (by omega), rs1 (by omega)⟩) hG hS (fun E ce q9 H1 hPE hG hS hz1 hk1 hce hcv hcl => ?_) (fun hD => ?_)
      · exact absurd (hPE.2.symm.trans (cabE hX hc6 (by decide) (by decide))) (by decide)
      refine gx_topN (y := μ 6 c 1) (by rw [ix_nI (by omega)]; exact xcd2) ?_
      refine lv_aload_n hx hb dL_law_176 rfl (lv_at hl 3 rfl) ?_
      refine gx_get hx hb hown hZ hG 8 0 2 hR.k8 rfl (by decide) k2 (fun _ h => h) (v := .ref (gad g 11 0)) (grf_z (hR.rf (f := 2) (by decide))) dL_law_177 ?_
      refine lv_iload hx hb dL_law_180 (lv_at hl 8 rfl) ?_
      refine gx_rt hx hb hZ hG hR 11 o (by rfl) (by decide) (by decide) hog17 (by decide) dL_law_182 ?_
      refine lv_iconst (v := 2) hx hb dL_law_183 (by decide) ?_
      refine gx_aldN hx hb hZ hG 17 o 2 (by rfl) (hR.rb 11 (by decide) (by decide) hog17) rfl rfl ⟨by rw [hR.ln 17 (by decide) (by decide) (hR.rb 11 (by decide) (by decide) hog17)]; decide, by decide⟩ (v := .int (μ 17 o 2)) rfl dL_law_184 ?_
      refine lv_icmp_lt (tgt := 218) hx hb dL_law_185 (by decide) (fun c_3 => ?_) (fun c_3 => ?_)
      · skip
        exact absurd c_3 hseat
      · skip
        refine lv_aload_n hx hb dL_law_188 rfl (lv_at hl 2 rfl) ?_
        refine gx_cR (gx_runV (As := []) (rest := []) ⟨hx, hb, hml, hown, hts⟩ (c_X2_now l g μ w hX) (cwV 0 hts gL_law_X2_now rfl rfl rfl (by decide +kernel) ⟨Nat.le_of_ble_eq_true rfl, Nat.le_of_ble_eq_true rfl⟩) (gx_obj hZ hG 0 0 hX.k0 rfl) hZ hG hS rfl hl.1 rfl (Nat.le_of_ble_eq_true rfl) dL_law_189 ⟨rc1 (by omega), rs1 (by omega)⟩) ?_
        refine gx_topN (y := nI t) et ?_
        refine lv_iload hx hb dL_law_192 (lv_at hl 10 rfl) ?_
        refine lv_bipush (v := 15) hx hb dL_law_194 (by decide) ?_
        refine lv_isub hx hb dL_law_196 ?_
        refine lv_icmp_lt (tgt := 218) hx hb dL_law_197 (by decide) (fun c_4 => ?_) (fun c_4 => ?_)
        · skip
          exact absurd c_4 (nlt15 (by omega) (by omega) hd15)
        · skip
          refine lv_aload_n hx hb dL_law_200 rfl (lv_at hl 2 rfl) ?_
          refine gx_cR (gx_runV (As := []) (rest := []) ⟨hx, hb, hml, hown, hts⟩ (c_X2_now l g μ w hX) (cwV 0 hts gL_law_X2_now rfl rfl rfl (by decide +kernel) ⟨Nat.le_of_ble_eq_true rfl, Nat.le_of_ble_eq_true rfl⟩) (gx_obj hZ hG 0 0 hX.k0 rfl) hZ hG hS rfl hl.1 rfl (Nat.le_of_ble_eq_true rfl) dL_law_201 ⟨rc1 (by omega), rs1 (by omega)⟩) ?_
          refine gx_topN (y := nI t) et ?_
          refine lv_aload_n hx hb dL_law_204 rfl (lv_at hl 3 rfl) ?_
          refine gx_get hx hb hown hZ hG 8 0 1 hR.k8 rfl (by decide) k3 (fun _ h => h) (v := .ref (gad g 10 0)) (grf_z (hR.rf (f := 1) (by decide))) dL_law_205 ?_
          refine lv_iload hx hb dL_law_208 (lv_at hl 0 rfl) ?_
          refine gx_rt hx hb hZ hG hR 10 c (by rfl) (by decide) (by decide) hc16 (by decide) dL_law_210 ?_
          refine lv_iconst (v := 4) hx hb dL_law_211 (by decide) ?_
          refine gx_aldN hx hb hZ hG 16 c 4 (by rfl) (hR.rb 10 (by decide) (by decide) hc16) rfl rfl ⟨by rw [hR.ln 16 (by decide) (by decide) (hR.rb 10 (by decide) (by decide) hc16)]; decide, by decide⟩ (v := .int (nI a1)) (congrArg Value.int e4) dL_law_212 ?_
          refine lv_isub hx hb dL_law_213 ?_
          refine lv_iconst (v := 1) hx hb dL_law_214 (by decide) ?_
          refine lv_icmp_le (tgt := 220) hx hb dL_law_215 (by decide) (fun c_5 => ?_) (fun c_5 => ?_)
          · skip
            refine W.widen (k := cells + 4) (n := slots + 24) (by omega) (by omega) ?_
            exact kk ls (lv_sub hl [1, 2, 3, 4, 5, 6, 7, 8, 9, 10] rfl)
          · skip
            exact absurd (by rw [pk_sub ha1]; exact nI_le (b := 1) (by omega) (by decide)) c_5
set_option maxHeartbeats 4000000 in
set_option maxRecDepth 100000 in
theorem law_C0 (l : Launch) (hl0 : l.stackTraces = false) (C : LC p s m c0 args) (hZ : ZZ g s) (hG : GW g μ w H) (hS : va_S (gA g) s.heap H locs) (hX : Xok g μ) (hR : Rr g μ) (hA : LA g) {o i d : Nat} {x : Int32} (hog : o < gcn g 7) (hog17 : o < gcn g 17) (ho60 : o < 60) {sv : Int32} (et : μ 0 0 3 = nI t) (hroom : cells + 100 ≤ 600104 ∧ slots + 600 ≤ 7301314) (hl : lv_has ls 11 [(0, .ref b), (1, .ref (gad g 0 0)), (2, .ref (gad g 8 0)), (3, .ref (gad g 21 0)), (4, .ref (gad g 22 0)), (5, .int (nI i)), (6, .int (x)), (7, .int (nI o)), (8, .int (sv)), (9, .int (nI d))]) (kk1 : ∀ ls : Array Slot, lv_has ls 11 [(0, .ref b), (1, .ref (gad g 0 0)), (2, .ref (gad g 8 0)), (3, .ref (gad g 21 0)), (4, .ref (gad g 22 0)), (5, .int (nI i)), (6, .int (x)), (7, .int (nI o)), (8, .int (sv)), (9, .int (nI d))] → W p l e room_1 s m args below meth c0 H locs (cells + 0) (slots + 0) Q (F0 m 310 ls [])) (kk2 : sv = 0 → ¬ nI t < nI d - 15 → ∀ ls : Array Slot, lv_has ls 11 [(0, .ref b), (1, .ref (gad g 0 0)), (2, .ref (gad g 8 0)), (3, .ref (gad g 21 0)), (4, .ref (gad g 22 0)), (5, .int (nI i)), (6, .int (x)), (7, .int (nI o)), (8, .int (sv)), (9, .int (nI d)), (10, .int (nI 0))] → W p l e room_1 s m args below meth c0 H locs (cells + 0) (slots + 0) Q (F0 m 240 ls [])) : W p l e room_1 s m args below meth c0 H locs cells slots Q (F0 m 220 ls []) := by
  obtain ⟨hx, hb, hml, hown, hts⟩ := C
  have hc10 := hR.c10
  have hn6 := hX.n6
  refine lv_iload hx hb dL_law_220 (lv_at hl 8 rfl) ?_
  refine lv_if_ne (tgt := 310) hx hb dL_law_222 (by decide) (fun c_1 => ?_) (fun c_1 => ?_)
  · skip
    refine W.widen (k := cells + 0) (n := slots + 0) (by omega) (by omega) ?_
    exact kk1 ls (lv_sub hl [0, 1, 2, 3, 4, 5, 6, 7, 8, 9] rfl)
  · skip
    refine lv_aload_n hx hb dL_law_225 rfl (lv_at hl 1 rfl) ?_
    refine gx_cR (gx_runV (As := []) (rest := []) ⟨hx, hb, hml, hown, hts⟩ (c_X2_now l g μ w hX) (cwV 0 hts gL_law_X2_now rfl rfl rfl (by decide +kernel) ⟨Nat.le_of_ble_eq_true rfl, Nat.le_of_ble_eq_true rfl⟩) (gx_obj hZ hG 0 0 hX.k0 rfl) hZ hG hS rfl hl.1 rfl (Nat.le_of_ble_eq_true rfl) dL_law_226 ⟨rc1 (by omega), rs1 (by omega)⟩) ?_
    refine gx_topN (y := nI t) et ?_
    refine lv_iload hx hb dL_law_229 (lv_at hl 9 rfl) ?_
    refine lv_bipush (v := 15) hx hb dL_law_231 (by decide) ?_
    refine lv_isub hx hb dL_law_233 ?_
    refine lv_icmp_lt (tgt := 310) hx hb dL_law_234 (by decide) (fun c_2 => ?_) (fun c_2 => ?_)
    · skip
      refine W.widen (k := cells + 0) (n := slots + 0) (by omega) (by omega) ?_
      exact kk1 ls (lv_sub hl [0, 1, 2, 3, 4, 5, 6, 7, 8, 9] rfl)
    · skip
      refine lv_iconst (v := 0) hx hb dL_law_237 (by decide) ?_
      refine lv_istore (lv' := [(10, .int (0)), (0, .ref b), (1, .ref (gad g 0 0)), (2, .ref (gad g 8 0)), (3, .ref (gad g 21 0)), (4, .ref (gad g 22 0)), (5, .int (nI i)), (6, .int (x)), (7, .int (nI o)), (8, .int (sv)), (9, .int (nI d))]) hx hb dL_law_238 hl (by decide) rfl (fun ls hl => ?_)
      refine W.widen (k := cells + 0) (n := slots + 0) (by omega) (by omega) ?_
      exact kk2 c_1 c_2 ls (lv_sub hl [1, 2, 3, 4, 5, 6, 7, 8, 9, 10, 0] rfl)
set_option maxHeartbeats 4000000 in
set_option maxRecDepth 100000 in
theorem law_C1 (l : Launch) (hl0 : l.stackTraces = false) (C : LC p s m c0 args) (hZ : ZZ g s) (hG : GW g μ w H) (hS : va_S (gA g) s.heap H locs) (hX : Xok g μ) (hR : Rr g μ) (hA : LA g) {o i d : Nat} {x : Int32} (hog : o < gcn g 7) (hog17 : o < gcn g 17) (ho60 : o < 60) {sv : Int32} {c : Nat} (e66 : gcn g 6 = gcn g 16) (hno : c < gcn g 16 → ¬ (μ 6 c 3 = 1 ∧ xCabDet μ c 3 < 0 ∧ ¬ μ 6 c 1 < μ 17 o 2 ∧ μ 19 o c = 0)) (hc20 : c < 1000) (hroom : cells + 100 ≤ 600104 ∧ slots + 600 ≤ 7301314) (hl : lv_has ls 11 [(0, .ref b), (1, .ref (gad g 0 0)), (2, .ref (gad g 8 0)), (3, .ref (gad g 21 0)), (4, .ref (gad g 22 0)), (5, .int (nI i)), (6, .int (x)), (7, .int (nI o)), (8, .int (sv)), (9, .int (nI d)), (10, .int (nI c))]) (kk1 : gcn g 16 ≤ c → ∀ ls : Array Slot, lv_has ls 11 [(0, .ref b), (1, .ref (gad g 0 0)), (2, .ref (gad g 8 0)), (3, .ref (gad g 21 0)), (4, .ref (gad g 22 0)), (5, .int (nI i)), (6, .int (x)), (7, .int (nI o)), (8, .int (sv)), (9, .int (nI d))] → W p l e room_1 s m args below meth c0 H locs (cells + 0) (slots + 0) Q (F0 m 310 ls [])) (kk2 : c < gcn g 16 → ∀ ls : Array Slot, lv_has ls 11 [(0, .ref b), (1, .ref (gad g 0 0)), (2, .ref (gad g 8 0)), (3, .ref (gad g 21 0)), (4, .ref (gad g 22 0)), (5, .int (nI i)), (6, .int (x)), (7, .int (nI o)), (8, .int (sv)), (9, .int (nI d)), (10, .int (nI (c + 1)))] → W p l e room_1 s m args below meth c0 H locs (cells + 6) (slots + 36) Q (F0 m 240 ls [])) : W p l e room_1 s m args below meth c0 H locs cells slots Q (F0 m 240 ls []) := by
  obtain ⟨hx, hb, hml, hown, hts⟩ := C
  have k1 := hts (.fieldLink RL 15 "TaxiRankLaw$Rank" "many" "I") (by decide +kernel)
  have k2 := hts (.fieldLink RL 36 "TaxiRankLaw$Rank" "orders" "[[I") (by decide +kernel)
  have k3 := hts (.fieldLink RL 106 "TaxiRankLaw$Rank" "refused" "[[Z") (by decide +kernel)
  have hc10 := hR.c10
  have hn6 := hX.n6
  refine lv_iload hx hb dL_law_240 (lv_at hl 10 rfl) ?_
  refine lv_aload_n hx hb dL_law_242 rfl (lv_at hl 2 rfl) ?_
  refine gx_get hx hb hown hZ hG 8 0 6 hR.k8 rfl (by decide) k1 (fun _ h => h) (v := .int (nI (gcn g 16))) (congrArg Value.int hR.nm) dL_law_243 ?_
  refine lv_icmp_ge (tgt := 310) hx hb dL_law_246 (by decide) (fun c_1 => ?_) (fun c_1 => ?_)
  · skip
    have hge := le_of_nIle c_1 (by omega) (by omega)
    refine W.widen (k := cells + 0) (n := slots + 0) (by omega) (by omega) ?_
    exact kk1 hge ls (lv_sub hl [0, 1, 2, 3, 4, 5, 6, 7, 8, 9] rfl)
  · skip
    have hc16 : c < gcn g 16 := lt_of_nle c_1 (by omega)
    have hc6 : c < gcn g 6 := by omega
    refine lv_aload_n hx hb dL_law_249 rfl (lv_at hl 1 rfl) ?_
    refine lv_iload hx hb dL_law_250 (lv_at hl 10 rfl) ?_
    refine lv_iconst (v := 0) hx hb dL_law_252 (by decide) ?_
    refine gx_cRx (gx_xrunV (As := [.int (nI c), .int (0)]) (rest := []) ⟨hx, hb, hml, hown, hts⟩ (c_X2_cab l hl0 g μ w (nI c) 0 hX) (cwV 2 hts gL_law_X2_cab rfl rfl rfl (by decide +kernel) ⟨Nat.le_of_ble_eq_true rfl, Nat.le_of_ble_eq_true rfl⟩) (gx_obj hZ hG 0 0 hX.k0 rfl) hZ hG hS rfl hl.1 rfl (Nat.le_of_ble_eq_true rfl) dL_law_253 ⟨rc1 (by omega), rs1 (by omega)⟩) hG hS (fun E ce q9 H1 hPE hG hS hz1 hk1 hce hcv hcl => ?_) (fun hD => ?_)
    · exact absurd (hPE.2.symm.trans (cabE hX hc6 (by decide) (by decide))) (by decide)
    refine gx_topN (y := μ 6 c 3) (by rw [ix_nI (by omega)]; exact xcd0) ?_
    refine lv_iconst (v := 1) hx hb dL_law_256 (by decide) ?_
    refine lv_icmp_ne (tgt := 304) hx hb dL_law_257 (by decide) (fun c_2 => ?_) (fun c_2 => ?_)
    · skip
      refine lv_iinc (v := nI (c + 1)) (lv' := [(10, .int (nI (c + 1))), (0, .ref b), (1, .ref (gad g 0 0)), (2, .ref (gad g 8 0)), (3, .ref (gad g 21 0)), (4, .ref (gad g 22 0)), (5, .int (nI i)), (6, .int (x)), (7, .int (nI o)), (8, .int (sv)), (9, .int (nI d))]) hx hb dL_law_304 hl (k := 10) rfl (nI_1 _) (by decide) rfl (fun ls hl => ?_)
      refine lv_goto (tgt := 240) hx hb dL_law_307 (by decide) ?_
      refine W.widen (k := cells + 6) (n := slots + 36) (by omega) (by omega) ?_
      exact kk2 hc16 ls (lv_sub hl [1, 2, 3, 4, 5, 6, 7, 8, 9, 10, 0] rfl)
    · skip
      refine lv_aload_n hx hb dL_law_260 rfl (lv_at hl 1 rfl) ?_
      refine lv_iload hx hb dL_law_261 (lv_at hl 10 rfl) ?_
      refine lv_iconst (v := 3) hx hb dL_law_263 (by decide) ?_
      refine gx_cRx (gx_xrunV (As := [.int (nI c), .int (3)]) (rest := []) ⟨hx, hb, hml, hown, hts⟩ (c_X2_cab l hl0 g μ w (nI c) 3 hX) (cwV 2 hts gL_law_X2_cab rfl rfl rfl (by decide +kernel) ⟨Nat.le_of_ble_eq_true rfl, Nat.le_of_ble_eq_true rfl⟩) (gx_obj hZ hG 0 0 hX.k0 rfl) hZ hG hS rfl hl.1 rfl (Nat.le_of_ble_eq_true rfl) dL_law_264 ⟨rc1 (by omega), rs1 (by omega)⟩) hG hS (fun E ce q9 H1 hPE hG hS hz1 hk1 hce hcv hcl => ?_) (fun hD => ?_)
      · exact absurd (hPE.2.symm.trans (cabE hX hc6 (by decide) (by decide))) (by decide)
      refine gx_topN (y := xCabDet μ c 3) (by rw [ix_nI (by omega)]) ?_
      refine lv_if_ge (tgt := 304) hx hb dL_law_267 (by decide) (fun c_3 => ?_) (fun c_3 => ?_)
      · skip
        refine lv_iinc (v := nI (c + 1)) (lv' := [(10, .int (nI (c + 1))), (0, .ref b), (1, .ref (gad g 0 0)), (2, .ref (gad g 8 0)), (3, .ref (gad g 21 0)), (4, .ref (gad g 22 0)), (5, .int (nI i)), (6, .int (x)), (7, .int (nI o)), (8, .int (sv)), (9, .int (nI d))]) hx hb dL_law_304 hl (k := 10) rfl (nI_1 _) (by decide) rfl (fun ls hl => ?_)
        refine lv_goto (tgt := 240) hx hb dL_law_307 (by decide) ?_
        refine W.widen (k := cells + 6) (n := slots + 36) (by omega) (by omega) ?_
        exact kk2 hc16 ls (lv_sub hl [1, 2, 3, 4, 5, 6, 7, 8, 9, 10, 0] rfl)
      · skip
        refine lv_aload_n hx hb dL_law_270 rfl (lv_at hl 1 rfl) ?_
        refine lv_iload hx hb dL_law_271 (lv_at hl 10 rfl) ?_
        refine lv_iconst (v := 2) hx hb dL_law_273 (by decide) ?_
        refine gx_cRx (gx_xrunV (As := [.int (nI c), .int (2)]) (rest := []) ⟨hx, hb, hml, hown, hts⟩ (c_X2_cab l hl0 g μ w (nI c) 2 hX) (cwV 2 hts gL_law_X2_cab rfl rfl rfl (by decide +kernel) ⟨Nat.le_of_ble_eq_true rfl, Nat.le_of_ble_eq_true rfl⟩) (gx_obj hZ hG 0 0 hX.k0 rfl) hZ hG hS rfl hl.1 rfl (Nat.le_of_ble_eq_true rfl) dL_law_274 ⟨rc1 (by omega), rs1 (by omega)⟩) hG hS (fun E ce q9 H1 hPE hG hS hz1 hk1 hce hcv hcl => ?_) (fun hD => ?_)
        · exact absurd (hPE.2.symm.trans (cabE hX hc6 (by decide) (by decide))) (by decide)
        refine gx_topN (y := μ 6 c 1) (by rw [ix_nI (by omega)]; exact xcd2) ?_
        refine lv_aload_n hx hb dL_law_277 rfl (lv_at hl 2 rfl) ?_
        refine gx_get hx hb hown hZ hG 8 0 2 hR.k8 rfl (by decide) k2 (fun _ h => h) (v := .ref (gad g 11 0)) (grf_z (hR.rf (f := 2) (by decide))) dL_law_278 ?_
        refine lv_iload hx hb dL_law_281 (lv_at hl 7 rfl) ?_
        refine gx_rt hx hb hZ hG hR 11 o (by rfl) (by decide) (by decide) hog17 (by decide) dL_law_283 ?_
        refine lv_iconst (v := 2) hx hb dL_law_284 (by decide) ?_
        refine gx_aldN hx hb hZ hG 17 o 2 (by rfl) (hR.rb 11 (by decide) (by decide) hog17) rfl rfl ⟨by rw [hR.ln 17 (by decide) (by decide) (hR.rb 11 (by decide) (by decide) hog17)]; decide, by decide⟩ (v := .int (μ 17 o 2)) rfl dL_law_285 ?_
        refine lv_icmp_lt (tgt := 304) hx hb dL_law_286 (by decide) (fun c_4 => ?_) (fun c_4 => ?_)
        · skip
          refine lv_iinc (v := nI (c + 1)) (lv' := [(10, .int (nI (c + 1))), (0, .ref b), (1, .ref (gad g 0 0)), (2, .ref (gad g 8 0)), (3, .ref (gad g 21 0)), (4, .ref (gad g 22 0)), (5, .int (nI i)), (6, .int (x)), (7, .int (nI o)), (8, .int (sv)), (9, .int (nI d))]) hx hb dL_law_304 hl (k := 10) rfl (nI_1 _) (by decide) rfl (fun ls hl => ?_)
          refine lv_goto (tgt := 240) hx hb dL_law_307 (by decide) ?_
          refine W.widen (k := cells + 6) (n := slots + 36) (by omega) (by omega) ?_
          exact kk2 hc16 ls (lv_sub hl [1, 2, 3, 4, 5, 6, 7, 8, 9, 10, 0] rfl)
        · skip
          refine lv_aload_n hx hb dL_law_289 rfl (lv_at hl 2 rfl) ?_
          refine gx_get hx hb hown hZ hG 8 0 4 hR.k8 rfl (by decide) k3 (fun _ h => h) (v := .ref (gad g 13 0)) (grf_z (hR.rf (f := 4) (by decide))) dL_law_290 ?_
          refine lv_iload hx hb dL_law_293 (lv_at hl 7 rfl) ?_
          refine gx_rt hx hb hZ hG hR 13 o (by rfl) (by decide) (by decide) ho60 (by decide) dL_law_295 ?_
          refine lv_iload hx hb dL_law_296 (lv_at hl 10 rfl) ?_
          refine gx_zaldN hx hb hZ hG 19 o c (by rfl) (hR.rb 13 (by decide) (by decide) ho60) rfl rfl ⟨by rw [hR.ln 19 (by decide) (by decide) (hR.rb 13 (by decide) (by decide) ho60)]; show c < 10; omega, by omega⟩ (v := .int (μ 19 o c)) rfl dL_law_298 ?_
          refine lv_if_ne (tgt := 304) hx hb dL_law_299 (by decide) (fun c_5 => ?_) (fun c_5 => ?_)
          · skip
            refine lv_iinc (v := nI (c + 1)) (lv' := [(10, .int (nI (c + 1))), (0, .ref b), (1, .ref (gad g 0 0)), (2, .ref (gad g 8 0)), (3, .ref (gad g 21 0)), (4, .ref (gad g 22 0)), (5, .int (nI i)), (6, .int (x)), (7, .int (nI o)), (8, .int (sv)), (9, .int (nI d))]) hx hb dL_law_304 hl (k := 10) rfl (nI_1 _) (by decide) rfl (fun ls hl => ?_)
            refine lv_goto (tgt := 240) hx hb dL_law_307 (by decide) ?_
            refine W.widen (k := cells + 6) (n := slots + 36) (by omega) (by omega) ?_
            exact kk2 hc16 ls (lv_sub hl [1, 2, 3, 4, 5, 6, 7, 8, 9, 10, 0] rfl)
          · skip
            exact absurd ⟨c_2, (by rcases Int32.lt_or_le (xCabDet μ c 3) 0 with y | y; exact y; exact absurd y c_3), c_4, c_5⟩ (hno hc16)
set_option maxHeartbeats 4000000 in
set_option maxRecDepth 100000 in
theorem law_D (l : Launch) (hl0 : l.stackTraces = false) (C : LC p s m c0 args) (hZ : ZZ g s) (hG : GW g μ w H) (hS : va_S (gA g) s.heap H locs) (hX : Xok g μ) (hR : Rr g μ) (hA : LA g) {o i d : Nat} {x : Int32} (hog : o < gcn g 7) (hog17 : o < gcn g 17) (ho60 : o < 60) {sv : Int32} (h2 : μ 7 o 9 = -1 ∨ ∃ b1, μ 7 o 9 = nI b1 ∧ d ≤ b1 ∧ b1 ≤ t) (ht : t ≤ 9999) (et : μ 0 0 3 = nI t) (hroom : cells + 100 ≤ 600104 ∧ slots + 600 ≤ 7301314) (hl : lv_has ls 11 [(0, .ref b), (1, .ref (gad g 0 0)), (2, .ref (gad g 8 0)), (3, .ref (gad g 21 0)), (4, .ref (gad g 22 0)), (5, .int (nI i)), (6, .int (x)), (7, .int (nI o)), (8, .int (sv)), (9, .int (nI d))]) (kk : ∀ ls : Array Slot, lv_has ls 11 [(0, .ref b), (1, .ref (gad g 0 0)), (2, .ref (gad g 8 0)), (3, .ref (gad g 21 0)), (4, .ref (gad g 22 0)), (5, .int (nI i)), (6, .int (x)), (7, .int (nI o)), (8, .int (sv)), (9, .int (nI d))] → W p l e room_1 s m args below meth c0 H locs (cells + 6) (slots + 36) Q (F0 m 348 ls [])) : W p l e room_1 s m args below meth c0 H locs cells slots Q (F0 m 310 ls []) := by
  obtain ⟨hx, hb, hml, hown, hts⟩ := C
  have hc10 := hR.c10
  have hn6 := hX.n6
  refine lv_aload_n hx hb dL_law_310 rfl (lv_at hl 1 rfl) ?_
  refine lv_iload hx hb dL_law_311 (lv_at hl 7 rfl) ?_
  refine lv_iconst (v := 2) hx hb dL_law_313 (by decide) ?_
  refine gx_cRx (gx_xrunV (As := [.int (nI o), .int (2)]) (rest := []) ⟨hx, hb, hml, hown, hts⟩ (c_X2_told l hl0 g μ w (nI o) 2 hX) (cwV 2 hts gL_law_X2_told rfl rfl rfl (by decide +kernel) ⟨Nat.le_of_ble_eq_true rfl, Nat.le_of_ble_eq_true rfl⟩) (gx_obj hZ hG 0 0 hX.k0 rfl) hZ hG hS rfl hl.1 rfl (Nat.le_of_ble_eq_true rfl) dL_law_314 ⟨rc1 (by omega), rs1 (by omega)⟩) hG hS (fun E ce q9 H1 hPE hG hS hz1 hk1 hce hcv hcl => ?_) (fun hD => ?_)
  · exact absurd (hPE.2.symm.trans (toldE hX hog (by decide) (by decide))) (by decide)
  refine gx_topN (y := μ 7 o 9) (by rw [ix_nI (by omega)]; exact xod2) ?_
  refine lv_if_lt (tgt := 348) hx hb dL_law_317 (by decide) (fun c_1 => ?_) (fun c_1 => ?_)
  · skip
    refine W.widen (k := cells + 6) (n := slots + 36) (by omega) (by omega) ?_
    exact kk ls (lv_sub hl [0, 1, 2, 3, 4, 5, 6, 7, 8, 9] rfl)
  · skip
    obtain ⟨b1, eb, hb1, hb2⟩ := h2.resolve_left (fun z => c_1 (by rw [z]; decide))
    refine lv_aload_n hx hb dL_law_320 rfl (lv_at hl 1 rfl) ?_
    refine lv_iload hx hb dL_law_321 (lv_at hl 7 rfl) ?_
    refine lv_iconst (v := 2) hx hb dL_law_323 (by decide) ?_
    refine gx_cRx (gx_xrunV (As := [.int (nI o), .int (2)]) (rest := []) ⟨hx, hb, hml, hown, hts⟩ (c_X2_told l hl0 g μ w (nI o) 2 hX) (cwV 2 hts gL_law_X2_told rfl rfl rfl (by decide +kernel) ⟨Nat.le_of_ble_eq_true rfl, Nat.le_of_ble_eq_true rfl⟩) (gx_obj hZ hG 0 0 hX.k0 rfl) hZ hG hS rfl hl.1 rfl (Nat.le_of_ble_eq_true rfl) dL_law_324 ⟨rc1 (by omega), rs1 (by omega)⟩) hG hS (fun E ce q9 H1 hPE hG hS hz1 hk1 hce hcv hcl => ?_) (fun hD => ?_)
    · exact absurd (hPE.2.symm.trans (toldE hX hog (by decide) (by decide))) (by decide)
    refine gx_topN (y := μ 7 o 9) (by rw [ix_nI (by omega)]; exact xod2) ?_
    refine lv_iload hx hb dL_law_327 (lv_at hl 9 rfl) ?_
    refine lv_icmp_lt (tgt := 346) hx hb dL_law_329 (by decide) (fun c_2 => ?_) (fun c_2 => ?_)
    · skip
      exact absurd c_2 (by rw [eb]; exact nI_nlt hb1 (by omega))
    · skip
      refine lv_aload_n hx hb dL_law_332 rfl (lv_at hl 1 rfl) ?_
      refine lv_iload hx hb dL_law_333 (lv_at hl 7 rfl) ?_
      refine lv_iconst (v := 2) hx hb dL_law_335 (by decide) ?_
      refine gx_cRx (gx_xrunV (As := [.int (nI o), .int (2)]) (rest := []) ⟨hx, hb, hml, hown, hts⟩ (c_X2_told l hl0 g μ w (nI o) 2 hX) (cwV 2 hts gL_law_X2_told rfl rfl rfl (by decide +kernel) ⟨Nat.le_of_ble_eq_true rfl, Nat.le_of_ble_eq_true rfl⟩) (gx_obj hZ hG 0 0 hX.k0 rfl) hZ hG hS rfl hl.1 rfl (Nat.le_of_ble_eq_true rfl) dL_law_336 ⟨rc1 (by omega), rs1 (by omega)⟩) hG hS (fun E ce q9 H1 hPE hG hS hz1 hk1 hce hcv hcl => ?_) (fun hD => ?_)
      · exact absurd (hPE.2.symm.trans (toldE hX hog (by decide) (by decide))) (by decide)
      refine gx_topN (y := μ 7 o 9) (by rw [ix_nI (by omega)]; exact xod2) ?_
      refine lv_aload_n hx hb dL_law_339 rfl (lv_at hl 1 rfl) ?_
      refine gx_cR (gx_runV (As := []) (rest := [.int (μ 7 o 9)]) ⟨hx, hb, hml, hown, hts⟩ (c_X2_now l g μ w hX) (cwV 0 hts gL_law_X2_now rfl rfl rfl (by decide +kernel) ⟨Nat.le_of_ble_eq_true rfl, Nat.le_of_ble_eq_true rfl⟩) (gx_obj hZ hG 0 0 hX.k0 rfl) hZ hG hS rfl hl.1 rfl (Nat.le_of_ble_eq_true rfl) dL_law_340 ⟨rc1 (by omega), rs1 (by omega)⟩) ?_
      refine gx_topN (y := nI t) et ?_
      refine lv_icmp_le (tgt := 348) hx hb dL_law_343 (by decide) (fun c_3 => ?_) (fun c_3 => ?_)
      · skip
        refine W.widen (k := cells + 6) (n := slots + 36) (by omega) (by omega) ?_
        exact kk ls (lv_sub hl [0, 1, 2, 3, 4, 5, 6, 7, 8, 9] rfl)
      · skip
        exact absurd (by rw [eb]; exact nI_le hb2 (by omega)) c_3
set_option maxHeartbeats 4000000 in
set_option maxRecDepth 100000 in
theorem law_E (l : Launch) (hl0 : l.stackTraces = false) (C : LC p s m c0 args) (hZ : ZZ g s) (hG : GW g μ w H) (hS : va_S (gA g) s.heap H locs) (hX : Xok g μ) (hR : Rr g μ) (hA : LA g) {o i d : Nat} {x : Int32} (hog : o < gcn g 7) (hog17 : o < gcn g 17) (ho60 : o < 60) {sv : Int32} (h4 : sv = 4 → μ 7 o 9 < μ 7 o 10) (hroom : cells + 100 ≤ 600104 ∧ slots + 600 ≤ 7301314) (hl : lv_has ls 11 [(0, .ref b), (1, .ref (gad g 0 0)), (2, .ref (gad g 8 0)), (3, .ref (gad g 21 0)), (4, .ref (gad g 22 0)), (5, .int (nI i)), (6, .int (x)), (7, .int (nI o)), (8, .int (sv)), (9, .int (nI d))]) (kk : ∀ ls : Array Slot, lv_has ls 11 [(0, .ref b), (1, .ref (gad g 0 0)), (2, .ref (gad g 8 0)), (3, .ref (gad g 21 0)), (4, .ref (gad g 22 0)), (5, .int (nI i)), (6, .int (x)), (7, .int (nI o)), (8, .int (sv)), (9, .int (nI d))] → W p l e room_1 s m args below meth c0 H locs (cells + 4) (slots + 24) Q (F0 m 373 ls [])) : W p l e room_1 s m args below meth c0 H locs cells slots Q (F0 m 348 ls []) := by
  obtain ⟨hx, hb, hml, hown, hts⟩ := C
  have hc10 := hR.c10
  have hn6 := hX.n6
  refine lv_iload hx hb dL_law_348 (lv_at hl 8 rfl) ?_
  refine lv_iconst (v := 4) hx hb dL_law_350 (by decide) ?_
  refine lv_icmp_ne (tgt := 373) hx hb dL_law_351 (by decide) (fun c_1 => ?_) (fun c_1 => ?_)
  · skip
    refine W.widen (k := cells + 4) (n := slots + 24) (by omega) (by omega) ?_
    exact kk ls (lv_sub hl [0, 1, 2, 3, 4, 5, 6, 7, 8, 9] rfl)
  · skip
    refine lv_aload_n hx hb dL_law_354 rfl (lv_at hl 1 rfl) ?_
    refine lv_iload hx hb dL_law_355 (lv_at hl 7 rfl) ?_
    refine lv_iconst (v := 3) hx hb dL_law_357 (by decide) ?_
    refine gx_cRx (gx_xrunV (As := [.int (nI o), .int (3)]) (rest := []) ⟨hx, hb, hml, hown, hts⟩ (c_X2_told l hl0 g μ w (nI o) 3 hX) (cwV 2 hts gL_law_X2_told rfl rfl rfl (by decide +kernel) ⟨Nat.le_of_ble_eq_true rfl, Nat.le_of_ble_eq_true rfl⟩) (gx_obj hZ hG 0 0 hX.k0 rfl) hZ hG hS rfl hl.1 rfl (Nat.le_of_ble_eq_true rfl) dL_law_358 ⟨rc1 (by omega), rs1 (by omega)⟩) hG hS (fun E ce q9 H1 hPE hG hS hz1 hk1 hce hcv hcl => ?_) (fun hD => ?_)
    · exact absurd (hPE.2.symm.trans (toldE hX hog (by decide) (by decide))) (by decide)
    refine gx_topN (y := μ 7 o 10) (by rw [ix_nI (by omega)]; exact xod3) ?_
    refine lv_aload_n hx hb dL_law_361 rfl (lv_at hl 1 rfl) ?_
    refine lv_iload hx hb dL_law_362 (lv_at hl 7 rfl) ?_
    refine lv_iconst (v := 2) hx hb dL_law_364 (by decide) ?_
    refine gx_cRx (gx_xrunV (As := [.int (nI o), .int (2)]) (rest := [.int (μ 7 o 10)]) ⟨hx, hb, hml, hown, hts⟩ (c_X2_told l hl0 g μ w (nI o) 2 hX) (cwV 2 hts gL_law_X2_told rfl rfl rfl (by decide +kernel) ⟨Nat.le_of_ble_eq_true rfl, Nat.le_of_ble_eq_true rfl⟩) (gx_obj hZ hG 0 0 hX.k0 rfl) hZ hG hS rfl hl.1 rfl (Nat.le_of_ble_eq_true rfl) dL_law_365 ⟨rc1 (by omega), rs1 (by omega)⟩) hG hS (fun E ce q9 H1 hPE hG hS hz1 hk1 hce hcv hcl => ?_) (fun hD => ?_)
    · exact absurd (hPE.2.symm.trans (toldE hX hog (by decide) (by decide))) (by decide)
    refine gx_topN (y := μ 7 o 9) (by rw [ix_nI (by omega)]; exact xod2) ?_
    refine lv_icmp_gt (tgt := 373) hx hb dL_law_368 (by decide) (fun c_2 => ?_) (fun c_2 => ?_)
    · skip
      refine W.widen (k := cells + 4) (n := slots + 24) (by omega) (by omega) ?_
      exact kk ls (lv_sub hl [0, 1, 2, 3, 4, 5, 6, 7, 8, 9] rfl)
    · skip
      exact absurd (h4 c_1) c_2
set_option maxHeartbeats 4000000 in
set_option maxRecDepth 100000 in
theorem law_F (l : Launch) (hl0 : l.stackTraces = false) (C : LC p s m c0 args) (hZ : ZZ g s) (hG : GW g μ w H) (hS : va_S (gA g) s.heap H locs) (hX : Xok g μ) (hR : Rr g μ) (hA : LA g) {o i d : Nat} {x : Int32} (hog : o < gcn g 7) (hog17 : o < gcn g 17) (ho60 : o < 60) {sv : Int32} (h3 : ¬ (if μ 22 0 o < sv then sv else μ 22 0 o) ≤ 2 → 3 ≤ sv) (hroom : cells + 100 ≤ 600104 ∧ slots + 600 ≤ 7301314) (hl : lv_has ls 11 [(0, .ref b), (1, .ref (gad g 0 0)), (2, .ref (gad g 8 0)), (3, .ref (gad g 21 0)), (4, .ref (gad g 22 0)), (5, .int (nI i)), (6, .int (x)), (7, .int (nI o)), (8, .int (sv)), (9, .int (nI d))]) (kk : ∀ (H : Heap) (locs : List Loc) (ls : Array Slot), GW g (gst μ 22 0 o (if μ 22 0 o < sv then sv else μ 22 0 o)) w H → va_S (gA g) s.heap H locs → lv_has ls 11 [(0, .ref b), (1, .ref (gad g 0 0)), (2, .ref (gad g 8 0)), (3, .ref (gad g 21 0)), (4, .ref (gad g 22 0)), (5, .int (nI i)), (6, .int (x)), (7, .int (nI (o + 1)))] → W p l e room_1 s m args below meth c0 H locs (cells + 0) (slots + 0) Q (F0 m 71 ls [])) : W p l e room_1 s m args below meth c0 H locs cells slots Q (F0 m 373 ls []) := by
  obtain ⟨hx, hb, hml, hown, hts⟩ := C
  have k1 := hts (.methodLink RL 115 Lib.Math.max.name) (by decide +kernel)
  have k2 := hts (.static Lib.Math.max.name) (by decide +kernel)
  have k3 := hts (.initialized "java/lang/Math") (by decide +kernel)
  have k4 := hts (.code Lib.Math.max.name Lib.Math.max.code 2 (some .int)) (by decide +kernel)
  have hc10 := hR.c10
  have hn6 := hX.n6
  refine lv_aload hx hb dL_law_373 (lv_at hl 4 rfl) ?_
  refine lv_iload hx hb dL_law_375 (lv_at hl 7 rfl) ?_
  refine lv_aload hx hb dL_law_377 (lv_at hl 4 rfl) ?_
  refine lv_iload hx hb dL_law_379 (lv_at hl 7 rfl) ?_
  refine gx_aldN hx hb hZ hG 22 0 o (by rfl) (by rw [hA.1.2]; decide) rfl rfl ⟨by rw [hA.2.2]; omega, by omega⟩ (v := .int (μ 22 0 o)) rfl dL_law_381 ?_
  refine lv_iload hx hb dL_law_382 (lv_at hl 8 rfl) ?_
  refine va_mmax hx hb (hml.trans hl.1.symm) hown k1 k2 k3 k4 (by first | exact Nat.le_of_ble_eq_true rfl | exact rs1 (by omega) | exact rc1 (by omega)) (by first | exact Nat.le_of_ble_eq_true rfl | exact rs1 (by omega) | exact rc1 (by omega)) (by first | exact Nat.le_of_ble_eq_true rfl | exact rs1 (by omega) | exact rc1 (by omega)) (by first | exact Nat.le_of_ble_eq_true rfl | exact rs1 (by omega) | exact rc1 (by omega)) dL_law_384 ?_
  refine gx_astN hx hb hZ hG hS 22 0 o (by rfl) (by rw [hA.1.2]; decide) rfl rfl ⟨by rw [hA.2.2]; omega, by omega⟩ rfl trivial dL_law_387 (fun H locs hG hS => ?_)
  have hR := hR.st (k := 22) (i := 0) (f := o) (v := if (μ 22 0 o) < sv then sv else (μ 22 0 o)) (by decide)
  have hX := hX.st (k := 22) (i := 0) (f := o) (v := if (μ 22 0 o) < sv then sv else (μ 22 0 o)) rfl
  refine lv_aload hx hb dL_law_388 (lv_at hl 4 rfl) ?_
  refine lv_iload hx hb dL_law_390 (lv_at hl 7 rfl) ?_
  refine gx_aldN hx hb hZ hG 22 0 o (by rfl) (by rw [hA.1.2]; decide) rfl rfl ⟨by rw [hA.2.2]; omega, by omega⟩ (v := .int (if (μ 22 0 o) < sv then sv else (μ 22 0 o))) (congrArg Value.int (by simp [gst_app])) dL_law_392 ?_
  refine lv_iload hx hb dL_law_393 (lv_at hl 8 rfl) ?_
  refine lv_icmp_le (tgt := 415) hx hb dL_law_395 (by decide) (fun c_1 => ?_) (fun c_1 => ?_)
  · skip
    refine lv_iinc (v := nI (o + 1)) (lv' := [(7, .int (nI (o + 1))), (0, .ref b), (1, .ref (gad g 0 0)), (2, .ref (gad g 8 0)), (3, .ref (gad g 21 0)), (4, .ref (gad g 22 0)), (5, .int (nI i)), (6, .int (x)), (8, .int (sv)), (9, .int (nI d))]) hx hb dL_law_415 hl (k := 7) rfl (nI_1 _) (by decide) rfl (fun ls hl => ?_)
    refine lv_goto (tgt := 71) hx hb dL_law_418 (by decide) ?_
    refine W.widen (k := cells + 0) (n := slots + 0) (by omega) (by omega) ?_
    exact kk _ _ ls hG hS (lv_sub hl [1, 2, 3, 4, 5, 6, 7, 0] rfl)
  · skip
    refine lv_aload hx hb dL_law_398 (lv_at hl 4 rfl) ?_
    refine lv_iload hx hb dL_law_400 (lv_at hl 7 rfl) ?_
    refine gx_aldN hx hb hZ hG 22 0 o (by rfl) (by rw [hA.1.2]; decide) rfl rfl ⟨by rw [hA.2.2]; omega, by omega⟩ (v := .int (if (μ 22 0 o) < sv then sv else (μ 22 0 o))) (congrArg Value.int (by simp [gst_app])) dL_law_402 ?_
    refine lv_iconst (v := 2) hx hb dL_law_403 (by decide) ?_
    refine lv_icmp_le (tgt := 415) hx hb dL_law_404 (by decide) (fun c_2 => ?_) (fun c_2 => ?_)
    · skip
      refine lv_iinc (v := nI (o + 1)) (lv' := [(7, .int (nI (o + 1))), (0, .ref b), (1, .ref (gad g 0 0)), (2, .ref (gad g 8 0)), (3, .ref (gad g 21 0)), (4, .ref (gad g 22 0)), (5, .int (nI i)), (6, .int (x)), (8, .int (sv)), (9, .int (nI d))]) hx hb dL_law_415 hl (k := 7) rfl (nI_1 _) (by decide) rfl (fun ls hl => ?_)
      refine lv_goto (tgt := 71) hx hb dL_law_418 (by decide) ?_
      refine W.widen (k := cells + 0) (n := slots + 0) (by omega) (by omega) ?_
      exact kk _ _ ls hG hS (lv_sub hl [1, 2, 3, 4, 5, 6, 7, 0] rfl)
    · skip
      refine lv_iload hx hb dL_law_407 (lv_at hl 8 rfl) ?_
      refine lv_iconst (v := 3) hx hb dL_law_409 (by decide) ?_
      refine lv_icmp_ge (tgt := 415) hx hb dL_law_410 (by decide) (fun c_3 => ?_) (fun c_3 => ?_)
      · skip
        refine lv_iinc (v := nI (o + 1)) (lv' := [(7, .int (nI (o + 1))), (0, .ref b), (1, .ref (gad g 0 0)), (2, .ref (gad g 8 0)), (3, .ref (gad g 21 0)), (4, .ref (gad g 22 0)), (5, .int (nI i)), (6, .int (x)), (8, .int (sv)), (9, .int (nI d))]) hx hb dL_law_415 hl (k := 7) rfl (nI_1 _) (by decide) rfl (fun ls hl => ?_)
        refine lv_goto (tgt := 71) hx hb dL_law_418 (by decide) ?_
        refine W.widen (k := cells + 0) (n := slots + 0) (by omega) (by omega) ?_
        exact kk _ _ ls hG hS (lv_sub hl [1, 2, 3, 4, 5, 6, 7, 0] rfl)
      · skip
        exact absurd (h3 c_2) c_3
end LAWS
