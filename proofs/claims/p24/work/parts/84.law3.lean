section LAWS
variable {p : Program} {e : Env} {s : State} {m : MethodId} {args : Array Value} {below : List Frame} {meth : Method} {c0 : Code} {H : Heap} {locs : List Loc} {Q : State → Prop} {ls : Array Slot} {g : gG} {σ μ : Mem} {w : Int64} {hs : Nat → Nat × Bool} {t B b : Nat} {cells slots : Nat}
set_option maxHeartbeats 4000000 in
set_option maxRecDepth 100000 in
theorem law_in (l : Launch) (hl0 : l.stackTraces = false) (C : LC p s m c0 args) (hZ : ZZ g s) (hG : GW g μ w H) (hS : va_S (gA g) s.heap H locs) (hX : Xok g μ) (hR : Rr g μ) {o i : Nat} {x : Int32} (ho : o < 1000) (hroom : cells + 100 ≤ 600104 ∧ slots + 600 ≤ 7301314) (hl : lv_has ls 11 [(0, .ref b), (1, .ref (gad g 0 0)), (2, .ref (gad g 8 0)), (3, .ref (gad g 21 0)), (4, .ref (gad g 22 0)), (5, .int (nI i)), (6, .int (x)), (7, .int (nI o))]) (kk1 : gcn g 17 ≤ o → ∀ ls : Array Slot, lv_has ls 11 [(0, .ref b), (1, .ref (gad g 0 0)), (2, .ref (gad g 8 0)), (3, .ref (gad g 21 0)), (4, .ref (gad g 22 0)), (5, .int (nI (i + 1)))] → W p l e room_1 s m args below meth c0 H locs (cells + 0) (slots + 0) Q (F0 m 30 ls [])) (kk2 : o < gcn g 17 → ∀ ls : Array Slot, lv_has ls 11 [(0, .ref b), (1, .ref (gad g 0 0)), (2, .ref (gad g 8 0)), (3, .ref (gad g 21 0)), (4, .ref (gad g 22 0)), (5, .int (nI i)), (6, .int (x)), (7, .int (nI o))] → W p l e room_1 s m args below meth c0 H locs (cells + 0) (slots + 0) Q (F0 m 80 ls [])) : W p l e room_1 s m args below meth c0 H locs cells slots Q (F0 m 71 ls []) := by
  obtain ⟨hx, hb, hml, hown, hts⟩ := C
  have k1 := hts (.fieldLink RL 30 "TaxiRankLaw$Rank" "all" "I") (by decide +kernel)
  have ho60 := hR.o60
  refine lv_iload hx hb dL_law_71 (lv_at hl 7 rfl) ?_
  refine lv_aload_n hx hb dL_law_73 rfl (lv_at hl 2 rfl) ?_
  refine gx_get hx hb hown hZ hG 8 0 7 hR.k8 rfl (by decide) k1 (fun _ h => h) (v := .int (nI (gcn g 17))) (congrArg Value.int hR.na) dL_law_74 ?_
  refine lv_icmp_ge (tgt := 421) hx hb dL_law_77 (by decide) (fun c_1 => ?_) (fun c_1 => ?_)
  · skip
    have hge := le_of_nIle c_1 (by omega) (by omega)
    refine lv_iinc (v := nI (i + 1)) (lv' := [(5, .int (nI (i + 1))), (0, .ref b), (1, .ref (gad g 0 0)), (2, .ref (gad g 8 0)), (3, .ref (gad g 21 0)), (4, .ref (gad g 22 0)), (6, .int (x)), (7, .int (nI o))]) hx hb dL_law_421 hl (k := 5) rfl (nI_1 _) (by decide) rfl (fun ls hl => ?_)
    refine lv_goto (tgt := 30) hx hb dL_law_424 (by decide) ?_
    refine W.widen (k := cells + 0) (n := slots + 0) (by omega) (by omega) ?_
    exact kk1 hge ls (lv_sub hl [1, 2, 3, 4, 5, 0] rfl)
  · skip
    have hlt : o < gcn g 17 := lt_of_nle c_1 (by omega)
    refine W.widen (k := cells + 0) (n := slots + 0) (by omega) (by omega) ?_
    exact kk2 hlt ls (lv_sub hl [0, 1, 2, 3, 4, 5, 6, 7] rfl)
set_option maxHeartbeats 4000000 in
set_option maxRecDepth 100000 in
theorem law_30 (l : Launch) (hl0 : l.stackTraces = false) (C : LC p s m c0 args) (hZ : ZZ g s) (hG : GW g μ w H) (hS : va_S (gA g) s.heap H locs) (hX : Xok g μ) (hR : Rr g μ) {i L : Nat} {xs : Nat → Int32} (hi : i < 1000) (hL : L ≤ 260) (hXs : va_X b L xs s s.heap) (hbl : b < s.heap.size) (hbA : ¬ gA g b) (hroom : cells + 100 ≤ 600104 ∧ slots + 600 ≤ 7301314) (hl : lv_has ls 11 [(0, .ref b), (1, .ref (gad g 0 0)), (2, .ref (gad g 8 0)), (3, .ref (gad g 21 0)), (4, .ref (gad g 22 0)), (5, .int (nI i))]) (kk1 : 50 ≤ i → ∀ ls : Array Slot, lv_has ls 11 [(0, .ref b), (1, .ref (gad g 0 0)), (2, .ref (gad g 8 0)), (3, .ref (gad g 21 0)), (4, .ref (gad g 22 0)), (5, .int (nI i))] → W p l e room_1 s m args below meth c0 H locs (cells + 0) (slots + 0) Q (F0 m 427 ls [])) (kk2 : i < 50 → ∀ (x : Int32) (ls : Array Slot), lv_has ls 11 [(0, .ref b), (1, .ref (gad g 0 0)), (2, .ref (gad g 8 0)), (3, .ref (gad g 21 0)), (4, .ref (gad g 22 0)), (5, .int (nI i)), (6, .int (x))] → W p l e room_1 s m args below meth c0 H locs (cells + 0) (slots + 0) Q (F0 m 60 ls [.int x, .ref (gad g 8 0), .ref (gad g 0 0)])) : W p l e room_1 s m args below meth c0 H locs cells slots Q (F0 m 30 ls []) := by
  obtain ⟨hx, hb, hml, hown, hts⟩ := C
  refine lv_iload hx hb dL_law_30 (lv_at hl 5 rfl) ?_
  refine lv_bipush (v := 50) hx hb dL_law_32 (by decide) ?_
  refine lv_icmp_ge (tgt := 427) hx hb dL_law_34 (by decide) (fun c_1 => ?_) (fun c_1 => ?_)
  · skip
    have hge : 50 ≤ i := (nI_leI (a := 50) (by decide) (by omega)).mp c_1
    refine W.widen (k := cells + 0) (n := slots + 0) (by omega) (by omega) ?_
    exact kk1 hge ls (lv_sub hl [0, 1, 2, 3, 4, 5] rfl)
  · skip
    have hlt : i < 50 := by
      rcases Nat.lt_or_ge i 50 with y | y
      · exact y
      · exact absurd (nI_le (a := 50) y (by omega)) c_1
    refine lv_aload_n hx hb dL_law_37 rfl (lv_at hl 0 rfl) ?_
    refine lv_iload hx hb dL_law_38 (lv_at hl 5 rfl) ?_
    refine lv_bipush (v := 16) hx hb dL_law_40 (by decide) ?_
    refine lv_irem hx hb dL_law_42 (by decide) ?_
    refine gx_topN (y := nI (i % 16)) (pk_rem (d := 16) (by omega) (by decide) (by decide)) ?_
    refine gx_cC (a := ([.ref b, .int (nI (i % 16))] : List Value).toArray) (va_runS (As := [.ref b, .int (nI (i % 16))]) (rest := []) ⟨hx, hb, hml, hown, hts⟩ (c_L_cell l b L (i % 16) xs hL (Nat.mod_lt _ (by decide))) (va_cwS 2 hts gL_law_L_cell rfl rfl rfl (by decide +kernel) ⟨Nat.le_of_ble_eq_true rfl, Nat.le_of_ble_eq_true rfl⟩) ⟨gPs.blind, fun U hU hW => ⟨rfl, by rw [hU]; exact (hXs.moved hW.alike).kept (hS.2.1 b hbl hbA), by rw [hU]; exact Nat.lt_of_lt_of_le hbl hS.1⟩⟩ rfl rfl hl.1 rfl (lv_room (Nat.le_of_ble_eq_true rfl)) dL_law_43 ⟨rc1 (by omega), rs1 (by omega)⟩) (fun v => ?_)
    refine lv_iload hx hb dL_law_46 (lv_at hl 5 rfl) ?_
    refine lv_bipush (v := 16) hx hb dL_law_48 (by decide) ?_
    refine lv_idiv hx hb dL_law_50 (by decide) ?_
    refine lv_iconst (v := 5) hx hb dL_law_51 (by decide) ?_
    refine lv_imul hx hb dL_law_52 ?_
    refine lv_ishr hx hb dL_law_53 ?_
    refine lv_istore (lv' := [(6, .int (v >>> ((((nI i) / 16) * 5) &&& 31))), (0, .ref b), (1, .ref (gad g 0 0)), (2, .ref (gad g 8 0)), (3, .ref (gad g 21 0)), (4, .ref (gad g 22 0)), (5, .int (nI i))]) hx hb dL_law_54 hl (by decide) rfl (fun ls hl => ?_)
    refine lv_aload_n hx hb dL_law_56 rfl (lv_at hl 2 rfl) ?_
    refine lv_aload_n hx hb dL_law_57 rfl (lv_at hl 3 rfl) ?_
    refine lv_iload hx hb dL_law_58 (lv_at hl 0 rfl) ?_
    refine W.widen (k := cells + 0) (n := slots + 0) (by omega) (by omega) ?_
    exact kk2 hlt _ ls (lv_sub hl [1, 2, 3, 4, 5, 6, 0] rfl)
set_option maxHeartbeats 4000000 in
set_option maxRecDepth 100000 in
theorem law_63 (l : Launch) (hl0 : l.stackTraces = false) (C : LC p s m c0 args) (hZ : ZZ g s) (hG : GW g μ w H) (hS : va_S (gA g) s.heap H locs) {i : Nat} {x : Int32} (hroom : cells + 100 ≤ 600104 ∧ slots + 600 ≤ 7301314) (hl : lv_has ls 11 [(0, .ref b), (1, .ref (gad g 0 0)), (2, .ref (gad g 8 0)), (3, .ref (gad g 21 0)), (4, .ref (gad g 22 0)), (5, .int (nI i)), (6, .int (x))]) (kk : ∀ ls : Array Slot, lv_has ls 11 [(0, .ref b), (1, .ref (gad g 0 0)), (2, .ref (gad g 8 0)), (3, .ref (gad g 21 0)), (4, .ref (gad g 22 0)), (5, .int (nI i)), (6, .int (x)), (7, .int (nI 0))] → W p l e room_1 s m args below meth c0 H locs (cells + 0) (slots + 0) Q (F0 m 71 ls [])) : W p l e room_1 s m args below meth c0 H locs cells slots Q (F0 m 63 ls [.int (1)]) := by
  obtain ⟨hx, hb, hml, hown, hts⟩ := C
  refine lv_if_ne (tgt := 68) hx hb dL_law_63 (by decide) (fun c_1 => ?_) (fun c_1 => ?_)
  · skip
    refine lv_iconst (v := 0) hx hb dL_law_68 (by decide) ?_
    refine lv_istore (lv' := [(7, .int (0)), (0, .ref b), (1, .ref (gad g 0 0)), (2, .ref (gad g 8 0)), (3, .ref (gad g 21 0)), (4, .ref (gad g 22 0)), (5, .int (nI i)), (6, .int (x))]) hx hb dL_law_69 hl (by decide) rfl (fun ls hl => ?_)
    refine W.widen (k := cells + 0) (n := slots + 0) (by omega) (by omega) ?_
    exact kk ls (lv_sub hl [1, 2, 3, 4, 5, 6, 7, 0] rfl)
  · skip
    exact absurd c_1 (by decide)
set_option maxHeartbeats 4000000 in
set_option maxRecDepth 100000 in
theorem law_427 (l : Launch) (hl0 : l.stackTraces = false) (C : LC p s m c0 args) (hZ : ZZ g s) (hG : GW g μ w H) (hS : va_S (gA g) s.heap H locs)  (hroom : cells + 100 ≤ 600104 ∧ slots + 600 ≤ 7301314) (hl : lv_has ls 11 [(1, .ref (gad g 0 0)), (2, .ref (gad g 8 0))]) (kk : ∀ ls : Array Slot, lv_has ls 11 [(1, .ref (gad g 0 0)), (2, .ref (gad g 8 0)), (5, .int (nI 0))] → W p l e room_1 s m args below meth c0 H locs (cells + 0) (slots + 0) Q (F0 m 430 ls [])) : W p l e room_1 s m args below meth c0 H locs cells slots Q (F0 m 427 ls []) := by
  obtain ⟨hx, hb, hml, hown, hts⟩ := C
  refine lv_iconst (v := 0) hx hb dL_law_427 (by decide) ?_
  refine lv_istore (lv' := [(5, .int (0)), (1, .ref (gad g 0 0)), (2, .ref (gad g 8 0))]) hx hb dL_law_428 hl (by decide) rfl (fun ls hl => ?_)
  refine W.widen (k := cells + 0) (n := slots + 0) (by omega) (by omega) ?_
  exact kk ls (lv_sub hl [1, 2, 0] rfl)
set_option maxHeartbeats 4000000 in
set_option maxRecDepth 100000 in
theorem law_430 (l : Launch) (hl0 : l.stackTraces = false) (C : LC p s m c0 args) (hZ : ZZ g s) (hG : GW g μ w H) (hS : va_S (gA g) s.heap H locs) (hX : Xok g μ) (hR : Rr g μ) {c : Nat} (hc : c < 1000) (hroom : cells + 100 ≤ 600104 ∧ slots + 600 ≤ 7301314) (hl : lv_has ls 11 [(1, .ref (gad g 0 0)), (2, .ref (gad g 8 0)), (5, .int (nI c))]) (kk1 : gcn g 16 ≤ c → ∀ ls : Array Slot, lv_has ls 11 [(1, .ref (gad g 0 0)), (2, .ref (gad g 8 0))] → W p l e room_1 s m args below meth c0 H locs (cells + 0) (slots + 0) Q (F0 m 498 ls [])) (kk2 : c < gcn g 16 → ∀ ls : Array Slot, lv_has ls 11 [(1, .ref (gad g 0 0)), (2, .ref (gad g 8 0)), (5, .int (nI c)), (6, .int (nI 0))] → W p l e room_1 s m args below meth c0 H locs (cells + 0) (slots + 0) Q (F0 m 442 ls [])) : W p l e room_1 s m args below meth c0 H locs cells slots Q (F0 m 430 ls []) := by
  obtain ⟨hx, hb, hml, hown, hts⟩ := C
  have k1 := hts (.fieldLink RL 15 "TaxiRankLaw$Rank" "many" "I") (by decide +kernel)
  have hc10 := hR.c10
  refine lv_iload hx hb dL_law_430 (lv_at hl 2 rfl) ?_
  refine lv_aload_n hx hb dL_law_432 rfl (lv_at hl 1 rfl) ?_
  refine gx_get hx hb hown hZ hG 8 0 6 hR.k8 rfl (by decide) k1 (fun _ h => h) (v := .int (nI (gcn g 16))) (congrArg Value.int hR.nm) dL_law_433 ?_
  refine lv_icmp_ge (tgt := 498) hx hb dL_law_436 (by decide) (fun c_1 => ?_) (fun c_1 => ?_)
  · skip
    have hge := le_of_nIle c_1 (by omega) (by omega)
    refine W.widen (k := cells + 0) (n := slots + 0) (by omega) (by omega) ?_
    exact kk1 hge ls (lv_sub hl [0, 1] rfl)
  · skip
    have hlt : c < gcn g 16 := lt_of_nle c_1 (by omega)
    refine lv_iconst (v := 0) hx hb dL_law_439 (by decide) ?_
    refine lv_istore (lv' := [(6, .int (0)), (1, .ref (gad g 0 0)), (2, .ref (gad g 8 0)), (5, .int (nI c))]) hx hb dL_law_440 hl (by decide) rfl (fun ls hl => ?_)
    refine W.widen (k := cells + 0) (n := slots + 0) (by omega) (by omega) ?_
    exact kk2 hlt ls (lv_sub hl [1, 2, 3, 0] rfl)
set_option maxHeartbeats 4000000 in
set_option maxRecDepth 100000 in
theorem law_442 (l : Launch) (hl0 : l.stackTraces = false) (C : LC p s m c0 args) (hZ : ZZ g s) (hG : GW g μ w H) (hS : va_S (gA g) s.heap H locs) (hX : Xok g μ) (hR : Rr g μ) {c u : Nat} (hc6 : c < gcn g 6) (hc10 : c < 1000) (hu : u < 60) (hroom : cells + 100 ≤ 600104 ∧ slots + 600 ≤ 7301314) (hl : lv_has ls 11 [(1, .ref (gad g 0 0)), (2, .ref (gad g 8 0)), (5, .int (nI c)), (6, .int (nI u))]) (kk1 : ∀ ls : Array Slot, lv_has ls 11 [(1, .ref (gad g 0 0)), (2, .ref (gad g 8 0)), (5, .int (nI c)), (6, .int (nI u))] → W p l e room_1 s m args below meth c0 H locs (cells + 4) (slots + 24) Q (F0 m 483 ls [])) (kk2 : μ 6 c 3 = 1 → ¬ xCabDet μ c 3 < 0 → ∀ ls : Array Slot, lv_has ls 11 [(1, .ref (gad g 0 0)), (2, .ref (gad g 8 0)), (5, .int (nI c)), (6, .int (nI u))] → W p l e room_1 s m args below meth c0 H locs (cells + 4) (slots + 24) Q (F0 m 473 ls [.int (nI c), .ref (gad g 0 0)])) : W p l e room_1 s m args below meth c0 H locs cells slots Q (F0 m 442 ls []) := by
  obtain ⟨hx, hb, hml, hown, hts⟩ := C
  refine lv_aload_n hx hb dL_law_442 rfl (lv_at hl 0 rfl) ?_
  refine lv_iload hx hb dL_law_443 (lv_at hl 2 rfl) ?_
  refine lv_iconst (v := 0) hx hb dL_law_445 (by decide) ?_
  refine gx_cRx (gx_xrunV (As := [.int (nI c), .int (0)]) (rest := []) ⟨hx, hb, hml, hown, hts⟩ (c_X2_cab l hl0 g μ w (nI c) 0 hX) (cwV 2 hts gL_law_X2_cab rfl rfl rfl (by decide +kernel) ⟨Nat.le_of_ble_eq_true rfl, Nat.le_of_ble_eq_true rfl⟩) (gx_obj hZ hG 0 0 hX.k0 rfl) hZ hG hS rfl hl.1 rfl (Nat.le_of_ble_eq_true rfl) dL_law_446 ⟨rc1 (by omega), rs1 (by omega)⟩) hG hS (fun E ce q9 H1 hPE hG hS hz1 hk1 hce hcv hcl => ?_) (fun hD => ?_)
  · exact absurd (hPE.2.symm.trans (cabE hX hc6 (by decide) (by decide))) (by decide)
  refine gx_topN (y := μ 6 c 3) (by rw [ix_nI (by omega)]; exact xcd0) ?_
  refine lv_iconst (v := 1) hx hb dL_law_449 (by decide) ?_
  refine lv_icmp_ne (tgt := 483) hx hb dL_law_450 (by decide) (fun c_1 => ?_) (fun c_1 => ?_)
  · skip
    refine W.widen (k := cells + 4) (n := slots + 24) (by omega) (by omega) ?_
    exact kk1 ls (lv_sub hl [0, 1, 2, 3] rfl)
  · skip
    refine lv_aload_n hx hb dL_law_453 rfl (lv_at hl 0 rfl) ?_
    refine lv_iload hx hb dL_law_454 (lv_at hl 2 rfl) ?_
    refine lv_iconst (v := 3) hx hb dL_law_456 (by decide) ?_
    refine gx_cRx (gx_xrunV (As := [.int (nI c), .int (3)]) (rest := []) ⟨hx, hb, hml, hown, hts⟩ (c_X2_cab l hl0 g μ w (nI c) 3 hX) (cwV 2 hts gL_law_X2_cab rfl rfl rfl (by decide +kernel) ⟨Nat.le_of_ble_eq_true rfl, Nat.le_of_ble_eq_true rfl⟩) (gx_obj hZ hG 0 0 hX.k0 rfl) hZ hG hS rfl hl.1 rfl (Nat.le_of_ble_eq_true rfl) dL_law_457 ⟨rc1 (by omega), rs1 (by omega)⟩) hG hS (fun E ce q9 H1 hPE hG hS hz1 hk1 hce hcv hcl => ?_) (fun hD => ?_)
    · exact absurd (hPE.2.symm.trans (cabE hX hc6 (by decide) (by decide))) (by decide)
    refine gx_topN (y := xCabDet μ c 3) (by rw [ix_nI (by omega)]) ?_
    refine lv_if_lt (tgt := 483) hx hb dL_law_460 (by decide) (fun c_2 => ?_) (fun c_2 => ?_)
    · skip
      refine W.widen (k := cells + 4) (n := slots + 24) (by omega) (by omega) ?_
      exact kk1 ls (lv_sub hl [0, 1, 2, 3] rfl)
    · skip
      refine lv_iload hx hb dL_law_463 (lv_at hl 3 rfl) ?_
      refine lv_bipush (v := 60) hx hb dL_law_465 (by decide) ?_
      refine lv_icmp_ge (tgt := 483) hx hb dL_law_467 (by decide) (fun c_3 => ?_) (fun c_3 => ?_)
      · skip
        exact absurd c_3 (nI_ge (b := 60) hu (by decide))
      · skip
        refine lv_aload_n hx hb dL_law_470 rfl (lv_at hl 0 rfl) ?_
        refine lv_iload hx hb dL_law_471 (lv_at hl 2 rfl) ?_
        refine W.widen (k := cells + 4) (n := slots + 24) (by omega) (by omega) ?_
        exact kk2 c_1 c_2 ls (lv_sub hl [0, 1, 2, 3] rfl)
set_option maxHeartbeats 4000000 in
set_option maxRecDepth 100000 in
theorem law_473 (l : Launch) (hl0 : l.stackTraces = false) (C : LC p s m c0 args) (hZ : ZZ g s) (hG : GW g μ w H) (hS : va_S (gA g) s.heap H locs) (hX : Xok g μ) (hR : Rr g μ) {c u : Nat} {μ1 : Mem} (e1 : xRefuse μ (nI c) = μ1) (hE0 : xAcceptE μ (nI c) = 0) (hroom : cells + 100 ≤ 600104 ∧ slots + 600 ≤ 7301314) (hl : lv_has ls 11 [(1, .ref (gad g 0 0)), (2, .ref (gad g 8 0)), (5, .int (nI c)), (6, .int (nI u))]) (kk : ∀ (H : Heap) (locs : List Loc) (ls : Array Slot), GW g μ1 w H → va_S (gA g) s.heap H locs → lv_has ls 11 [(1, .ref (gad g 0 0)), (2, .ref (gad g 8 0)), (5, .int (nI c)), (6, .int (nI (u + 1)))] → W p l e room_1 s m args below meth c0 H locs (cells + 2) (slots + 12) Q (F0 m 442 ls [])) : W p l e room_1 s m args below meth c0 H locs cells slots Q (F0 m 473 ls [.int (nI c), .ref (gad g 0 0)]) := by
  obtain ⟨hx, hb, hml, hown, hts⟩ := C
  refine gx_cMx (gx_xrunV (As := [.int (nI c)]) (rest := []) ⟨hx, hb, hml, hown, hts⟩ (c_X2_refuse l hl0 g μ w (nI c) hX) (cwV 1 hts gL_law_X2_refuse rfl rfl rfl (by decide +kernel) ⟨Nat.le_of_ble_eq_true rfl, Nat.le_of_ble_eq_true rfl⟩) (gx_obj hZ hG 0 0 hX.k0 rfl) hZ hG hS rfl hl.1 rfl (Nat.le_of_ble_eq_true rfl) dL_law_473 ⟨rc1 (by omega), rs1 (by omega)⟩) hG hS (fun E ce q9 H1 locs1 hPE hG hS hz1 hk1 hce hcv hcl => ?_) (fun H locs hD hG hS hsz => ?_)
  · rcases hPE with ⟨-, hE⟩ | ⟨-, hE⟩ <;> exact absurd (hE.symm.trans hE0) (by decide)
  rw [e1] at hG
  refine gx_topN (y := xRefuse μ (nI c) 7 (ix (xOff μ (ix (nI c)))) 0) rfl ?_
  refine lv_pop hx hb dL_law_476 rfl ?_
  refine lv_iinc (v := nI (u + 1)) (lv' := [(6, .int (nI (u + 1))), (1, .ref (gad g 0 0)), (2, .ref (gad g 8 0)), (5, .int (nI c))]) hx hb dL_law_477 hl (k := 3) rfl (nI_1 _) (by decide) rfl (fun ls hl => ?_)
  refine lv_goto (tgt := 442) hx hb dL_law_480 (by decide) ?_
  refine W.widen (k := cells + 2) (n := slots + 12) (by omega) (by omega) ?_
  exact kk _ _ ls hG hS (lv_sub hl [1, 2, 3, 0] rfl)
set_option maxHeartbeats 4000000 in
set_option maxRecDepth 100000 in
theorem law_483 (l : Launch) (hl0 : l.stackTraces = false) (C : LC p s m c0 args) (hZ : ZZ g s) (hG : GW g μ w H) (hS : va_S (gA g) s.heap H locs) {c u : Nat} (hu : u < 60) (hroom : cells + 100 ≤ 600104 ∧ slots + 600 ≤ 7301314) (hl : lv_has ls 11 [(1, .ref (gad g 0 0)), (2, .ref (gad g 8 0)), (5, .int (nI c)), (6, .int (nI u))]) (kk : ∀ ls : Array Slot, lv_has ls 11 [(1, .ref (gad g 0 0)), (2, .ref (gad g 8 0)), (5, .int (nI (c + 1)))] → W p l e room_1 s m args below meth c0 H locs (cells + 0) (slots + 0) Q (F0 m 430 ls [])) : W p l e room_1 s m args below meth c0 H locs cells slots Q (F0 m 483 ls []) := by
  obtain ⟨hx, hb, hml, hown, hts⟩ := C
  refine lv_iload hx hb dL_law_483 (lv_at hl 3 rfl) ?_
  refine lv_bipush (v := 60) hx hb dL_law_485 (by decide) ?_
  refine lv_icmp_ne (tgt := 492) hx hb dL_law_487 (by decide) (fun c_1 => ?_) (fun c_1 => ?_)
  · skip
    refine lv_iinc (v := nI (c + 1)) (lv' := [(5, .int (nI (c + 1))), (1, .ref (gad g 0 0)), (2, .ref (gad g 8 0)), (6, .int (nI u))]) hx hb dL_law_492 hl (k := 2) rfl (nI_1 _) (by decide) rfl (fun ls hl => ?_)
    refine lv_goto (tgt := 430) hx hb dL_law_495 (by decide) ?_
    refine W.widen (k := cells + 0) (n := slots + 0) (by omega) (by omega) ?_
    exact kk ls (lv_sub hl [1, 2, 0] rfl)
  · skip
    exact absurd (nI_inj (b := 60) (by omega) (by decide) c_1) (by omega)
set_option maxHeartbeats 4000000 in
set_option maxRecDepth 100000 in
theorem law_498 (l : Launch) (hl0 : l.stackTraces = false) (C : LC p s m c0 args) (hZ : ZZ g s) (hG : GW g μ w H) (hS : va_S (gA g) s.heap H locs) (hX : Xok g μ) (hR : Rr g μ) (hc : xCount μ 1 = nI (gcn g 17)) (hroom : cells + 100 ≤ 600104 ∧ slots + 600 ≤ 7301314) (hl : lv_has ls 11 [(1, .ref (gad g 0 0)), (2, .ref (gad g 8 0))]) (kk : ∀ ls : Array Slot, W p l e room_1 s m args below meth c0 H locs (cells + 1) (slots + 6) Q (F0 m 515 ls [.int 1])) : W p l e room_1 s m args below meth c0 H locs cells slots Q (F0 m 498 ls []) := by
  obtain ⟨hx, hb, hml, hown, hts⟩ := C
  have k1 := hts (.fieldLink RL 30 "TaxiRankLaw$Rank" "all" "I") (by decide +kernel)
  refine lv_aload_n hx hb dL_law_498 rfl (lv_at hl 0 rfl) ?_
  refine lv_iconst (v := 1) hx hb dL_law_499 (by decide) ?_
  refine gx_cRx (gx_xrunV (As := [.int (1)]) (rest := []) ⟨hx, hb, hml, hown, hts⟩ (c_X2_count l hl0 g μ w 1 hX) (cwV 1 hts gL_law_X2_count rfl rfl rfl (by decide +kernel) ⟨Nat.le_of_ble_eq_true rfl, Nat.le_of_ble_eq_true rfl⟩) (gx_obj hZ hG 0 0 hX.k0 rfl) hZ hG hS rfl hl.1 rfl (Nat.le_of_ble_eq_true rfl) dL_law_500 ⟨rc1 (by omega), rs1 (by omega)⟩) hG hS (fun E ce q9 H1 hPE hG hS hz1 hk1 hce hcv hcl => ?_) (fun hD => ?_)
  · exact absurd (hPE.2.symm.trans (show xCountE 1 = 0 by decide)) (by decide)
  refine gx_topN (y := nI (gcn g 17)) hc ?_
  refine lv_aload_n hx hb dL_law_503 rfl (lv_at hl 1 rfl) ?_
  refine gx_get hx hb hown hZ hG 8 0 7 hR.k8 rfl (by decide) k1 (fun _ h => h) (v := .int (nI (gcn g 17))) (congrArg Value.int hR.na) dL_law_504 ?_
  refine lv_icmp_ne (tgt := 514) hx hb dL_law_507 (by decide) (fun c_1 => ?_) (fun c_1 => ?_)
  · skip
    exact absurd rfl c_1
  · skip
    refine lv_iconst (v := 1) hx hb dL_law_510 (by decide) ?_
    refine lv_goto (tgt := 515) hx hb dL_law_511 (by decide) ?_
    refine W.widen (k := cells + 1) (n := slots + 6) (by omega) (by omega) ?_
    exact kk ls
end LAWS
