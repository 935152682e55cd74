section ACT
variable {p : Program} {e : Env} {s : State} {m : MethodId} {args : Array Value} {below : List Frame} {meth : Method} {c0 : Code} {H : Heap} {locs : List Loc} {Q : State → Prop} {ls : Array Slot} {g : gG} {σ σ1 τ : Mem} {w : Int64} {hs : Nat → Nat × Bool} {t B t1 B1 : Nat}
set_option maxHeartbeats 4000000 in
set_option maxRecDepth 100000 in
theorem act_min1 (l : Launch) (hl0 : l.stackTraces = false) (C : AC p s m c0 args) (hZ : ZZ g s) (hG : GW g τ w H) (hS : va_S (gA g) s.heap H locs) (hR : Rr g τ) {n j N : Nat} {v5 v7 : Int32} (hjn : j < n) (hn : n ≤ 12) (h1 : ∀ k, k < gcn g 16 → rG1 g (rAgeN k (rM0 τ)) k) (h2 : ∀ k, k < gcn g 16 → rG2 g (rRunN k (rM1 (gcn g 16) τ)).2 k) (hQ : ∀ z, z < 6 → rQw (gcn g 16) (rM2 (gcn g 16) τ).2 z) (ha : ∀ o, o < gcn g 17 → inN 6 ((rM2 (gcn g 16) τ).2 17 o 0)) (hN : ∀ i, i < N → ¬ rBest (rOffN i (rM2 (gcn g 16) τ).2) < 0) (hE : rBest (rOffN N (rM2 (gcn g 16) τ).2) < 0) (hl : lv_has ls 10 [(1, .ref (gad g 8 0)), (5, .int (v5)), (7, .int (v7)), (8, .int (nI n)), (9, .int (nI j))]) (next : ∀ (H : Heap) (locs : List Loc) (ls : Array Slot), GW g (rOffN N (rM2 (gcn g 16) τ).2) w H → va_S (gA g) s.heap H locs → lv_has ls 10 [(1, .ref (gad g 8 0)), (5, .int v5), (7, .int (v7 + (rM2 (gcn g 16) τ).1)), (8, .int (nI n)), (9, .int (nI (j + 1)))] → W p l e rmA s m args below meth c0 H locs 4 20 Q (F0 m 946 ls [])) : W p l e rmA s m args below meth c0 H locs 4 20 Q (F0 m 946 ls []) := by
  obtain ⟨hx, hb, hml, hown, hts, hbt⟩ := C
  refine lv_iload hx hb dL_act_946 (lv_at hl 4 rfl) ?_
  refine lv_iload hx hb dL_act_948 (lv_at hl 3 rfl) ?_
  refine lv_icmp_ge (tgt := 968) hx hb dL_act_950 (by decide) (fun c_1 => ?_) (fun c_1 => ?_)
  · skip
    exact absurd c_1 (nI_ge hjn (by omega))
  · skip
    refine lv_iload hx hb dL_act_953 (lv_at hl 2 rfl) ?_
    refine lv_aload_n hx hb dL_act_955 rfl (lv_at hl 0 rfl) ?_
    refine gx_cM (gx_runV (As := []) (rest := [.int (v7)]) ⟨hx, hb, hml, hown, hts⟩ (c_X3_minute l g τ w N hR h1 h2 hQ ha hN hE) (cwV 0 hts gL_act_X3_minute rfl rfl rfl (by decide +kernel) ⟨Nat.le_of_ble_eq_true rfl, Nat.le_of_ble_eq_true rfl⟩) (gx_obj hZ hG 8 0 hR.k8 rfl) hZ hG hS rfl hl.1 rfl (Nat.le_of_ble_eq_true rfl) dL_act_956 ⟨Nat.le_of_ble_eq_true rfl, Nat.le_of_ble_eq_true rfl⟩) hS (fun H locs hG hS hsz => ?_)
    refine lv_iadd hx hb dL_act_959 ?_
    refine lv_istore (lv' := [(7, .int (v7 + ((rM2 (gcn g 16) τ).1))), (1, .ref (gad g 8 0)), (5, .int (v5)), (8, .int (nI n)), (9, .int (nI j))]) hx hb dL_act_960 hl (by decide) rfl (fun ls hl => ?_)
    refine lv_iinc (v := nI (j + 1)) (lv' := [(9, .int (nI (j + 1))), (7, .int (v7 + ((rM2 (gcn g 16) τ).1))), (1, .ref (gad g 8 0)), (5, .int (v5)), (8, .int (nI n))]) hx hb dL_act_962 hl (k := 4) rfl (nI_1 _) (by decide) rfl (fun ls hl => ?_)
    refine lv_goto (tgt := 946) hx hb dL_act_965 (by decide) ?_
    exact next _ _ ls hG hS (lv_sub hl [2, 3, 1, 4, 0] rfl)
set_option maxHeartbeats 4000000 in
set_option maxRecDepth 100000 in
theorem act_minE (l : Launch) (hl0 : l.stackTraces = false) (C : AC p s m c0 args) (hZ : ZZ g s) (hG : GW g τ w H) (hS : va_S (gA g) s.heap H locs) {n : Nat} {v5 v7 : Int32} (hA : AO g hs t1 B1 σ τ) (ht : t ≤ t1 ∧ t1 ≤ t + 12 ∧ B1 ≤ B + 300) (hv : v5 = v7) (hl : lv_has ls 10 [(1, .ref (gad g 8 0)), (5, .int (v5)), (7, .int (v7)), (8, .int (nI n)), (9, .int (nI n))]) (kk : AE p l e s m args below meth c0 Q g hs t B σ w) : W p l e rmA s m args below meth c0 H locs 4 20 Q (F0 m 946 ls []) := by
  obtain ⟨hx, hb, hml, hown, hts, hbt⟩ := C
  refine lv_iload hx hb dL_act_946 (lv_at hl 4 rfl) ?_
  refine lv_iload hx hb dL_act_948 (lv_at hl 3 rfl) ?_
  refine lv_icmp_ge (tgt := 968) hx hb dL_act_950 (by decide) (fun c_1 => ?_) (fun c_1 => ?_)
  · skip
    refine W.widen (k := 4) (n := 20) (by decide) (by decide) ?_
    exact act_end l hl0 ⟨hx, hb, hml, hown, hts, hbt⟩ hZ hG hS hA ht hv (lv_sub hl [0, 1, 2] rfl) kk
  · skip
    exact absurd (Int32.le_refl _) c_1
theorem act_loop (l : Launch) (hl0 : l.stackTraces = false) (C : AC p s m c0 args) (hZ : ZZ g s) {n : Nat} (hn : n ≤ 12) (h : LI g hs t B σ) (hB : B + 1000 < 2 ^ 31) (ht : t + 12 < 9999) (hX : Xok g (xTick σ (nI n)).2) (e8 : ∀ k i f, 8 ≤ k → (xTick σ (nI n)).2 k i f = σ k i f) {v5 : Int32} (hv : v5 = 6000 + (xTk σ n).1) (kk : AE p l e s m args below meth c0 Q g hs t B σ w) :
    ∀ (r j : Nat) (τ : Mem), j + r = n → Tk g hs t B σ (xTick σ (nI n)).2 j τ → ∀ (H : Heap) (locs : List Loc) (ls : Array Slot), GW g τ w H → va_S (gA g) s.heap H locs → lv_has ls 10 [(1, .ref (gad g 8 0)), (5, .int v5), (7, .int (6000 + (xTk σ j).1)), (8, .int (nI n)), (9, .int (nI j))] → W p l e rmA s m args below meth c0 H locs 4 20 Q (F0 m 946 ls []) := by
  intro r
  induction r with
  | zero =>
    intro j τ hj hT H locs ls hG hS hl
    obtain rfl : j = n := by omega
    exact act_minE l hl0 C hZ hG hS (Tk.done h (by omega) hT hX e8 (by omega)) ⟨by omega, by omega, by omega⟩ hv hl kk
  | succ r ih =>
    intro j τ hj hT H locs ls hG hS hl
    obtain ⟨N, a1, a2, a3, a4, a5, a6, a7, a8⟩ := hT.min (by omega) (by omega)
    refine act_min1 l hl0 C hZ hG hS hT.2.1 (by omega) hn a1 a2 a3 a4 a5 a6 hl (fun H locs ls hG hS hl => ?_)
    refine ih (j + 1) _ (by omega) a7 H locs ls hG hS ?_
    rw [a8, ← Int32.add_assoc]
    exact hl
set_option maxHeartbeats 4000000 in
set_option maxRecDepth 100000 in
theorem act_tick_ok (l : Launch) (hl0 : l.stackTraces = false) (C : AC p s m c0 args) (hZ : ZZ g s) (hG : GW g σ w H) (hS : va_S (gA g) s.heap H locs) {x : Int32} {q c : Nat} {off : Bool} (hB1 : B1 ≤ B + 300) (hX : Xok g σ) (hcg : c < gcn g 16) (hq13 : 13 ≤ q) (hq16 : q < 16) {k : Nat} {a5 : Int32} (hbk : xBl (x >>> (3 &&& 31)) 12 = nI k) (e1 : (xTick σ (nI (1 + k))).2 = σ1) (hE0 : xTickE σ (nI (1 + k)) = 0) (hR : Rr g σ1) (hval : (xTick σ (nI (1 + k))).1 = a5) (hl : lv_has ls 10 [(0, .ref (gad g 0 0)), (1, .ref (gad g 8 0)), (2, .int (x)), (3, .int (nI q)), (4, .int (nI c)), (5, .int (-3)), (6, .int (bI off)), (7, .int (-3))]) (next : ∀ (H : Heap) (locs : List Loc) (ls : Array Slot), GW g σ1 w H → va_S (gA g) s.heap H locs → lv_has ls 10 [(1, .ref (gad g 8 0)), (5, .int (a5 + 6000)), (7, .int 6000), (8, .int (nI (1 + k))), (9, .int (nI 0))] → W p l e rmA s m args below meth c0 H locs 4 20 Q (F0 m 946 ls [])) : W p l e rmA s m args below meth c0 H locs 0 0 Q (F0 m 607 ls []) := by
  obtain ⟨hx, hb, hml, hown, hts, hbt⟩ := C
  refine lv_aload_n hx hb dL_act_607 rfl (lv_at hl 0 rfl) ?_
  refine lv_iconst (v := 1) hx hb dL_act_608 (by decide) ?_
  refine lv_iload_n hx hb dL_act_609 rfl (lv_at hl 2 rfl) ?_
  refine lv_iconst (v := 3) hx hb dL_act_610 (by decide) ?_
  refine lv_ishr hx hb dL_act_611 ?_
  refine lv_bipush (v := 12) hx hb dL_act_612 (by decide) ?_
  refine gx_cR (gx_runS (As := [.int (x >>> (3 &&& 31)), .int (12)]) (rest := [.int (1), .ref (gad g 0 0)]) ⟨hx, hb, hml, hown, hts⟩ (c_L_below l g σ w (x >>> (3 &&& 31)) 12 (by decide)) (va_cwS 2 hts gL_act_L_below rfl rfl rfl (by decide +kernel) ⟨Nat.le_of_ble_eq_true rfl, Nat.le_of_ble_eq_true rfl⟩) hZ hG hS rfl hl.1 rfl (Nat.le_of_ble_eq_true rfl) dL_act_614 ⟨Nat.le_of_ble_eq_true rfl, Nat.le_of_ble_eq_true rfl⟩) ?_
  refine gx_topN (y := nI k) hbk ?_
  refine lv_iadd hx hb dL_act_617 ?_
  refine gx_topN (y := nI (1 + k)) (by rw [show (1 : Int32) = nI 1 from rfl, nI_add]) ?_
  refine gx_cMx (gx_xrunV (As := [.int (nI (1 + k))]) (rest := []) ⟨hx, hb, hml, hown, hts⟩ (c_X2_tick l hl0 g σ w (nI (1 + k)) hX) (cwV 1 hts gL_act_X2_tick rfl rfl rfl (by decide +kernel) ⟨Nat.le_of_ble_eq_true rfl, Nat.le_of_ble_eq_true rfl⟩) (gx_obj hZ hG 0 0 hX.k0 rfl) hZ hG hS rfl hl.1 rfl (Nat.le_of_ble_eq_true rfl) dL_act_618 ⟨Nat.le_of_ble_eq_true rfl, Nat.le_of_ble_eq_true rfl⟩) hG hS (fun E ce q9 H1 locs1 hPE hG hS hz1 hk1 hce hcv hcl => ?_) (fun H locs hD hG hS hsz => ?_)
  · exact absurd (hPE.2.symm.trans hE0) (by decide)
  rw [e1] at hG
  refine gx_topN (y := a5) hval ?_
  refine lv_sipush (v := 6000) hx hb dL_act_621 (by decide) ?_
  refine lv_iadd hx hb dL_act_624 ?_
  refine lv_istore (lv' := [(5, .int (a5 + 6000)), (0, .ref (gad g 0 0)), (1, .ref (gad g 8 0)), (2, .int (x)), (3, .int (nI q)), (4, .int (nI c)), (6, .int (bI off)), (7, .int (-3))]) hx hb dL_act_625 hl (by decide) rfl (fun ls hl => ?_)
  refine lv_goto (tgt := 636) hx hb dL_act_627 (by decide) ?_
  refine lv_iload_n hx hb dL_act_636 rfl (lv_at hl 4 rfl) ?_
  refine lv_bipush (v := 8) hx hb dL_act_637 (by decide) ?_
  refine lv_icmp_ge (tgt := 795) hx hb dL_act_639 (by decide) (fun c_1 => ?_) (fun c_1 => ?_)
  · skip
    refine lv_iload_n hx hb dL_act_795 rfl (lv_at hl 4 rfl) ?_
    refine lv_bipush (v := 11) hx hb dL_act_796 (by decide) ?_
    refine lv_icmp_ge (tgt := 826) hx hb dL_act_798 (by decide) (fun c_2 => ?_) (fun c_2 => ?_)
    · skip
      refine lv_iload_n hx hb dL_act_826 rfl (lv_at hl 4 rfl) ?_
      refine lv_bipush (v := 11) hx hb dL_act_827 (by decide) ?_
      refine lv_icmp_ne (tgt := 867) hx hb dL_act_829 (by decide) (fun c_3 => ?_) (fun c_3 => ?_)
      · skip
        refine lv_iload_n hx hb dL_act_867 rfl (lv_at hl 4 rfl) ?_
        refine lv_bipush (v := 12) hx hb dL_act_868 (by decide) ?_
        refine lv_icmp_ne (tgt := 920) hx hb dL_act_870 (by decide) (fun c_4 => ?_) (fun c_4 => ?_)
        · skip
          refine lv_iload_n hx hb dL_act_920 rfl (lv_at hl 4 rfl) ?_
          refine lv_bipush (v := 12) hx hb dL_act_921 (by decide) ?_
          refine lv_icmp_le (tgt := 968) hx hb dL_act_923 (by decide) (fun c_5 => ?_) (fun c_5 => ?_)
          · skip
            exact absurd c_5 (show ¬ nI q ≤ (12 : Int32) from nI_ge (a := 12) (by omega) (by omega))
          · skip
            refine lv_sipush (v := 6000) hx hb dL_act_926 (by decide) ?_
            refine lv_istore (lv' := [(7, .int (6000)), (5, .int (a5 + 6000)), (0, .ref (gad g 0 0)), (1, .ref (gad g 8 0)), (2, .int (x)), (3, .int (nI q)), (4, .int (nI c)), (6, .int (bI off))]) hx hb dL_act_929 hl (by decide) rfl (fun ls hl => ?_)
            refine lv_iconst (v := 1) hx hb dL_act_931 (by decide) ?_
            refine lv_iload_n hx hb dL_act_932 rfl (lv_at hl 4 rfl) ?_
            refine lv_iconst (v := 3) hx hb dL_act_933 (by decide) ?_
            refine lv_ishr hx hb dL_act_934 ?_
            refine lv_bipush (v := 12) hx hb dL_act_935 (by decide) ?_
            refine gx_cR (gx_runS (As := [.int (x >>> (3 &&& 31)), .int (12)]) (rest := [.int (1)]) ⟨hx, hb, hml, hown, hts⟩ (c_L_below l g σ1 w (x >>> (3 &&& 31)) 12 (by decide)) (va_cwS 2 hts gL_act_L_below rfl rfl rfl (by decide +kernel) ⟨Nat.le_of_ble_eq_true rfl, Nat.le_of_ble_eq_true rfl⟩) hZ hG hS rfl hl.1 rfl (Nat.le_of_ble_eq_true rfl) dL_act_937 ⟨Nat.le_of_ble_eq_true rfl, Nat.le_of_ble_eq_true rfl⟩) ?_
            refine gx_topN (y := nI k) hbk ?_
            refine lv_iadd hx hb dL_act_940 ?_
            refine gx_topN (y := nI (1 + k)) (by rw [show (1 : Int32) = nI 1 from rfl, nI_add]) ?_
            refine lv_istore (lv' := [(8, .int (nI (1 + k))), (7, .int (6000)), (5, .int (a5 + 6000)), (0, .ref (gad g 0 0)), (1, .ref (gad g 8 0)), (2, .int (x)), (3, .int (nI q)), (4, .int (nI c)), (6, .int (bI off))]) hx hb dL_act_941 hl (by decide) rfl (fun ls hl => ?_)
            refine lv_iconst (v := 0) hx hb dL_act_943 (by decide) ?_
            refine lv_istore (lv' := [(9, .int (0)), (8, .int (nI (1 + k))), (7, .int (6000)), (5, .int (a5 + 6000)), (0, .ref (gad g 0 0)), (1, .ref (gad g 8 0)), (2, .int (x)), (3, .int (nI q)), (4, .int (nI c)), (6, .int (bI off))]) hx hb dL_act_944 hl (by decide) rfl (fun ls hl => ?_)
            refine W.widen (k := 4) (n := 20) (by decide) (by decide) ?_
            exact next _ _ ls hG hS (lv_sub hl [5, 3, 2, 1, 0] rfl)
        · skip
          exact absurd (nI_inj (b := 12) (by omega) (by omega) c_4) (by omega)
      · skip
        exact absurd (nI_inj (b := 11) (by omega) (by omega) c_3) (by omega)
    · skip
      exact absurd (show (11 : Int32) ≤ nI q from nI_le (a := 11) (by omega) (by omega)) c_2
  · skip
    exact absurd (show (8 : Int32) ≤ nI q from nI_le (a := 8) (by omega) (by omega)) c_1
set_option maxHeartbeats 4000000 in
set_option maxRecDepth 100000 in
theorem act_pre (l : Launch) (hl0 : l.stackTraces = false) (C : AC p s m c0 args) (hZ : ZZ g s) (hG : GW g σ w H) (hS : va_S (gA g) s.heap H locs) (hR : Rr g σ) {x : Int32} {q : Nat} (hq : xBl x 16 = nI q) (hl : lv_has ls 10 [(0, .ref (gad g 0 0)), (1, .ref (gad g 8 0)), (2, .int (x))]) (k51 : gcn g 16 < 8 → ∀ ls : Array Slot, lv_has ls 10 [(0, .ref (gad g 0 0)), (1, .ref (gad g 8 0)), (2, .int (x))] → W p l e rmA s m args below meth c0 H locs 0 0 Q (F0 m 51 ls [])) (k146 : ∀ c, c < gcn g 16 → ∀ ls : Array Slot, lv_has ls 10 [(0, .ref (gad g 0 0)), (1, .ref (gad g 8 0)), (2, .int (x)), (3, .int (nI q)), (4, .int (nI c))] → W p l e rmA s m args below meth c0 H locs 0 0 Q (F0 m 146 ls [])) : W p l e rmA s m args below meth c0 H locs 0 0 Q (F0 m 0 ls []) := by
  obtain ⟨hx, hb, hml, hown, hts, hbt⟩ := C
  have k1 := hts (.fieldLink RL 15 "TaxiRankLaw$Rank" "many" "I") (by decide +kernel)
  have hc10 := hR.c10
  refine lv_iload_n hx hb dL_act_0 rfl (lv_at hl 2 rfl) ?_
  refine lv_bipush (v := 16) hx hb dL_act_1 (by decide) ?_
  refine gx_cR (gx_runS (As := [.int (x), .int (16)]) (rest := []) ⟨hx, hb, hml, hown, hts⟩ (c_L_below l g σ w x 16 (by decide)) (va_cwS 2 hts gL_act_L_below rfl rfl rfl (by decide +kernel) ⟨Nat.le_of_ble_eq_true rfl, Nat.le_of_ble_eq_true rfl⟩) hZ hG hS rfl hl.1 rfl (Nat.le_of_ble_eq_true rfl) dL_act_3 ⟨Nat.le_of_ble_eq_true rfl, Nat.le_of_ble_eq_true rfl⟩) ?_
  refine gx_topN (y := nI q) hq ?_
  refine lv_istore_n (lv' := [(3, .int (nI q)), (0, .ref (gad g 0 0)), (1, .ref (gad g 8 0)), (2, .int (x))]) hx hb dL_act_6 rfl hl (by decide) rfl (fun ls hl => ?_)
  refine lv_aload_n hx hb dL_act_7 rfl (lv_at hl 2 rfl) ?_
  refine gx_get hx hb hown hZ hG 8 0 6 hR.k8 rfl (by decide) k1 (fun _ h => h) (v := .int (nI (gcn g 16))) (congrArg Value.int hR.nm) dL_act_8 ?_
  refine lv_if_ne (tgt := 18) hx hb dL_act_11 (by decide) (fun c_1 => ?_) (fun c_1 => ?_)
  · skip
    have h0 : 0 < gcn g 16 := by
      rcases Nat.eq_zero_or_pos (gcn g 16) with z | z
      · exact absurd (by rw [z]; decide) c_1
      · exact z
    obtain ⟨c, hc, ec⟩ := xBl_in (x >>> (2 &&& 31)) (n := gcn g 16) h0 (by omega)
    refine lv_iload_n hx hb dL_act_18 rfl (lv_at hl 3 rfl) ?_
    refine lv_iconst (v := 2) hx hb dL_act_19 (by decide) ?_
    refine lv_ishr hx hb dL_act_20 ?_
    refine lv_aload_n hx hb dL_act_21 rfl (lv_at hl 2 rfl) ?_
    refine gx_get hx hb hown hZ hG 8 0 6 hR.k8 rfl (by decide) k1 (fun _ h => h) (v := .int (nI (gcn g 16))) (congrArg Value.int hR.nm) dL_act_22 ?_
    refine gx_cR (gx_runS (As := [.int (x >>> (2 &&& 31)), .int (nI (gcn g 16))]) (rest := []) ⟨hx, hb, hml, hown, hts⟩ (c_L_below l g σ w (x >>> (2 &&& 31)) (nI (gcn g 16)) (nI_ne0 h0 (by omega))) (va_cwS 2 hts gL_act_L_below rfl rfl rfl (by decide +kernel) ⟨Nat.le_of_ble_eq_true rfl, Nat.le_of_ble_eq_true rfl⟩) hZ hG hS rfl hl.1 rfl (Nat.le_of_ble_eq_true rfl) dL_act_25 ⟨Nat.le_of_ble_eq_true rfl, Nat.le_of_ble_eq_true rfl⟩) ?_
    refine gx_topN (y := nI c) ec ?_
    refine lv_istore (lv' := [(4, .int (nI c)), (3, .int (nI q)), (0, .ref (gad g 0 0)), (1, .ref (gad g 8 0)), (2, .int (x))]) hx hb dL_act_28 hl (by decide) rfl (fun ls hl => ?_)
    refine lv_aload_n hx hb dL_act_30 rfl (lv_at hl 3 rfl) ?_
    refine gx_get hx hb hown hZ hG 8 0 6 hR.k8 rfl (by decide) k1 (fun _ h => h) (v := .int (nI (gcn g 16))) (congrArg Value.int hR.nm) dL_act_31 ?_
    refine lv_iconst (v := 2) hx hb dL_act_34 (by decide) ?_
    refine lv_icmp_lt (tgt := 51) hx hb dL_act_35 (by decide) (fun c_2 => ?_) (fun c_2 => ?_)
    · skip
      exact k51 (by have z := (nI_ltI (b := 2) (by omega) (by decide)).mp c_2; omega) ls (lv_sub hl [2, 3, 4] rfl)
    · skip
      refine lv_iload_n hx hb dL_act_38 rfl (lv_at hl 1 rfl) ?_
      refine lv_if_ne (tgt := 146) hx hb dL_act_39 (by decide) (fun c_3 => ?_) (fun c_3 => ?_)
      · skip
        exact k146 c hc ls (lv_sub hl [2, 3, 4, 1, 0] rfl)
      · skip
        refine lv_aload_n hx hb dL_act_42 rfl (lv_at hl 3 rfl) ?_
        refine gx_get hx hb hown hZ hG 8 0 6 hR.k8 rfl (by decide) k1 (fun _ h => h) (v := .int (nI (gcn g 16))) (congrArg Value.int hR.nm) dL_act_43 ?_
        refine lv_bipush (v := 8) hx hb dL_act_46 (by decide) ?_
        refine lv_icmp_ge (tgt := 146) hx hb dL_act_48 (by decide) (fun c_4 => ?_) (fun c_4 => ?_)
        · skip
          exact k146 c hc ls (lv_sub hl [2, 3, 4, 1, 0] rfl)
        · skip
          exact k51 (by rcases Nat.lt_or_ge (gcn g 16) 8 with z | z; exact z; exact absurd (nI_le (a := 8) z (by omega)) c_4) ls (lv_sub hl [2, 3, 4] rfl)
  · skip
    refine lv_iconst (v := (-1)) hx hb dL_act_14 (by decide) ?_
    refine lv_goto (tgt := 28) hx hb dL_act_15 (by decide) ?_
    refine lv_istore (lv' := [(4, .int (-1)), (3, .int (nI q)), (0, .ref (gad g 0 0)), (1, .ref (gad g 8 0)), (2, .int (x))]) hx hb dL_act_28 hl (by decide) rfl (fun ls hl => ?_)
    refine lv_aload_n hx hb dL_act_30 rfl (lv_at hl 3 rfl) ?_
    refine gx_get hx hb hown hZ hG 8 0 6 hR.k8 rfl (by decide) k1 (fun _ h => h) (v := .int (nI (gcn g 16))) (congrArg Value.int hR.nm) dL_act_31 ?_
    refine lv_iconst (v := 2) hx hb dL_act_34 (by decide) ?_
    refine lv_icmp_lt (tgt := 51) hx hb dL_act_35 (by decide) (fun c_5 => ?_) (fun c_5 => ?_)
    · skip
      exact k51 (by have z := nI_inj (b := 0) (by omega) (by decide) c_1; omega) ls (lv_sub hl [2, 3, 4] rfl)
    · skip
      exact absurd (by rw [c_1]; decide) c_5
set_option maxHeartbeats 4000000 in
set_option maxRecDepth 100000 in
theorem act_disp (l : Launch) (hl0 : l.stackTraces = false) (C : AC p s m c0 args) (hZ : ZZ g s) (hG : GW g σ w H) (hS : va_S (gA g) s.heap H locs) (hR : Rr g σ) {x : Int32} {q c : Nat} (hcg : c < gcn g 16) (h60 : gcn g 17 < 60) (hq16 : q < 16) (hl : lv_has ls 10 [(0, .ref (gad g 0 0)), (1, .ref (gad g 8 0)), (2, .int (x)), (3, .int (nI q)), (4, .int (nI c))]) (k160 : ∀ ls : Array Slot, lv_has ls 10 [(0, .ref (gad g 0 0)), (1, .ref (gad g 8 0)), (2, .int (x))] → W p l e rmA s m args below meth c0 H locs 0 0 Q (F0 m 160 ls [])) (k338 : ∀ ls : Array Slot, lv_has ls 10 [(0, .ref (gad g 0 0)), (1, .ref (gad g 8 0)), (2, .int (x))] → W p l e rmA s m args below meth c0 H locs 0 0 Q (F0 m 338 ls [])) (k467 : ∀ off : Bool, (off = true ↔ (σ 16 c 2 = 1 ∧ 0 ≤ σ 16 c 3)) → 6 ≤ q → ∀ ls : Array Slot, lv_has ls 10 [(0, .ref (gad g 0 0)), (1, .ref (gad g 8 0)), (2, .int (x)), (3, .int (nI q)), (4, .int (nI c)), (5, .int (-3)), (6, .int (bI off)), (7, .int (-3))] → W p l e rmA s m args below meth c0 H locs 0 0 Q (F0 m 467 ls [])) : W p l e rmA s m args below meth c0 H locs 0 0 Q (F0 m 146 ls []) := by
  obtain ⟨hx, hb, hml, hown, hts, hbt⟩ := C
  have k1 := hts (.fieldLink RL 21 "TaxiRankLaw$Rank" "cabs" "[[I") (by decide +kernel)
  have k2 := hts (.fieldLink RL 30 "TaxiRankLaw$Rank" "all" "I") (by decide +kernel)
  refine lv_iload_n hx hb dL_act_146 rfl (lv_at hl 3 rfl) ?_
  refine lv_iconst (v := 5) hx hb dL_act_147 (by decide) ?_
  refine lv_icmp_ge (tgt := 333) hx hb dL_act_148 (by decide) (fun c_1 => ?_) (fun c_1 => ?_)
  · skip
    refine lv_iload_n hx hb dL_act_333 rfl (lv_at hl 3 rfl) ?_
    refine lv_iconst (v := 5) hx hb dL_act_334 (by decide) ?_
    refine lv_icmp_ne (tgt := 427) hx hb dL_act_335 (by decide) (fun c_2 => ?_) (fun c_2 => ?_)
    · skip
      refine lv_bipush (v := (-3)) hx hb dL_act_427 (by decide) ?_
      refine lv_istore (lv' := [(5, .int (-3)), (0, .ref (gad g 0 0)), (1, .ref (gad g 8 0)), (2, .int (x)), (3, .int (nI q)), (4, .int (nI c))]) hx hb dL_act_429 hl (by decide) rfl (fun ls hl => ?_)
      refine lv_aload_n hx hb dL_act_431 rfl (lv_at hl 2 rfl) ?_
      refine gx_get hx hb hown hZ hG 8 0 1 hR.k8 rfl (by decide) k1 (fun _ h => h) (v := .ref (gad g 10 0)) (grf_z (hR.rf (f := 1) (by decide))) dL_act_432 ?_
      refine lv_iload hx hb dL_act_435 (lv_at hl 5 rfl) ?_
      refine gx_rt hx hb hZ hG hR 10 c (by rfl) (by decide) (by decide) hcg (by decide) dL_act_437 ?_
      refine lv_iconst (v := 2) hx hb dL_act_438 (by decide) ?_
      refine gx_aldN hx hb hZ hG 16 c 2 (by rfl) (hR.rb 10 (by decide) (by decide) hcg) rfl rfl ⟨by rw [hR.ln 16 (by decide) (by decide) (hR.rb 10 (by decide) (by decide) hcg)]; decide, by decide⟩ (v := .int (σ 16 c 2)) rfl dL_act_439 ?_
      refine lv_iconst (v := 1) hx hb dL_act_440 (by decide) ?_
      refine lv_icmp_ne (tgt := 460) hx hb dL_act_441 (by decide) (fun c_3 => ?_) (fun c_3 => ?_)
      · skip
        refine lv_iconst (v := 0) hx hb dL_act_460 (by decide) ?_
        refine lv_istore (lv' := [(6, .int (0)), (5, .int (-3)), (0, .ref (gad g 0 0)), (1, .ref (gad g 8 0)), (2, .int (x)), (3, .int (nI q)), (4, .int (nI c))]) hx hb dL_act_461 hl (by decide) rfl (fun ls hl => ?_)
        refine lv_bipush (v := (-3)) hx hb dL_act_463 (by decide) ?_
        refine lv_istore (lv' := [(7, .int (-3)), (6, .int (0)), (5, .int (-3)), (0, .ref (gad g 0 0)), (1, .ref (gad g 8 0)), (2, .int (x)), (3, .int (nI q)), (4, .int (nI c))]) hx hb dL_act_465 hl (by decide) rfl (fun ls hl => ?_)
        exact k467 false ⟨fun z => (by cases z), fun z => absurd z.1 c_3⟩ (by have a1 := (nI_leI (a := 5) (by decide) (by omega)).mp c_1; have a2 : ¬ q = 5 := fun z => c_2 (by rw [z]; rfl); omega) ls (lv_sub hl [3, 4, 5, 6, 7, 2, 1, 0] rfl)
      · skip
        refine lv_aload_n hx hb dL_act_444 rfl (lv_at hl 2 rfl) ?_
        refine gx_get hx hb hown hZ hG 8 0 1 hR.k8 rfl (by decide) k1 (fun _ h => h) (v := .ref (gad g 10 0)) (grf_z (hR.rf (f := 1) (by decide))) dL_act_445 ?_
        refine lv_iload hx hb dL_act_448 (lv_at hl 5 rfl) ?_
        refine gx_rt hx hb hZ hG hR 10 c (by rfl) (by decide) (by decide) hcg (by decide) dL_act_450 ?_
        refine lv_iconst (v := 3) hx hb dL_act_451 (by decide) ?_
        refine gx_aldN hx hb hZ hG 16 c 3 (by rfl) (hR.rb 10 (by decide) (by decide) hcg) rfl rfl ⟨by rw [hR.ln 16 (by decide) (by decide) (hR.rb 10 (by decide) (by decide) hcg)]; decide, by decide⟩ (v := .int (σ 16 c 3)) rfl dL_act_452 ?_
        refine lv_if_lt (tgt := 460) hx hb dL_act_453 (by decide) (fun c_4 => ?_) (fun c_4 => ?_)
        · skip
          refine lv_iconst (v := 0) hx hb dL_act_460 (by decide) ?_
          refine lv_istore (lv' := [(6, .int (0)), (5, .int (-3)), (0, .ref (gad g 0 0)), (1, .ref (gad g 8 0)), (2, .int (x)), (3, .int (nI q)), (4, .int (nI c))]) hx hb dL_act_461 hl (by decide) rfl (fun ls hl => ?_)
          refine lv_bipush (v := (-3)) hx hb dL_act_463 (by decide) ?_
          refine lv_istore (lv' := [(7, .int (-3)), (6, .int (0)), (5, .int (-3)), (0, .ref (gad g 0 0)), (1, .ref (gad g 8 0)), (2, .int (x)), (3, .int (nI q)), (4, .int (nI c))]) hx hb dL_act_465 hl (by decide) rfl (fun ls hl => ?_)
          exact k467 false ⟨fun z => (by cases z), fun z => absurd z.2 (i0_lt.mp c_4)⟩ (by have a1 := (nI_leI (a := 5) (by decide) (by omega)).mp c_1; have a2 : ¬ q = 5 := fun z => c_2 (by rw [z]; rfl); omega) ls (lv_sub hl [3, 4, 5, 6, 7, 2, 1, 0] rfl)
        · skip
          refine lv_iconst (v := 1) hx hb dL_act_456 (by decide) ?_
          refine lv_goto (tgt := 461) hx hb dL_act_457 (by decide) ?_
          refine lv_istore (lv' := [(6, .int (1)), (5, .int (-3)), (0, .ref (gad g 0 0)), (1, .ref (gad g 8 0)), (2, .int (x)), (3, .int (nI q)), (4, .int (nI c))]) hx hb dL_act_461 hl (by decide) rfl (fun ls hl => ?_)
          refine lv_bipush (v := (-3)) hx hb dL_act_463 (by decide) ?_
          refine lv_istore (lv' := [(7, .int (-3)), (6, .int (1)), (5, .int (-3)), (0, .ref (gad g 0 0)), (1, .ref (gad g 8 0)), (2, .int (x)), (3, .int (nI q)), (4, .int (nI c))]) hx hb dL_act_465 hl (by decide) rfl (fun ls hl => ?_)
          exact k467 true ⟨fun _ => ⟨c_3, (by rcases Int32.lt_or_le (σ 16 c 3) 0 with z | z; exact absurd z c_4; exact z)⟩, fun _ => rfl⟩ (by have a1 := (nI_leI (a := 5) (by decide) (by omega)).mp c_1; have a2 : ¬ q = 5 := fun z => c_2 (by rw [z]; rfl); omega) ls (lv_sub hl [3, 4, 5, 6, 7, 2, 1, 0] rfl)
    · skip
      exact k338 ls (lv_sub hl [0, 1, 2] rfl)
  · skip
    refine lv_aload_n hx hb dL_act_151 rfl (lv_at hl 1 rfl) ?_
    refine gx_get hx hb hown hZ hG 8 0 7 hR.k8 rfl (by decide) k2 (fun _ h => h) (v := .int (nI (gcn g 17))) (congrArg Value.int hR.na) dL_act_152 ?_
    refine lv_bipush (v := 60) hx hb dL_act_155 (by decide) ?_
    refine lv_icmp_ge (tgt := 333) hx hb dL_act_157 (by decide) (fun c_5 => ?_) (fun c_5 => ?_)
    · skip
      exact absurd c_5 (nI_ge (b := 60) h60 (by decide))
    · skip
      exact k160 ls (lv_sub hl [0, 1, 2] rfl)
set_option maxHeartbeats 4000000 in
set_option maxRecDepth 100000 in
theorem act_disp2 (l : Launch) (hl0 : l.stackTraces = false) (C : AC p s m c0 args) (hZ : ZZ g s) (hG : GW g σ w H) (hS : va_S (gA g) s.heap H locs) (hR : Rr g σ) {x : Int32} {q c : Nat} {off : Bool} (hcg : c < gcn g 16) (hq16 : q < 16) (hl : lv_has ls 10 [(0, .ref (gad g 0 0)), (1, .ref (gad g 8 0)), (2, .int (x)), (3, .int (nI q)), (4, .int (nI c)), (5, .int (-3)), (6, .int (bI off)), (7, .int (-3))]) (k496 : q < 8 → (σ 16 c 2 = 0 ∨ ¬ xBl (x >>> (9 &&& 31)) 3 ≤ 0) → W p l e rmA s m args below meth c0 H locs 0 0 Q (F0 m 496 ls []))(k509 : q < 8 → ¬ σ 16 c 2 = 0 → xBl (x >>> (9 &&& 31)) 3 ≤ 0 → W p l e rmA s m args below meth c0 H locs 0 0 Q (F0 m 509 ls []))(k530 : 8 ≤ q → q < 11 → W p l e rmA s m args below meth c0 H locs 0 0 Q (F0 m 530 ls []))(k551 : q = 11 → W p l e rmA s m args below meth c0 H locs 0 0 Q (F0 m 551 ls []))(k572 : q = 12 → W p l e rmA s m args below meth c0 H locs 0 0 Q (F0 m 572 ls []))(k607 : 13 ≤ q → W p l e rmA s m args below meth c0 H locs 0 0 Q (F0 m 607 ls [])) : W p l e rmA s m args below meth c0 H locs 0 0 Q (F0 m 467 ls []) := by
  obtain ⟨hx, hb, hml, hown, hts, hbt⟩ := C
  have k1 := hts (.fieldLink RL 21 "TaxiRankLaw$Rank" "cabs" "[[I") (by decide +kernel)
  refine lv_iload_n hx hb dL_act_467 rfl (lv_at hl 3 rfl) ?_
  refine lv_bipush (v := 8) hx hb dL_act_468 (by decide) ?_
  refine lv_icmp_ge (tgt := 524) hx hb dL_act_470 (by decide) (fun c_1 => ?_) (fun c_1 => ?_)
  · skip
    refine lv_iload_n hx hb dL_act_524 rfl (lv_at hl 3 rfl) ?_
    refine lv_bipush (v := 11) hx hb dL_act_525 (by decide) ?_
    refine lv_icmp_ge (tgt := 545) hx hb dL_act_527 (by decide) (fun c_2 => ?_) (fun c_2 => ?_)
    · skip
      refine lv_iload_n hx hb dL_act_545 rfl (lv_at hl 3 rfl) ?_
      refine lv_bipush (v := 11) hx hb dL_act_546 (by decide) ?_
      refine lv_icmp_ne (tgt := 566) hx hb dL_act_548 (by decide) (fun c_3 => ?_) (fun c_3 => ?_)
      · skip
        refine lv_iload_n hx hb dL_act_566 rfl (lv_at hl 3 rfl) ?_
        refine lv_bipush (v := 12) hx hb dL_act_567 (by decide) ?_
        refine lv_icmp_ne (tgt := 607) hx hb dL_act_569 (by decide) (fun c_4 => ?_) (fun c_4 => ?_)
        · skip
          exact k607 (by have a1 := ((nI_leI (a := 11) (by decide) (by omega)).mp c_2); have a2 : ¬ q = 11 := fun z => c_3 (by rw [z]; rfl); have a3 : ¬ q = 12 := fun z => c_4 (by rw [z]; rfl); omega)
        · skip
          exact k572 (nI_inj (b := 12) (by omega) (by decide) c_4)
      · skip
        exact k551 (nI_inj (b := 11) (by omega) (by decide) c_3)
    · skip
      exact k530 ((nI_leI (a := 8) (by decide) (by omega)).mp c_1) (by rcases Nat.lt_or_ge q 11 with z | z; exact z; exact absurd (nI_le (a := 11) z (by omega)) c_2)
  · skip
    refine lv_aload_n hx hb dL_act_473 rfl (lv_at hl 1 rfl) ?_
    refine gx_get hx hb hown hZ hG 8 0 1 hR.k8 rfl (by decide) k1 (fun _ h => h) (v := .ref (gad g 10 0)) (grf_z (hR.rf (f := 1) (by decide))) dL_act_474 ?_
    refine lv_iload hx hb dL_act_477 (lv_at hl 4 rfl) ?_
    refine gx_rt hx hb hZ hG hR 10 c (by rfl) (by decide) (by decide) hcg (by decide) dL_act_479 ?_
    refine lv_iconst (v := 2) hx hb dL_act_480 (by decide) ?_
    refine gx_aldN hx hb hZ hG 16 c 2 (by rfl) (hR.rb 10 (by decide) (by decide) hcg) rfl rfl ⟨by rw [hR.ln 16 (by decide) (by decide) (hR.rb 10 (by decide) (by decide) hcg)]; decide, by decide⟩ (v := .int (σ 16 c 2)) rfl dL_act_481 ?_
    refine lv_if_eq (tgt := 496) hx hb dL_act_482 (by decide) (fun c_5 => ?_) (fun c_5 => ?_)
    · skip
      exact k496 (by rcases Nat.lt_or_ge q 8 with z | z; exact z; exact absurd (nI_le (a := 8) z (by omega)) c_1) (Or.inl c_5)
    · skip
      refine lv_iload_n hx hb dL_act_485 rfl (lv_at hl 2 rfl) ?_
      refine lv_bipush (v := 9) hx hb dL_act_486 (by decide) ?_
      refine lv_ishr hx hb dL_act_488 ?_
      refine lv_iconst (v := 3) hx hb dL_act_489 (by decide) ?_
      refine gx_cR (gx_runS (As := [.int (x >>> (9 &&& 31)), .int (3)]) (rest := []) ⟨hx, hb, hml, hown, hts⟩ (c_L_below l g σ w (x >>> (9 &&& 31)) 3 (by decide)) (va_cwS 2 hts gL_act_L_below rfl rfl rfl (by decide +kernel) ⟨Nat.le_of_ble_eq_true rfl, Nat.le_of_ble_eq_true rfl⟩) hZ hG hS rfl hl.1 rfl (Nat.le_of_ble_eq_true rfl) dL_act_490 ⟨Nat.le_of_ble_eq_true rfl, Nat.le_of_ble_eq_true rfl⟩) ?_
      refine lv_if_le (tgt := 509) hx hb dL_act_493 (by decide) (fun c_6 => ?_) (fun c_6 => ?_)
      · skip
        exact k509 (by rcases Nat.lt_or_ge q 8 with z | z; exact z; exact absurd (nI_le (a := 8) z (by omega)) c_1) c_5 c_6
      · skip
        exact k496 (by rcases Nat.lt_or_ge q 8 with z | z; exact z; exact absurd (nI_le (a := 8) z (by omega)) c_1) (Or.inr c_6)
set_option maxHeartbeats 4000000 in
set_option maxRecDepth 100000 in
theorem act_setWay (l : Launch) (hl0 : l.stackTraces = false) (C : AC p s m c0 args) (hZ : ZZ g s) (hG : GW g σ w H) (hS : va_S (gA g) s.heap H locs) {x : Int32} {a b j i : Nat} (hX : Xok g σ) (ha : a < 4) (hb4 : b < 4) (hba : xBl (x >>> (4 &&& 31)) 4 = nI a) (hbj : xBl (x >>> (6 &&& 31)) 3 = nI j) (hbb : nI (a + 1 + j) - nI (a + 1 + j) / 4 * 4 = nI b) (hbi : xBl (x >>> (3 &&& 31)) 30 = nI i) (e1 : xSetWay σ (nI a) (nI b) (nI (1 + i)) = σ1) (hE0 : xSetWayE (nI a) (nI b) (nI (1 + i)) = 0) (hR : Rr g σ1) (hval : xWay σ (nI a) (nI b) = σ1 15 a b) (hL : LI g hs t B (gst (gst σ1 15 a b (nI (1 + i))) 15 b a (nI (1 + i)))) (h20 : ∀ k i_1 f, 20 < k → gst (gst σ1 15 a b (nI (1 + i))) 15 b a (nI (1 + i)) k i_1 f = σ k i_1 f) (hO : nO (gst (gst σ1 15 a b (nI (1 + i))) 15 b a (nI (1 + i))) = nO σ) (hl : lv_has ls 10 [(0, .ref (gad g 0 0)), (1, .ref (gad g 8 0)), (2, .int (x))]) (kk : AE p l e s m args below meth c0 Q g hs t B σ w) : W p l e rmA s m args below meth c0 H locs 0 0 Q (F0 m 338 ls []) := by
  obtain ⟨hx, hb, hml, hown, hts, hbt⟩ := C
  have k1 := hts (.fieldLink RL 50 "TaxiRankLaw$Rank" "ways" "[[I") (by decide +kernel)
  refine lv_iload_n hx hb dL_act_338 rfl (lv_at hl 2 rfl) ?_
  refine lv_iconst (v := 4) hx hb dL_act_339 (by decide) ?_
  refine lv_ishr hx hb dL_act_340 ?_
  refine lv_iconst (v := 4) hx hb dL_act_341 (by decide) ?_
  refine gx_cR (gx_runS (As := [.int (x >>> (4 &&& 31)), .int (4)]) (rest := []) ⟨hx, hb, hml, hown, hts⟩ (c_L_below l g σ w (x >>> (4 &&& 31)) 4 (by decide)) (va_cwS 2 hts gL_act_L_below rfl rfl rfl (by decide +kernel) ⟨Nat.le_of_ble_eq_true rfl, Nat.le_of_ble_eq_true rfl⟩) hZ hG hS rfl hl.1 rfl (Nat.le_of_ble_eq_true rfl) dL_act_342 ⟨Nat.le_of_ble_eq_true rfl, Nat.le_of_ble_eq_true rfl⟩) ?_
  refine gx_topN (y := nI a) hba ?_
  refine lv_istore (lv' := [(5, .int (nI a)), (0, .ref (gad g 0 0)), (1, .ref (gad g 8 0)), (2, .int (x))]) hx hb dL_act_345 hl (by decide) rfl (fun ls hl => ?_)
  refine lv_iload hx hb dL_act_347 (lv_at hl 0 rfl) ?_
  refine lv_iconst (v := 1) hx hb dL_act_349 (by decide) ?_
  refine lv_iadd hx hb dL_act_350 ?_
  refine gx_topN (y := nI (a + 1)) (by rw [show (1 : Int32) = nI 1 from rfl, nI_add]) ?_
  refine lv_iload_n hx hb dL_act_351 rfl (lv_at hl 3 rfl) ?_
  refine lv_bipush (v := 6) hx hb dL_act_352 (by decide) ?_
  refine lv_ishr hx hb dL_act_354 ?_
  refine lv_iconst (v := 3) hx hb dL_act_355 (by decide) ?_
  refine gx_cR (gx_runS (As := [.int (x >>> (6 &&& 31)), .int (3)]) (rest := [.int (nI (a + 1))]) ⟨hx, hb, hml, hown, hts⟩ (c_L_below l g σ w (x >>> (6 &&& 31)) 3 (by decide)) (va_cwS 2 hts gL_act_L_below rfl rfl rfl (by decide +kernel) ⟨Nat.le_of_ble_eq_true rfl, Nat.le_of_ble_eq_true rfl⟩) hZ hG hS rfl hl.1 rfl (Nat.le_of_ble_eq_true rfl) dL_act_356 ⟨Nat.le_of_ble_eq_true rfl, Nat.le_of_ble_eq_true rfl⟩) ?_
  refine gx_topN (y := nI j) hbj ?_
  refine lv_iadd hx hb dL_act_359 ?_
  refine gx_topN (y := nI ((a + 1) + j)) (by rw [nI_add]) ?_
  refine lv_iconst (v := 4) hx hb dL_act_360 (by decide) ?_
  refine lv_irem hx hb dL_act_361 (by decide) ?_
  refine gx_topN (y := nI b) hbb ?_
  refine lv_istore (lv' := [(6, .int (nI b)), (5, .int (nI a)), (0, .ref (gad g 0 0)), (1, .ref (gad g 8 0)), (2, .int (x))]) hx hb dL_act_362 hl (by decide) rfl (fun ls hl => ?_)
  refine lv_iconst (v := 1) hx hb dL_act_364 (by decide) ?_
  refine lv_iload_n hx hb dL_act_365 rfl (lv_at hl 4 rfl) ?_
  refine lv_iconst (v := 3) hx hb dL_act_366 (by decide) ?_
  refine lv_ishr hx hb dL_act_367 ?_
  refine lv_bipush (v := 30) hx hb dL_act_368 (by decide) ?_
  refine gx_cR (gx_runS (As := [.int (x >>> (3 &&& 31)), .int (30)]) (rest := [.int (1)]) ⟨hx, hb, hml, hown, hts⟩ (c_L_below l g σ w (x >>> (3 &&& 31)) 30 (by decide)) (va_cwS 2 hts gL_act_L_below rfl rfl rfl (by decide +kernel) ⟨Nat.le_of_ble_eq_true rfl, Nat.le_of_ble_eq_true rfl⟩) hZ hG hS rfl hl.1 rfl (Nat.le_of_ble_eq_true rfl) dL_act_370 ⟨Nat.le_of_ble_eq_true rfl, Nat.le_of_ble_eq_true rfl⟩) ?_
  refine gx_topN (y := nI i) hbi ?_
  refine lv_iadd hx hb dL_act_373 ?_
  refine gx_topN (y := nI (1 + i)) (by rw [show (1 : Int32) = nI 1 from rfl, nI_add]) ?_
  refine lv_istore (lv' := [(7, .int (nI (1 + i))), (6, .int (nI b)), (5, .int (nI a)), (0, .ref (gad g 0 0)), (1, .ref (gad g 8 0)), (2, .int (x))]) hx hb dL_act_374 hl (by decide) rfl (fun ls hl => ?_)
  refine lv_aload_n hx hb dL_act_376 rfl (lv_at hl 3 rfl) ?_
  refine lv_iload hx hb dL_act_377 (lv_at hl 2 rfl) ?_
  refine lv_iload hx hb dL_act_379 (lv_at hl 1 rfl) ?_
  refine lv_iload hx hb dL_act_381 (lv_at hl 0 rfl) ?_
  refine gx_cMx (gx_xrunV (As := [.int (nI a), .int (nI b), .int (nI (1 + i))]) (rest := []) ⟨hx, hb, hml, hown, hts⟩ (c_X2_setWay l hl0 g σ w (nI a) (nI b) (nI (1 + i)) hX) (cwV 3 hts gL_act_X2_setWay rfl rfl rfl (by decide +kernel) ⟨Nat.le_of_ble_eq_true rfl, Nat.le_of_ble_eq_true rfl⟩) (gx_obj hZ hG 0 0 hX.k0 rfl) hZ hG hS rfl hl.1 rfl (Nat.le_of_ble_eq_true rfl) dL_act_383 ⟨Nat.le_of_ble_eq_true rfl, Nat.le_of_ble_eq_true rfl⟩) hG hS (fun E ce q9 H1 locs1 hPE hG hS hz1 hk1 hce hcv hcl => ?_) (fun H locs hD hG hS hsz => ?_)
  · rcases hPE with ⟨-, hE⟩ | ⟨-, hE⟩ <;> exact absurd (hE.symm.trans hE0) (by decide)
  rw [e1] at hG
  refine gx_topN (y := σ1 15 a b) hval ?_
  refine lv_aload_n hx hb dL_act_386 rfl (lv_at hl 4 rfl) ?_
  refine gx_get hx hb hown hZ hG 8 0 0 hR.k8 rfl (by decide) k1 (fun _ h => h) (v := .ref (gad g 9 0)) (grf_z (hR.rf (f := 0) (by decide))) dL_act_387 ?_
  refine lv_iload hx hb dL_act_390 (lv_at hl 2 rfl) ?_
  refine gx_rt hx hb hZ hG hR 9 a (by rfl) (by decide) (by decide) (show a < 6 by omega) (by decide) dL_act_392 ?_
  refine lv_iload hx hb dL_act_393 (lv_at hl 1 rfl) ?_
  refine gx_aldN hx hb hZ hG 15 a b (by rfl) (hR.rb 9 (by decide) (by decide) (show a < 6 by omega)) rfl rfl ⟨by rw [hR.ln 15 (by decide) (by decide) (hR.rb 9 (by decide) (by decide) (show a < 6 by omega))]; show b < 6; omega, by omega⟩ (v := .int (σ1 15 a b)) rfl dL_act_395 ?_
  refine lv_icmp_eq (tgt := 401) hx hb dL_act_396 (by decide) (fun c_1 => ?_) (fun c_1 => ?_)
  · skip
    refine lv_aload_n hx hb dL_act_401 rfl (lv_at hl 4 rfl) ?_
    refine gx_get hx hb hown hZ hG 8 0 0 hR.k8 rfl (by decide) k1 (fun _ h => h) (v := .ref (gad g 9 0)) (grf_z (hR.rf (f := 0) (by decide))) dL_act_402 ?_
    refine lv_iload hx hb dL_act_405 (lv_at hl 2 rfl) ?_
    refine gx_rt hx hb hZ hG hR 9 a (by rfl) (by decide) (by decide) (show a < 6 by omega) (by decide) dL_act_407 ?_
    refine lv_iload hx hb dL_act_408 (lv_at hl 1 rfl) ?_
    refine lv_iload hx hb dL_act_410 (lv_at hl 0 rfl) ?_
    refine gx_astN hx hb hZ hG hS 15 a b (by rfl) (hR.rb 9 (by decide) (by decide) (show a < 6 by omega)) rfl rfl ⟨by rw [hR.ln 15 (by decide) (by decide) (hR.rb 9 (by decide) (by decide) (show a < 6 by omega))]; show b < 6; omega, by omega⟩ rfl trivial dL_act_412 (fun H locs hG hS => ?_)
    have hR := hR.st (k := 15) (i := a) (f := b) (v := nI (1 + i)) (by decide)
    refine lv_aload_n hx hb dL_act_413 rfl (lv_at hl 4 rfl) ?_
    refine gx_get hx hb hown hZ hG 8 0 0 hR.k8 rfl (by decide) k1 (fun _ h => h) (v := .ref (gad g 9 0)) (grf_z (hR.rf (f := 0) (by decide))) dL_act_414 ?_
    refine lv_iload hx hb dL_act_417 (lv_at hl 1 rfl) ?_
    refine gx_rt hx hb hZ hG hR 9 b (by rfl) (by decide) (by decide) (show b < 6 by omega) (by decide) dL_act_419 ?_
    refine lv_iload hx hb dL_act_420 (lv_at hl 2 rfl) ?_
    refine lv_iload hx hb dL_act_422 (lv_at hl 0 rfl) ?_
    refine gx_astN hx hb hZ hG hS 15 b a (by rfl) (hR.rb 9 (by decide) (by decide) (show b < 6 by omega)) rfl rfl ⟨by rw [hR.ln 15 (by decide) (by decide) (hR.rb 9 (by decide) (by decide) (show b < 6 by omega))]; show a < 6; omega, by omega⟩ rfl trivial dL_act_424 (fun H locs hG hS => ?_)
    have hR := hR.st (k := 15) (i := b) (f := a) (v := nI (1 + i)) (by decide)
    refine lv_iconst (v := 1) hx hb dL_act_425 (by decide) ?_
    refine W.widen (k := 8) (n := 300) (by decide) (by decide) ?_
    exact kk g _ t B _ _ ls 426 dL_act_426 (gSm.rf g) hL ⟨Nat.le_refl _, by omega, by omega⟩ (by omega) h20 hG hS
  · skip
    exact absurd rfl c_1
end ACT
