/-! the law's act: its room, what it stands on, where it ends -/
def rmA : Room := { frames := 8, cells := 8, slots := 300, locals := 215 }
def AC (p : Program) (s : State) (m : MethodId) (c0 : Code) (args : Array Value) : Prop := p.tables.exec = Jvm.exec ∧ c0.code = cL_act ∧ c0.maxLocals = 10 ∧ s.vm.findClass RL = some m.cls ∧ (∀ w ∈ wsL_act, w.before args s = true) ∧ c0.exceptionTable.toList = tableOf [(467, 627, 630, 72)]
def AE (p : Program) (l : Launch) (e : Env) (s : State) (m : MethodId) (args : Array Value) (below : List Frame) (meth : Method) (c0 : Code) (Q : State → Prop) (g : gG) (hs : Nat → Nat × Bool) (t B : Nat) (σ : Mem) (w : Int64) : Prop :=
  ∀ (g' : gG) (σ' : Mem) (t' B' : Nat) (H' : Heap) (locs' : List Loc) (ls' : Array Slot) (pc : Nat), decode cL_act pc = .ok (.ireturn, 1) → gSm g g' → LI g' hs t' B' σ' → (t ≤ t' ∧ t' ≤ t + 12 ∧ B' ≤ B + 300) → nO σ' ≤ nO σ + 1 → (∀ k i f, 20 < k → σ' k i f = σ k i f) → GW g' σ' w H' → va_S (gA g) s.heap H' locs' → W p l e rmA s m args below meth c0 H' locs' 8 300 Q (F0 m pc ls' [.int 1])
section ACT
variable {p : Program} {e : Env} {s : State} {m : MethodId} {args : Array Value} {below : List Frame} {meth : Method} {c0 : Code} {H : Heap} {locs : List Loc} {Q : State → Prop} {ls : Array Slot} {g : gG} {σ σ1 τ : Mem} {w : Int64} {hs : Nat → Nat × Bool} {t B t1 B1 : Nat}
set_option maxHeartbeats 4000000 in
set_option maxRecDepth 100000 in
theorem act_end (l : Launch) (hl0 : l.stackTraces = false) (C : AC p s m c0 args) (hZ : ZZ g s) (hG : GW g τ w H) (hS : va_S (gA g) s.heap H locs) (hA : AO g hs t1 B1 σ τ) (ht : t ≤ t1 ∧ t1 ≤ t + 12 ∧ B1 ≤ B + 300) {v5 v7 : Int32} (hv : v5 = v7) (hl : lv_has ls 10 [(1, .ref (gad g 8 0)), (5, .int (v5)), (7, .int (v7))]) (kk : AE p l e s m args below meth c0 Q g hs t B σ w) : W p l e rmA s m args below meth c0 H locs 4 20 Q (F0 m 968 ls []) := by
  obtain ⟨hx, hb, hml, hown, hts, hbt⟩ := C
  obtain ⟨N, hN, hE, hQ, ha, hR, hL, h20, hO⟩ := hA
  refine lv_aload_n hx hb dL_act_968 rfl (lv_at hl 0 rfl) ?_
  refine gx_cM (gx_runV (As := []) (rest := []) ⟨hx, hb, hml, hown, hts⟩ (c_X3_offer l g τ w N hR hQ ha hN hE) (cwV 0 hts gL_act_X3_offer rfl rfl rfl (by decide +kernel) ⟨Nat.le_of_ble_eq_true rfl, Nat.le_of_ble_eq_true rfl⟩) (gx_obj hZ hG 8 0 hR.k8 rfl) hZ hG hS rfl hl.1 rfl (Nat.le_of_ble_eq_true rfl) dL_act_969 ⟨Nat.le_of_ble_eq_true rfl, Nat.le_of_ble_eq_true rfl⟩) hS (fun H locs hG hS hsz => ?_)
  refine lv_iload hx hb dL_act_972 (lv_at hl 1 rfl) ?_
  refine lv_iload hx hb dL_act_974 (lv_at hl 2 rfl) ?_
  refine lv_icmp_ne (tgt := 983) hx hb dL_act_976 (by decide) (fun c_1 => ?_) (fun c_1 => ?_)
  · skip
    exact absurd hv c_1
  · skip
    refine lv_iconst (v := 1) hx hb dL_act_979 (by decide) ?_
    refine lv_goto (tgt := 984) hx hb dL_act_980 (by decide) ?_
    refine W.widen (k := 8) (n := 300) (by decide) (by decide) ?_
    exact kk g _ _ _ _ _ ls 984 dL_act_984 (gSm.rf g) hL ht hO h20 hG hS
set_option maxHeartbeats 4000000 in
set_option maxRecDepth 100000 in
theorem act_start_ok (l : Launch) (hl0 : l.stackTraces = false) (C : AC p s m c0 args) (hZ : ZZ g s) (hG : GW g σ w H) (hS : va_S (gA g) s.heap H locs) {x : Int32} {q c : Nat} {off : Bool} (hB1 : B1 ≤ B + 300) (hX : Xok g σ) (hcg : c < gcn g 16) (hq : q < 8) (e1 : xStart σ (nI c) = σ1) (hE0 : xStartE σ (nI c) = 0) (hR : Rr g σ1) {z : Nat} (hz : z < 6) (e2 : σ1 16 c 2 = 0) (ez : σ1 16 c 1 = nI z) (hqz : σ1 18 z 0 = nI (rQn σ1 z)) (hqn : rQn σ1 z ≤ 9) (hA : AO g hs t B1 σ (rJoin (gst σ1 16 c 2 1) z c)) (hval : xPlace σ1 (ix (nI c)) = nI (rQn σ1 z)) (hl : lv_has ls 10 [(0, .ref (gad g 0 0)), (1, .ref (gad g 8 0)), (2, .int (x)), (3, .int (nI q)), (4, .int (nI c)), (5, .int (-3)), (6, .int (bI off)), (7, .int (-3))]) (kk : AE p l e s m args below meth c0 Q g hs t B σ w) : W p l e rmA s m args below meth c0 H locs 0 0 Q (F0 m 496 ls []) := by
  obtain ⟨hx, hb, hml, hown, hts, hbt⟩ := C
  have k1 := hts (.fieldLink RL 21 "TaxiRankLaw$Rank" "cabs" "[[I") (by decide +kernel)
  refine lv_aload_n hx hb dL_act_496 rfl (lv_at hl 0 rfl) ?_
  refine lv_iload hx hb dL_act_497 (lv_at hl 4 rfl) ?_
  refine gx_cMx (gx_xrunV (As := [.int (nI c)]) (rest := []) ⟨hx, hb, hml, hown, hts⟩ (c_X2_start l hl0 g σ w (nI c) hX) (cwV 1 hts gL_act_X2_start rfl rfl rfl (by decide +kernel) ⟨Nat.le_of_ble_eq_true rfl, Nat.le_of_ble_eq_true rfl⟩) (gx_obj hZ hG 0 0 hX.k0 rfl) hZ hG hS rfl hl.1 rfl (Nat.le_of_ble_eq_true rfl) dL_act_499 ⟨Nat.le_of_ble_eq_true rfl, Nat.le_of_ble_eq_true rfl⟩) hG hS (fun E ce q9 H1 locs1 hPE hG hS hz1 hk1 hce hcv hcl => ?_) (fun H locs hD hG hS hsz => ?_)
  · rcases hPE with ⟨-, hE⟩ | ⟨-, hE⟩ <;> exact absurd (hE.symm.trans hE0) (by decide)
  rw [e1] at hG
  refine gx_topN (y := nI (rQn σ1 z)) (by rw [e1]; exact hval) ?_
  refine lv_sipush (v := 1000) hx hb dL_act_502 (by decide) ?_
  refine lv_iadd hx hb dL_act_505 ?_
  refine gx_topN (y := nI ((rQn σ1 z) + 1000)) (by rw [show (1000 : Int32) = nI 1000 from rfl, nI_add]) ?_
  refine lv_goto (tgt := 519) hx hb dL_act_506 (by decide) ?_
  refine lv_istore (lv' := [(5, .int (nI ((rQn σ1 z) + 1000))), (0, .ref (gad g 0 0)), (1, .ref (gad g 8 0)), (2, .int (x)), (3, .int (nI q)), (4, .int (nI c)), (6, .int (bI off)), (7, .int (-3))]) hx hb dL_act_519 hl (by decide) rfl (fun ls hl => ?_)
  refine lv_goto (tgt := 627) hx hb dL_act_521 (by decide) ?_
  refine lv_goto (tgt := 636) hx hb dL_act_627 (by decide) ?_
  refine lv_iload_n hx hb dL_act_636 rfl (lv_at hl 4 rfl) ?_
  refine lv_bipush (v := 8) hx hb dL_act_637 (by decide) ?_
  refine lv_icmp_ge (tgt := 795) hx hb dL_act_639 (by decide) (fun c_1 => ?_) (fun c_1 => ?_)
  · skip
    exact absurd c_1 (show ¬ (8 : Int32) ≤ nI q from nI_ge (b := 8) hq (by decide))
  · skip
    refine lv_aload_n hx hb dL_act_642 rfl (lv_at hl 2 rfl) ?_
    refine gx_get hx hb hown hZ hG 8 0 1 hR.k8 rfl (by decide) k1 (fun _ h => h) (v := .ref (gad g 10 0)) (grf_z (hR.rf (f := 1) (by decide))) dL_act_643 ?_
    refine lv_iload hx hb dL_act_646 (lv_at hl 5 rfl) ?_
    refine gx_rt hx hb hZ hG hR 10 c (by rfl) (by decide) (by decide) hcg (by decide) dL_act_648 ?_
    refine lv_iconst (v := 2) hx hb dL_act_649 (by decide) ?_
    refine gx_aldN hx hb hZ hG 16 c 2 (by rfl) (hR.rb 10 (by decide) (by decide) hcg) rfl rfl ⟨by rw [hR.ln 16 (by decide) (by decide) (hR.rb 10 (by decide) (by decide) hcg)]; decide, by decide⟩ (v := .int (σ1 16 c 2)) rfl dL_act_650 ?_
    refine lv_if_eq (tgt := 665) hx hb dL_act_651 (by decide) (fun c_2 => ?_) (fun c_2 => ?_)
    · skip
      refine lv_iconst (v := 1) hx hb dL_act_665 (by decide) ?_
      refine lv_goto (tgt := 670) hx hb dL_act_666 (by decide) ?_
      refine lv_istore (lv' := [(8, .int (1)), (5, .int (nI ((rQn σ1 z) + 1000))), (0, .ref (gad g 0 0)), (1, .ref (gad g 8 0)), (2, .int (x)), (3, .int (nI q)), (4, .int (nI c)), (6, .int (bI off)), (7, .int (-3))]) hx hb dL_act_670 hl (by decide) rfl (fun ls hl => ?_)
      refine lv_iload hx hb dL_act_672 (lv_at hl 0 rfl) ?_
      refine lv_if_eq (tgt := 723) hx hb dL_act_674 (by decide) (fun c_3 => ?_) (fun c_3 => ?_)
      · skip
        exact absurd c_3 (by decide)
      · skip
        refine lv_aload_n hx hb dL_act_677 rfl (lv_at hl 3 rfl) ?_
        refine gx_get hx hb hown hZ hG 8 0 1 hR.k8 rfl (by decide) k1 (fun _ h => h) (v := .ref (gad g 10 0)) (grf_z (hR.rf (f := 1) (by decide))) dL_act_678 ?_
        refine lv_iload hx hb dL_act_681 (lv_at hl 6 rfl) ?_
        refine gx_rt hx hb hZ hG hR 10 c (by rfl) (by decide) (by decide) hcg (by decide) dL_act_683 ?_
        refine lv_iconst (v := 2) hx hb dL_act_684 (by decide) ?_
        refine gx_aldN hx hb hZ hG 16 c 2 (by rfl) (hR.rb 10 (by decide) (by decide) hcg) rfl rfl ⟨by rw [hR.ln 16 (by decide) (by decide) (hR.rb 10 (by decide) (by decide) hcg)]; decide, by decide⟩ (v := .int (σ1 16 c 2)) rfl dL_act_685 ?_
        refine lv_if_ne (tgt := 723) hx hb dL_act_686 (by decide) (fun c_4 => ?_) (fun c_4 => ?_)
        · skip
          exact absurd e2 c_4
        · skip
          refine lv_aload_n hx hb dL_act_689 rfl (lv_at hl 3 rfl) ?_
          refine gx_get hx hb hown hZ hG 8 0 1 hR.k8 rfl (by decide) k1 (fun _ h => h) (v := .ref (gad g 10 0)) (grf_z (hR.rf (f := 1) (by decide))) dL_act_690 ?_
          refine lv_iload hx hb dL_act_693 (lv_at hl 6 rfl) ?_
          refine gx_rt hx hb hZ hG hR 10 c (by rfl) (by decide) (by decide) hcg (by decide) dL_act_695 ?_
          refine lv_iconst (v := 2) hx hb dL_act_696 (by decide) ?_
          refine lv_iconst (v := 1) hx hb dL_act_697 (by decide) ?_
          refine gx_astN hx hb hZ hG hS 16 c 2 (by rfl) (hR.rb 10 (by decide) (by decide) hcg) rfl rfl ⟨by rw [hR.ln 16 (by decide) (by decide) (hR.rb 10 (by decide) (by decide) hcg)]; decide, by decide⟩ rfl trivial dL_act_698 (fun H locs hG hS => ?_)
          have hR := hR.st (k := 16) (i := c) (f := 2) (v := 1) (by decide)
          refine lv_sipush (v := 1000) hx hb dL_act_699 (by decide) ?_
          refine lv_aload_n hx hb dL_act_702 rfl (lv_at hl 3 rfl) ?_
          refine lv_aload_n hx hb dL_act_703 rfl (lv_at hl 3 rfl) ?_
          refine gx_get hx hb hown hZ hG 8 0 1 hR.k8 rfl (by decide) k1 (fun _ h => h) (v := .ref (gad g 10 0)) (grf_z (hR.rf (f := 1) (by decide))) dL_act_704 ?_
          refine lv_iload hx hb dL_act_707 (lv_at hl 6 rfl) ?_
          refine gx_rt hx hb hZ hG hR 10 c (by rfl) (by decide) (by decide) hcg (by decide) dL_act_709 ?_
          refine lv_iconst (v := 1) hx hb dL_act_710 (by decide) ?_
          refine gx_aldN hx hb hZ hG 16 c 1 (by rfl) (hR.rb 10 (by decide) (by decide) hcg) rfl rfl ⟨by rw [hR.ln 16 (by decide) (by decide) (hR.rb 10 (by decide) (by decide) hcg)]; decide, by decide⟩ (v := .int (nI z)) (congrArg Value.int (by simp [gst_app, ez])) dL_act_711 ?_
          refine lv_iload hx hb dL_act_712 (lv_at hl 6 rfl) ?_
          refine gx_cM (gx_runV (As := [.int (nI z), .int (nI c)]) (rest := [.int (1000)]) ⟨hx, hb, hml, hown, hts⟩ (c_X3_join l g (gst σ1 16 c 2 1) w z c hR hz (show _ = nI (rQn σ1 z) from hqz) (show rQn σ1 z ≤ 9 from hqn)) (cwV 2 hts gL_act_X3_join rfl rfl rfl (by decide +kernel) ⟨Nat.le_of_ble_eq_true rfl, Nat.le_of_ble_eq_true rfl⟩) (gx_obj hZ hG 8 0 hR.k8 rfl) hZ hG hS rfl hl.1 rfl (Nat.le_of_ble_eq_true rfl) dL_act_714 ⟨Nat.le_of_ble_eq_true rfl, Nat.le_of_ble_eq_true rfl⟩) hS (fun H locs hG hS hsz => ?_)
          refine gx_topN (y := nI (rQn σ1 z)) rfl ?_
          refine lv_iadd hx hb dL_act_717 ?_
          refine gx_topN (y := nI (1000 + (rQn σ1 z))) (by rw [show (1000 : Int32) = nI 1000 from rfl, nI_add]) ?_
          refine lv_istore (lv' := [(7, .int (nI (1000 + (rQn σ1 z)))), (8, .int (1)), (5, .int (nI ((rQn σ1 z) + 1000))), (0, .ref (gad g 0 0)), (1, .ref (gad g 8 0)), (2, .int (x)), (3, .int (nI q)), (4, .int (nI c)), (6, .int (bI off))]) hx hb dL_act_718 hl (by decide) rfl (fun ls hl => ?_)
          refine lv_goto (tgt := 792) hx hb dL_act_720 (by decide) ?_
          refine lv_goto (tgt := 968) hx hb dL_act_792 (by decide) ?_
          refine W.widen (k := 4) (n := 20) (by decide) (by decide) ?_
          exact act_end l hl0 ⟨hx, hb, hml, hown, hts, hbt⟩ hZ hG hS hA ⟨Nat.le_refl _, by omega, hB1⟩ (congrArg nI (Nat.add_comm _ _)) (lv_sub hl [4, 2, 0] rfl) kk
    · skip
      exact absurd e2 c_2
set_option maxHeartbeats 4000000 in
set_option maxRecDepth 100000 in
theorem act_start_thr (l : Launch) (hl0 : l.stackTraces = false) (C : AC p s m c0 args) (hZ : ZZ g s) (hG : GW g σ w H) (hS : va_S (gA g) s.heap H locs) {x : Int32} {q c : Nat} {off : Bool} (hB1 : B1 ≤ B + 300) (hX : Xok g σ) (hcg : c < gcn g 16) (hq : q < 8) (hE2 : xStartE σ (nI c) = 2) (hR : Rr g σ) (e2 : ¬ σ 16 c 2 = 0) (hbl : ¬ xBl (x >>> (9 &&& 31)) 3 ≤ 0) (hA : AO g hs t B1 σ σ) (hl : lv_has ls 10 [(0, .ref (gad g 0 0)), (1, .ref (gad g 8 0)), (2, .int (x)), (3, .int (nI q)), (4, .int (nI c)), (5, .int (-3)), (6, .int (bI off)), (7, .int (-3))]) (kk : AE p l e s m args below meth c0 Q g hs t B σ w) : W p l e rmA s m args below meth c0 H locs 0 0 Q (F0 m 496 ls []) := by
  obtain ⟨hx, hb, hml, hown, hts, hbt⟩ := C
  have k1 := hts (.classLink RL 72 "java/lang/IllegalStateException") (by decide +kernel)
  have k2 := hts (.fieldLink RL 21 "TaxiRankLaw$Rank" "cabs" "[[I") (by decide +kernel)
  refine lv_aload_n hx hb dL_act_496 rfl (lv_at hl 0 rfl) ?_
  refine lv_iload hx hb dL_act_497 (lv_at hl 4 rfl) ?_
  refine gx_cMx (gx_xrunV (As := [.int (nI c)]) (rest := []) ⟨hx, hb, hml, hown, hts⟩ (c_X2_start l hl0 g σ w (nI c) hX) (cwV 1 hts gL_act_X2_start rfl rfl rfl (by decide +kernel) ⟨Nat.le_of_ble_eq_true rfl, Nat.le_of_ble_eq_true rfl⟩) (gx_obj hZ hG 0 0 hX.k0 rfl) hZ hG hS rfl hl.1 rfl (Nat.le_of_ble_eq_true rfl) dL_act_499 ⟨Nat.le_of_ble_eq_true rfl, Nat.le_of_ble_eq_true rfl⟩) hG hS (fun E ce q9 H1 locs1 hPE hG hS hz1 hk1 hce hcv hcl => ?_) (fun H locs hD hG hS hsz => absurd (hD.symm.trans hE2) (by decide))
  rcases hPE with ⟨-, hE⟩ | ⟨rfl, hE⟩
  · exact absurd (hE.symm.trans hE2) (by decide)
  refine vx_catch hown [] ⟨467, 627, 630, 72⟩ [] (hbt.trans rfl) (fun z hz => nomatch hz) (by decide) (by decide) k1 (va_Nw.use rfl (hZ.2.2.2.2.2.1 ("java/lang/IllegalStateException", "java/lang/IllegalStateException") (by decide +kernel))) hce hcv hcl ?_
  refine W.eq (g2 := F0 m 630 ls [.ref q9]) rfl ?_
  refine lv_astore (lv' := [(8, .ref q9), (0, .ref (gad g 0 0)), (1, .ref (gad g 8 0)), (2, .int (x)), (3, .int (nI q)), (4, .int (nI c)), (5, .int (-3)), (6, .int (bI off)), (7, .int (-3))]) hx hb dL_act_630 hl (by decide) rfl (fun ls hl => ?_)
  refine lv_bipush (v := (-3)) hx hb dL_act_632 (by decide) ?_
  refine lv_istore (lv' := [(5, .int (-3)), (8, .ref q9), (0, .ref (gad g 0 0)), (1, .ref (gad g 8 0)), (2, .int (x)), (3, .int (nI q)), (4, .int (nI c)), (6, .int (bI off)), (7, .int (-3))]) hx hb dL_act_634 hl (by decide) rfl (fun ls hl => ?_)
  refine lv_iload_n hx hb dL_act_636 rfl (lv_at hl 5 rfl) ?_
  refine lv_bipush (v := 8) hx hb dL_act_637 (by decide) ?_
  refine lv_icmp_ge (tgt := 795) hx hb dL_act_639 (by decide) (fun c_1 => ?_) (fun c_1 => ?_)
  · skip
    exact absurd c_1 (show ¬ (8 : Int32) ≤ nI q from nI_ge (b := 8) hq (by decide))
  · skip
    refine lv_aload_n hx hb dL_act_642 rfl (lv_at hl 3 rfl) ?_
    refine gx_get hx hb hown hZ hG 8 0 1 hR.k8 rfl (by decide) k2 (fun _ h => h) (v := .ref (gad g 10 0)) (grf_z (hR.rf (f := 1) (by decide))) dL_act_643 ?_
    refine lv_iload hx hb dL_act_646 (lv_at hl 6 rfl) ?_
    refine gx_rt hx hb hZ hG hR 10 c (by rfl) (by decide) (by decide) hcg (by decide) dL_act_648 ?_
    refine lv_iconst (v := 2) hx hb dL_act_649 (by decide) ?_
    refine gx_aldN hx hb hZ hG 16 c 2 (by rfl) (hR.rb 10 (by decide) (by decide) hcg) rfl rfl ⟨by rw [hR.ln 16 (by decide) (by decide) (hR.rb 10 (by decide) (by decide) hcg)]; decide, by decide⟩ (v := .int (σ 16 c 2)) rfl dL_act_650 ?_
    refine lv_if_eq (tgt := 665) hx hb dL_act_651 (by decide) (fun c_2 => ?_) (fun c_2 => ?_)
    · skip
      exact absurd c_2 e2
    · skip
      refine lv_iload_n hx hb dL_act_654 rfl (lv_at hl 4 rfl) ?_
      refine lv_bipush (v := 9) hx hb dL_act_655 (by decide) ?_
      refine lv_ishr hx hb dL_act_657 ?_
      refine lv_iconst (v := 3) hx hb dL_act_658 (by decide) ?_
      refine gx_cR (gx_runS (As := [.int (x >>> (9 &&& 31)), .int (3)]) (rest := []) ⟨hx, hb, hml, hown, hts⟩ (c_L_below l g σ w (x >>> (9 &&& 31)) 3 (by decide)) (va_cwS 2 hts gL_act_L_below rfl rfl rfl (by decide +kernel) ⟨Nat.le_of_ble_eq_true rfl, Nat.le_of_ble_eq_true rfl⟩) hZ hG hS rfl hl.1 rfl (Nat.le_of_ble_eq_true rfl) dL_act_659 ⟨Nat.le_of_ble_eq_true rfl, Nat.le_of_ble_eq_true rfl⟩) ?_
      refine lv_if_le (tgt := 669) hx hb dL_act_662 (by decide) (fun c_3 => ?_) (fun c_3 => ?_)
      · skip
        exact absurd c_3 hbl
      · skip
        refine lv_iconst (v := 1) hx hb dL_act_665 (by decide) ?_
        refine lv_goto (tgt := 670) hx hb dL_act_666 (by decide) ?_
        refine lv_istore (lv' := [(8, .int (1)), (5, .int (-3)), (0, .ref (gad g 0 0)), (1, .ref (gad g 8 0)), (2, .int (x)), (3, .int (nI q)), (4, .int (nI c)), (6, .int (bI off)), (7, .int (-3))]) hx hb dL_act_670 hl (by decide) rfl (fun ls hl => ?_)
        refine lv_iload hx hb dL_act_672 (lv_at hl 0 rfl) ?_
        refine lv_if_eq (tgt := 723) hx hb dL_act_674 (by decide) (fun c_4 => ?_) (fun c_4 => ?_)
        · skip
          exact absurd c_4 (by decide)
        · skip
          refine lv_aload_n hx hb dL_act_677 rfl (lv_at hl 3 rfl) ?_
          refine gx_get hx hb hown hZ hG 8 0 1 hR.k8 rfl (by decide) k2 (fun _ h => h) (v := .ref (gad g 10 0)) (grf_z (hR.rf (f := 1) (by decide))) dL_act_678 ?_
          refine lv_iload hx hb dL_act_681 (lv_at hl 6 rfl) ?_
          refine gx_rt hx hb hZ hG hR 10 c (by rfl) (by decide) (by decide) hcg (by decide) dL_act_683 ?_
          refine lv_iconst (v := 2) hx hb dL_act_684 (by decide) ?_
          refine gx_aldN hx hb hZ hG 16 c 2 (by rfl) (hR.rb 10 (by decide) (by decide) hcg) rfl rfl ⟨by rw [hR.ln 16 (by decide) (by decide) (hR.rb 10 (by decide) (by decide) hcg)]; decide, by decide⟩ (v := .int (σ 16 c 2)) rfl dL_act_685 ?_
          refine lv_if_ne (tgt := 723) hx hb dL_act_686 (by decide) (fun c_5 => ?_) (fun c_5 => ?_)
          · skip
            refine lv_iload hx hb dL_act_723 (lv_at hl 0 rfl) ?_
            refine lv_if_ne (tgt := 792) hx hb dL_act_725 (by decide) (fun c_6 => ?_) (fun c_6 => ?_)
            · skip
              refine lv_goto (tgt := 968) hx hb dL_act_792 (by decide) ?_
              refine W.widen (k := 4) (n := 20) (by decide) (by decide) ?_
              exact act_end l hl0 ⟨hx, hb, hml, hown, hts, hbt⟩ hZ hG hS hA ⟨Nat.le_refl _, by omega, hB1⟩ rfl (lv_sub hl [3, 1, 8] rfl) kk
            · skip
              exact absurd c_6 (by decide)
          · skip
            exact absurd c_5 e2
set_option maxHeartbeats 4000000 in
set_option maxRecDepth 100000 in
theorem act_stop_ok (l : Launch) (hl0 : l.stackTraces = false) (C : AC p s m c0 args) (hZ : ZZ g s) (hG : GW g σ w H) (hS : va_S (gA g) s.heap H locs) {x : Int32} {q c : Nat} {off : Bool} (hB1 : B1 ≤ B + 300) (hX : Xok g σ) (hcg : c < gcn g 16) (hq : q < 8) (e1 : xStop σ (nI c) = σ1) (hE0 : xStopE σ (nI c) = 0) (hR : Rr g σ1) {z : Nat} (hz : z < 6) (e2 : σ1 16 c 2 = 1) (ez : σ1 16 c 1 = nI z) (hqz : σ1 18 z 0 = nI (rQn σ1 z)) (hqn : rQn σ1 z ≤ 10) (hI : rIn σ1 z c) (hbl : xBl (x >>> (9 &&& 31)) 3 ≤ 0) (hof : off = true → ∃ o, o < gcn g 17 ∧ σ1 16 c 3 = nI o) (hA1 : off = true → AO g hs t B1 σ (gst (rLv (rRfd σ1 c) z c) 16 c 2 0)) (hA2 : off = false → AO g hs t B1 σ (gst (rLv σ1 z c) 16 c 2 0)) (hval : σ1 6 (ix (nI c)) 2 = nI z) (hl : lv_has ls 10 [(0, .ref (gad g 0 0)), (1, .ref (gad g 8 0)), (2, .int (x)), (3, .int (nI q)), (4, .int (nI c)), (5, .int (-3)), (6, .int (bI off)), (7, .int (-3))]) (kk : AE p l e s m args below meth c0 Q g hs t B σ w) : W p l e rmA s m args below meth c0 H locs 0 0 Q (F0 m 509 ls []) := by
  obtain ⟨hx, hb, hml, hown, hts, hbt⟩ := C
  have k1 := hts (.fieldLink RL 21 "TaxiRankLaw$Rank" "cabs" "[[I") (by decide +kernel)
  have ezr : rRfd σ1 c 16 c 1 = nI z := by unfold rRfd; simp [gst_app, ez]
  have ezl : rLv σ1 z c 16 c 1 = nI z := by rw [rLv_o (by omega)]; exact ez
  have ezrl : rLv (rRfd σ1 c) z c 16 c 1 = nI z := by rw [rLv_o (by omega)]; exact ezr
  refine lv_aload_n hx hb dL_act_509 rfl (lv_at hl 0 rfl) ?_
  refine lv_iload hx hb dL_act_510 (lv_at hl 4 rfl) ?_
  refine gx_cMx (gx_xrunV (As := [.int (nI c)]) (rest := []) ⟨hx, hb, hml, hown, hts⟩ (c_X2_stop l hl0 g σ w (nI c) hX) (cwV 1 hts gL_act_X2_stop rfl rfl rfl (by decide +kernel) ⟨Nat.le_of_ble_eq_true rfl, Nat.le_of_ble_eq_true rfl⟩) (gx_obj hZ hG 0 0 hX.k0 rfl) hZ hG hS rfl hl.1 rfl (Nat.le_of_ble_eq_true rfl) dL_act_512 ⟨Nat.le_of_ble_eq_true rfl, Nat.le_of_ble_eq_true rfl⟩) hG hS (fun E ce q9 H1 locs1 hPE hG hS hz1 hk1 hce hcv hcl => ?_) (fun H locs hD hG hS hsz => ?_)
  · rcases hPE with ⟨-, hE⟩ | ⟨-, hE⟩ <;> exact absurd (hE.symm.trans hE0) (by decide)
  rw [e1] at hG
  refine gx_topN (y := nI z) (by rw [e1]; exact hval) ?_
  refine lv_sipush (v := 2000) hx hb dL_act_515 (by decide) ?_
  refine lv_iadd hx hb dL_act_518 ?_
  refine gx_topN (y := nI (z + 2000)) (by rw [show (2000 : Int32) = nI 2000 from rfl, nI_add]) ?_
  refine lv_istore (lv' := [(5, .int (nI (z + 2000))), (0, .ref (gad g 0 0)), (1, .ref (gad g 8 0)), (2, .int (x)), (3, .int (nI q)), (4, .int (nI c)), (6, .int (bI off)), (7, .int (-3))]) hx hb dL_act_519 hl (by decide) rfl (fun ls hl => ?_)
  refine lv_goto (tgt := 627) hx hb dL_act_521 (by decide) ?_
  refine lv_goto (tgt := 636) hx hb dL_act_627 (by decide) ?_
  refine lv_iload_n hx hb dL_act_636 rfl (lv_at hl 4 rfl) ?_
  refine lv_bipush (v := 8) hx hb dL_act_637 (by decide) ?_
  refine lv_icmp_ge (tgt := 795) hx hb dL_act_639 (by decide) (fun c_1 => ?_) (fun c_1 => ?_)
  · skip
    exact absurd c_1 (show ¬ (8 : Int32) ≤ nI q from nI_ge (b := 8) hq (by decide))
  · skip
    refine lv_aload_n hx hb dL_act_642 rfl (lv_at hl 2 rfl) ?_
    refine gx_get hx hb hown hZ hG 8 0 1 hR.k8 rfl (by decide) k1 (fun _ h => h) (v := .ref (gad g 10 0)) (grf_z (hR.rf (f := 1) (by decide))) dL_act_643 ?_
    refine lv_iload hx hb dL_act_646 (lv_at hl 5 rfl) ?_
    refine gx_rt hx hb hZ hG hR 10 c (by rfl) (by decide) (by decide) hcg (by decide) dL_act_648 ?_
    refine lv_iconst (v := 2) hx hb dL_act_649 (by decide) ?_
    refine gx_aldN hx hb hZ hG 16 c 2 (by rfl) (hR.rb 10 (by decide) (by decide) hcg) rfl rfl ⟨by rw [hR.ln 16 (by decide) (by decide) (hR.rb 10 (by decide) (by decide) hcg)]; decide, by decide⟩ (v := .int (σ1 16 c 2)) rfl dL_act_650 ?_
    refine lv_if_eq (tgt := 665) hx hb dL_act_651 (by decide) (fun c_2 => ?_) (fun c_2 => ?_)
    · skip
      exact absurd (c_2.symm.trans e2) (by decide)
    · skip
      refine lv_iload_n hx hb dL_act_654 rfl (lv_at hl 3 rfl) ?_
      refine lv_bipush (v := 9) hx hb dL_act_655 (by decide) ?_
      refine lv_ishr hx hb dL_act_657 ?_
      refine lv_iconst (v := 3) hx hb dL_act_658 (by decide) ?_
      refine gx_cR (gx_runS (As := [.int (x >>> (9 &&& 31)), .int (3)]) (rest := []) ⟨hx, hb, hml, hown, hts⟩ (c_L_below l g σ1 w (x >>> (9 &&& 31)) 3 (by decide)) (va_cwS 2 hts gL_act_L_below rfl rfl rfl (by decide +kernel) ⟨Nat.le_of_ble_eq_true rfl, Nat.le_of_ble_eq_true rfl⟩) hZ hG hS rfl hl.1 rfl (Nat.le_of_ble_eq_true rfl) dL_act_659 ⟨Nat.le_of_ble_eq_true rfl, Nat.le_of_ble_eq_true rfl⟩) ?_
      refine lv_if_le (tgt := 669) hx hb dL_act_662 (by decide) (fun c_3 => ?_) (fun c_3 => ?_)
      · skip
        refine lv_iconst (v := 0) hx hb dL_act_669 (by decide) ?_
        refine lv_istore (lv' := [(8, .int (0)), (5, .int (nI (z + 2000))), (0, .ref (gad g 0 0)), (1, .ref (gad g 8 0)), (2, .int (x)), (3, .int (nI q)), (4, .int (nI c)), (6, .int (bI off)), (7, .int (-3))]) hx hb dL_act_670 hl (by decide) rfl (fun ls hl => ?_)
        refine lv_iload hx hb dL_act_672 (lv_at hl 0 rfl) ?_
        refine lv_if_eq (tgt := 723) hx hb dL_act_674 (by decide) (fun c_4 => ?_) (fun c_4 => ?_)
        · skip
          refine lv_iload hx hb dL_act_723 (lv_at hl 0 rfl) ?_
          refine lv_if_ne (tgt := 792) hx hb dL_act_725 (by decide) (fun c_5 => ?_) (fun c_5 => ?_)
          · skip
            exact absurd rfl c_5
          · skip
            refine lv_aload_n hx hb dL_act_728 rfl (lv_at hl 3 rfl) ?_
            refine gx_get hx hb hown hZ hG 8 0 1 hR.k8 rfl (by decide) k1 (fun _ h => h) (v := .ref (gad g 10 0)) (grf_z (hR.rf (f := 1) (by decide))) dL_act_729 ?_
            refine lv_iload hx hb dL_act_732 (lv_at hl 6 rfl) ?_
            refine gx_rt hx hb hZ hG hR 10 c (by rfl) (by decide) (by decide) hcg (by decide) dL_act_734 ?_
            refine lv_iconst (v := 2) hx hb dL_act_735 (by decide) ?_
            refine gx_aldN hx hb hZ hG 16 c 2 (by rfl) (hR.rb 10 (by decide) (by decide) hcg) rfl rfl ⟨by rw [hR.ln 16 (by decide) (by decide) (hR.rb 10 (by decide) (by decide) hcg)]; decide, by decide⟩ (v := .int (σ1 16 c 2)) rfl dL_act_736 ?_
            refine lv_iconst (v := 1) hx hb dL_act_737 (by decide) ?_
            refine lv_icmp_ne (tgt := 792) hx hb dL_act_738 (by decide) (fun c_6 => ?_) (fun c_6 => ?_)
            · skip
              exact absurd e2 c_6
            · skip
              refine lv_iload hx hb dL_act_741 (lv_at hl 7 rfl) ?_
              refine lv_if_eq (tgt := 752) hx hb dL_act_743 (by decide) (fun c_7 => ?_) (fun c_7 => ?_)
              · skip
                have c_7 := bI_eq0.mp c_7
                refine lv_aload_n hx hb dL_act_752 rfl (lv_at hl 3 rfl) ?_
                refine lv_aload_n hx hb dL_act_753 rfl (lv_at hl 3 rfl) ?_
                refine gx_get hx hb hown hZ hG 8 0 1 hR.k8 rfl (by decide) k1 (fun _ h => h) (v := .ref (gad g 10 0)) (grf_z (hR.rf (f := 1) (by decide))) dL_act_754 ?_
                refine lv_iload hx hb dL_act_757 (lv_at hl 6 rfl) ?_
                refine gx_rt hx hb hZ hG hR 10 c (by rfl) (by decide) (by decide) hcg (by decide) dL_act_759 ?_
                refine lv_iconst (v := 1) hx hb dL_act_760 (by decide) ?_
                refine gx_aldN hx hb hZ hG 16 c 1 (by rfl) (hR.rb 10 (by decide) (by decide) hcg) rfl rfl ⟨by rw [hR.ln 16 (by decide) (by decide) (hR.rb 10 (by decide) (by decide) hcg)]; decide, by decide⟩ (v := .int (nI z)) (congrArg Value.int ez) dL_act_761 ?_
                refine lv_iload hx hb dL_act_762 (lv_at hl 6 rfl) ?_
                refine gx_cM (gx_runV (As := [.int (nI z), .int (nI c)]) (rest := []) ⟨hx, hb, hml, hown, hts⟩ (c_X3_leave l g σ1 w z c hR hz hqz hqn hI) (cwV 2 hts gL_act_X3_leave rfl rfl rfl (by decide +kernel) ⟨Nat.le_of_ble_eq_true rfl, Nat.le_of_ble_eq_true rfl⟩) (gx_obj hZ hG 8 0 hR.k8 rfl) hZ hG hS rfl hl.1 rfl (Nat.le_of_ble_eq_true rfl) dL_act_764 ⟨Nat.le_of_ble_eq_true rfl, Nat.le_of_ble_eq_true rfl⟩) hS (fun H locs hG hS hsz => ?_)
                have hR := hR.lv (z := z) (c := c)
                refine lv_aload_n hx hb dL_act_767 rfl (lv_at hl 3 rfl) ?_
                refine gx_get hx hb hown hZ hG 8 0 1 hR.k8 rfl (by decide) k1 (fun _ h => h) (v := .ref (gad g 10 0)) (grf_z (hR.rf (f := 1) (by decide))) dL_act_768 ?_
                refine lv_iload hx hb dL_act_771 (lv_at hl 6 rfl) ?_
                refine gx_rt hx hb hZ hG hR 10 c (by rfl) (by decide) (by decide) hcg (by decide) dL_act_773 ?_
                refine lv_iconst (v := 2) hx hb dL_act_774 (by decide) ?_
                refine lv_iconst (v := 0) hx hb dL_act_775 (by decide) ?_
                refine gx_astN hx hb hZ hG hS 16 c 2 (by rfl) (hR.rb 10 (by decide) (by decide) hcg) rfl rfl ⟨by rw [hR.ln 16 (by decide) (by decide) (hR.rb 10 (by decide) (by decide) hcg)]; decide, by decide⟩ rfl trivial dL_act_776 (fun H locs hG hS => ?_)
                have hR := hR.st (k := 16) (i := c) (f := 2) (v := 0) (by decide)
                refine lv_sipush (v := 2000) hx hb dL_act_777 (by decide) ?_
                refine lv_aload_n hx hb dL_act_780 rfl (lv_at hl 3 rfl) ?_
                refine gx_get hx hb hown hZ hG 8 0 1 hR.k8 rfl (by decide) k1 (fun _ h => h) (v := .ref (gad g 10 0)) (grf_z (hR.rf (f := 1) (by decide))) dL_act_781 ?_
                refine lv_iload hx hb dL_act_784 (lv_at hl 6 rfl) ?_
                refine gx_rt hx hb hZ hG hR 10 c (by rfl) (by decide) (by decide) hcg (by decide) dL_act_786 ?_
                refine lv_iconst (v := 1) hx hb dL_act_787 (by decide) ?_
                refine gx_aldN hx hb hZ hG 16 c 1 (by rfl) (hR.rb 10 (by decide) (by decide) hcg) rfl rfl ⟨by rw [hR.ln 16 (by decide) (by decide) (hR.rb 10 (by decide) (by decide) hcg)]; decide, by decide⟩ (v := .int (nI z)) (congrArg Value.int (by simp [gst_app, ezl])) dL_act_788 ?_
                refine lv_iadd hx hb dL_act_789 ?_
                refine gx_topN (y := nI (2000 + z)) (by rw [show (2000 : Int32) = nI 2000 from rfl, nI_add]) ?_
                refine lv_istore (lv' := [(7, .int (nI (2000 + z))), (8, .int (0)), (5, .int (nI (z + 2000))), (0, .ref (gad g 0 0)), (1, .ref (gad g 8 0)), (2, .int (x)), (3, .int (nI q)), (4, .int (nI c)), (6, .int (bI off))]) hx hb dL_act_790 hl (by decide) rfl (fun ls hl => ?_)
                refine lv_goto (tgt := 968) hx hb dL_act_792 (by decide) ?_
                refine W.widen (k := 4) (n := 20) (by decide) (by decide) ?_
                exact act_end l hl0 ⟨hx, hb, hml, hown, hts, hbt⟩ hZ hG hS (hA2 c_7) ⟨Nat.le_refl _, by omega, hB1⟩ (congrArg nI (Nat.add_comm _ _)) (lv_sub hl [4, 2, 0] rfl) kk
              · skip
                have c_7 := bI_ne0.mp c_7
                obtain ⟨o, ho, eo⟩ := hof c_7
                refine lv_aload_n hx hb dL_act_746 rfl (lv_at hl 3 rfl) ?_
                refine lv_iload hx hb dL_act_747 (lv_at hl 6 rfl) ?_
                refine gx_cM (gx_runV (As := [.int (nI c)]) (rest := []) ⟨hx, hb, hml, hown, hts⟩ (c_X3_refuse l g σ1 w c o hR hcg ho eo) (cwV 1 hts gL_act_X3_refuse rfl rfl rfl (by decide +kernel) ⟨Nat.le_of_ble_eq_true rfl, Nat.le_of_ble_eq_true rfl⟩) (gx_obj hZ hG 8 0 hR.k8 rfl) hZ hG hS rfl hl.1 rfl (Nat.le_of_ble_eq_true rfl) dL_act_749 ⟨Nat.le_of_ble_eq_true rfl, Nat.le_of_ble_eq_true rfl⟩) hS (fun H locs hG hS hsz => ?_)
                have hR := hR.rfd (c := c)
                refine lv_aload_n hx hb dL_act_752 rfl (lv_at hl 3 rfl) ?_
                refine lv_aload_n hx hb dL_act_753 rfl (lv_at hl 3 rfl) ?_
                refine gx_get hx hb hown hZ hG 8 0 1 hR.k8 rfl (by decide) k1 (fun _ h => h) (v := .ref (gad g 10 0)) (grf_z (hR.rf (f := 1) (by decide))) dL_act_754 ?_
                refine lv_iload hx hb dL_act_757 (lv_at hl 6 rfl) ?_
                refine gx_rt hx hb hZ hG hR 10 c (by rfl) (by decide) (by decide) hcg (by decide) dL_act_759 ?_
                refine lv_iconst (v := 1) hx hb dL_act_760 (by decide) ?_
                refine gx_aldN hx hb hZ hG 16 c 1 (by rfl) (hR.rb 10 (by decide) (by decide) hcg) rfl rfl ⟨by rw [hR.ln 16 (by decide) (by decide) (hR.rb 10 (by decide) (by decide) hcg)]; decide, by decide⟩ (v := .int (nI z)) (congrArg Value.int ezr) dL_act_761 ?_
                refine lv_iload hx hb dL_act_762 (lv_at hl 6 rfl) ?_
                refine gx_cM (gx_runV (As := [.int (nI z), .int (nI c)]) (rest := []) ⟨hx, hb, hml, hown, hts⟩ (c_X3_leave l g (rRfd σ1 c) w z c hR hz (by unfold rQn; rw [rRfd_18]; exact hqz) (by unfold rQn; rw [rRfd_18]; exact hqn) (rIn_cong (fun _ => rRfd_18) hI)) (cwV 2 hts gL_act_X3_leave rfl rfl rfl (by decide +kernel) ⟨Nat.le_of_ble_eq_true rfl, Nat.le_of_ble_eq_true rfl⟩) (gx_obj hZ hG 8 0 hR.k8 rfl) hZ hG hS rfl hl.1 rfl (Nat.le_of_ble_eq_true rfl) dL_act_764 ⟨Nat.le_of_ble_eq_true rfl, Nat.le_of_ble_eq_true rfl⟩) hS (fun H locs hG hS hsz => ?_)
                have hR := hR.lv (z := z) (c := c)
                refine lv_aload_n hx hb dL_act_767 rfl (lv_at hl 3 rfl) ?_
                refine gx_get hx hb hown hZ hG 8 0 1 hR.k8 rfl (by decide) k1 (fun _ h => h) (v := .ref (gad g 10 0)) (grf_z (hR.rf (f := 1) (by decide))) dL_act_768 ?_
                refine lv_iload hx hb dL_act_771 (lv_at hl 6 rfl) ?_
                refine gx_rt hx hb hZ hG hR 10 c (by rfl) (by decide) (by decide) hcg (by decide) dL_act_773 ?_
                refine lv_iconst (v := 2) hx hb dL_act_774 (by decide) ?_
                refine lv_iconst (v := 0) hx hb dL_act_775 (by decide) ?_
                refine gx_astN hx hb hZ hG hS 16 c 2 (by rfl) (hR.rb 10 (by decide) (by decide) hcg) rfl rfl ⟨by rw [hR.ln 16 (by decide) (by decide) (hR.rb 10 (by decide) (by decide) hcg)]; decide, by decide⟩ rfl trivial dL_act_776 (fun H locs hG hS => ?_)
                have hR := hR.st (k := 16) (i := c) (f := 2) (v := 0) (by decide)
                refine lv_sipush (v := 2000) hx hb dL_act_777 (by decide) ?_
                refine lv_aload_n hx hb dL_act_780 rfl (lv_at hl 3 rfl) ?_
                refine gx_get hx hb hown hZ hG 8 0 1 hR.k8 rfl (by decide) k1 (fun _ h => h) (v := .ref (gad g 10 0)) (grf_z (hR.rf (f := 1) (by decide))) dL_act_781 ?_
                refine lv_iload hx hb dL_act_784 (lv_at hl 6 rfl) ?_
                refine gx_rt hx hb hZ hG hR 10 c (by rfl) (by decide) (by decide) hcg (by decide) dL_act_786 ?_
                refine lv_iconst (v := 1) hx hb dL_act_787 (by decide) ?_
                refine gx_aldN hx hb hZ hG 16 c 1 (by rfl) (hR.rb 10 (by decide) (by decide) hcg) rfl rfl ⟨by rw [hR.ln 16 (by decide) (by decide) (hR.rb 10 (by decide) (by decide) hcg)]; decide, by decide⟩ (v := .int (nI z)) (congrArg Value.int (by simp [gst_app, ezrl])) dL_act_788 ?_
                refine lv_iadd hx hb dL_act_789 ?_
                refine gx_topN (y := nI (2000 + z)) (by rw [show (2000 : Int32) = nI 2000 from rfl, nI_add]) ?_
                refine lv_istore (lv' := [(7, .int (nI (2000 + z))), (8, .int (0)), (5, .int (nI (z + 2000))), (0, .ref (gad g 0 0)), (1, .ref (gad g 8 0)), (2, .int (x)), (3, .int (nI q)), (4, .int (nI c)), (6, .int (bI off))]) hx hb dL_act_790 hl (by decide) rfl (fun ls hl => ?_)
                refine lv_goto (tgt := 968) hx hb dL_act_792 (by decide) ?_
                refine W.widen (k := 4) (n := 20) (by decide) (by decide) ?_
                exact act_end l hl0 ⟨hx, hb, hml, hown, hts, hbt⟩ hZ hG hS (hA1 c_7) ⟨Nat.le_refl _, by omega, hB1⟩ (congrArg nI (Nat.add_comm _ _)) (lv_sub hl [4, 2, 0] rfl) kk
        · skip
          exact absurd rfl c_4
      · skip
        exact absurd hbl c_3
set_option maxHeartbeats 4000000 in
set_option maxRecDepth 100000 in
theorem act_stop_thr (l : Launch) (hl0 : l.stackTraces = false) (C : AC p s m c0 args) (hZ : ZZ g s) (hG : GW g σ w H) (hS : va_S (gA g) s.heap H locs) {x : Int32} {q c : Nat} {off : Bool} (hB1 : B1 ≤ B + 300) (hX : Xok g σ) (hcg : c < gcn g 16) (hq : q < 8) (hE2 : xStopE σ (nI c) = 2) (hR : Rr g σ) (e2 : ¬ σ 16 c 2 = 0) (e3 : ¬ σ 16 c 2 = 1) (hbl : xBl (x >>> (9 &&& 31)) 3 ≤ 0) (hA : AO g hs t B1 σ σ) (hl : lv_has ls 10 [(0, .ref (gad g 0 0)), (1, .ref (gad g 8 0)), (2, .int (x)), (3, .int (nI q)), (4, .int (nI c)), (5, .int (-3)), (6, .int (bI off)), (7, .int (-3))]) (kk : AE p l e s m args below meth c0 Q g hs t B σ w) : W p l e rmA s m args below meth c0 H locs 0 0 Q (F0 m 509 ls []) := by
  obtain ⟨hx, hb, hml, hown, hts, hbt⟩ := C
  have k1 := hts (.classLink RL 72 "java/lang/IllegalStateException") (by decide +kernel)
  have k2 := hts (.fieldLink RL 21 "TaxiRankLaw$Rank" "cabs" "[[I") (by decide +kernel)
  refine lv_aload_n hx hb dL_act_509 rfl (lv_at hl 0 rfl) ?_
  refine lv_iload hx hb dL_act_510 (lv_at hl 4 rfl) ?_
  refine gx_cMx (gx_xrunV (As := [.int (nI c)]) (rest := []) ⟨hx, hb, hml, hown, hts⟩ (c_X2_stop l hl0 g σ w (nI c) hX) (cwV 1 hts gL_act_X2_stop rfl rfl rfl (by decide +kernel) ⟨Nat.le_of_ble_eq_true rfl, Nat.le_of_ble_eq_true rfl⟩) (gx_obj hZ hG 0 0 hX.k0 rfl) hZ hG hS rfl hl.1 rfl (Nat.le_of_ble_eq_true rfl) dL_act_512 ⟨Nat.le_of_ble_eq_true rfl, Nat.le_of_ble_eq_true rfl⟩) hG hS (fun E ce q9 H1 locs1 hPE hG hS hz1 hk1 hce hcv hcl => ?_) (fun H locs hD hG hS hsz => absurd (hD.symm.trans hE2) (by decide))
  rcases hPE with ⟨-, hE⟩ | ⟨rfl, hE⟩
  · exact absurd (hE.symm.trans hE2) (by decide)
  refine vx_catch hown [] ⟨467, 627, 630, 72⟩ [] (hbt.trans rfl) (fun z hz => nomatch hz) (by decide) (by decide) k1 (va_Nw.use rfl (hZ.2.2.2.2.2.1 ("java/lang/IllegalStateException", "java/lang/IllegalStateException") (by decide +kernel))) hce hcv hcl ?_
  refine W.eq (g2 := F0 m 630 ls [.ref q9]) rfl ?_
  refine lv_astore (lv' := [(8, .ref q9), (0, .ref (gad g 0 0)), (1, .ref (gad g 8 0)), (2, .int (x)), (3, .int (nI q)), (4, .int (nI c)), (5, .int (-3)), (6, .int (bI off)), (7, .int (-3))]) hx hb dL_act_630 hl (by decide) rfl (fun ls hl => ?_)
  refine lv_bipush (v := (-3)) hx hb dL_act_632 (by decide) ?_
  refine lv_istore (lv' := [(5, .int (-3)), (8, .ref q9), (0, .ref (gad g 0 0)), (1, .ref (gad g 8 0)), (2, .int (x)), (3, .int (nI q)), (4, .int (nI c)), (6, .int (bI off)), (7, .int (-3))]) hx hb dL_act_634 hl (by decide) rfl (fun ls hl => ?_)
  refine lv_iload_n hx hb dL_act_636 rfl (lv_at hl 5 rfl) ?_
  refine lv_bipush (v := 8) hx hb dL_act_637 (by decide) ?_
  refine lv_icmp_ge (tgt := 795) hx hb dL_act_639 (by decide) (fun c_1 => ?_) (fun c_1 => ?_)
  · skip
    exact absurd c_1 (show ¬ (8 : Int32) ≤ nI q from nI_ge (b := 8) hq (by decide))
  · skip
    refine lv_aload_n hx hb dL_act_642 rfl (lv_at hl 3 rfl) ?_
    refine gx_get hx hb hown hZ hG 8 0 1 hR.k8 rfl (by decide) k2 (fun _ h => h) (v := .ref (gad g 10 0)) (grf_z (hR.rf (f := 1) (by decide))) dL_act_643 ?_
    refine lv_iload hx hb dL_act_646 (lv_at hl 6 rfl) ?_
    refine gx_rt hx hb hZ hG hR 10 c (by rfl) (by decide) (by decide) hcg (by decide) dL_act_648 ?_
    refine lv_iconst (v := 2) hx hb dL_act_649 (by decide) ?_
    refine gx_aldN hx hb hZ hG 16 c 2 (by rfl) (hR.rb 10 (by decide) (by decide) hcg) rfl rfl ⟨by rw [hR.ln 16 (by decide) (by decide) (hR.rb 10 (by decide) (by decide) hcg)]; decide, by decide⟩ (v := .int (σ 16 c 2)) rfl dL_act_650 ?_
    refine lv_if_eq (tgt := 665) hx hb dL_act_651 (by decide) (fun c_2 => ?_) (fun c_2 => ?_)
    · skip
      exact absurd c_2 e2
    · skip
      refine lv_iload_n hx hb dL_act_654 rfl (lv_at hl 4 rfl) ?_
      refine lv_bipush (v := 9) hx hb dL_act_655 (by decide) ?_
      refine lv_ishr hx hb dL_act_657 ?_
      refine lv_iconst (v := 3) hx hb dL_act_658 (by decide) ?_
      refine gx_cR (gx_runS (As := [.int (x >>> (9 &&& 31)), .int (3)]) (rest := []) ⟨hx, hb, hml, hown, hts⟩ (c_L_below l g σ w (x >>> (9 &&& 31)) 3 (by decide)) (va_cwS 2 hts gL_act_L_below rfl rfl rfl (by decide +kernel) ⟨Nat.le_of_ble_eq_true rfl, Nat.le_of_ble_eq_true rfl⟩) hZ hG hS rfl hl.1 rfl (Nat.le_of_ble_eq_true rfl) dL_act_659 ⟨Nat.le_of_ble_eq_true rfl, Nat.le_of_ble_eq_true rfl⟩) ?_
      refine lv_if_le (tgt := 669) hx hb dL_act_662 (by decide) (fun c_3 => ?_) (fun c_3 => ?_)
      · skip
        refine lv_iconst (v := 0) hx hb dL_act_669 (by decide) ?_
        refine lv_istore (lv' := [(8, .int (0)), (5, .int (-3)), (0, .ref (gad g 0 0)), (1, .ref (gad g 8 0)), (2, .int (x)), (3, .int (nI q)), (4, .int (nI c)), (6, .int (bI off)), (7, .int (-3))]) hx hb dL_act_670 hl (by decide) rfl (fun ls hl => ?_)
        refine lv_iload hx hb dL_act_672 (lv_at hl 0 rfl) ?_
        refine lv_if_eq (tgt := 723) hx hb dL_act_674 (by decide) (fun c_4 => ?_) (fun c_4 => ?_)
        · skip
          refine lv_iload hx hb dL_act_723 (lv_at hl 0 rfl) ?_
          refine lv_if_ne (tgt := 792) hx hb dL_act_725 (by decide) (fun c_5 => ?_) (fun c_5 => ?_)
          · skip
            exact absurd rfl c_5
          · skip
            refine lv_aload_n hx hb dL_act_728 rfl (lv_at hl 3 rfl) ?_
            refine gx_get hx hb hown hZ hG 8 0 1 hR.k8 rfl (by decide) k2 (fun _ h => h) (v := .ref (gad g 10 0)) (grf_z (hR.rf (f := 1) (by decide))) dL_act_729 ?_
            refine lv_iload hx hb dL_act_732 (lv_at hl 6 rfl) ?_
            refine gx_rt hx hb hZ hG hR 10 c (by rfl) (by decide) (by decide) hcg (by decide) dL_act_734 ?_
            refine lv_iconst (v := 2) hx hb dL_act_735 (by decide) ?_
            refine gx_aldN hx hb hZ hG 16 c 2 (by rfl) (hR.rb 10 (by decide) (by decide) hcg) rfl rfl ⟨by rw [hR.ln 16 (by decide) (by decide) (hR.rb 10 (by decide) (by decide) hcg)]; decide, by decide⟩ (v := .int (σ 16 c 2)) rfl dL_act_736 ?_
            refine lv_iconst (v := 1) hx hb dL_act_737 (by decide) ?_
            refine lv_icmp_ne (tgt := 792) hx hb dL_act_738 (by decide) (fun c_6 => ?_) (fun c_6 => ?_)
            · skip
              refine lv_goto (tgt := 968) hx hb dL_act_792 (by decide) ?_
              refine W.widen (k := 4) (n := 20) (by decide) (by decide) ?_
              exact act_end l hl0 ⟨hx, hb, hml, hown, hts, hbt⟩ hZ hG hS hA ⟨Nat.le_refl _, by omega, hB1⟩ rfl (lv_sub hl [3, 1, 8] rfl) kk
            · skip
              exact absurd c_6 e3
        · skip
          exact absurd rfl c_4
      · skip
        exact absurd hbl c_3
set_option maxHeartbeats 4000000 in
set_option maxRecDepth 100000 in
theorem act_accept_ok (l : Launch) (hl0 : l.stackTraces = false) (C : AC p s m c0 args) (hZ : ZZ g s) (hG : GW g σ w H) (hS : va_S (gA g) s.heap H locs) {x : Int32} {q c : Nat} {off : Bool} (hB1 : B1 ≤ B + 300) (hX : Xok g σ) (hcg : c < gcn g 16) (hq8 : 8 ≤ q) (hq11 : q < 11) (e1 : xAccept σ (nI c) = σ1) (hE0 : xAcceptE σ (nI c) = 0) (hR : Rr g σ1) {z o a : Nat} (hz : z < 6) (ez : σ1 16 c 1 = nI z) (ho : o < gcn g 17) (eo : σ1 16 c 3 = nI o) (ha : a < 6) (ea : σ1 17 o 0 = nI a) (hqz : σ1 18 z 0 = nI (rQn σ1 z)) (hqn : rQn σ1 z ≤ 10) (hI : rIn σ1 z c) (hoff : off = true) (hA : AO g hs t B1 σ (rAcc σ1 c)) (hval : xWay σ (σ 6 (ix (nI c)) 2) (σ 7 (ix (xOff σ (ix (nI c)))) 1) = σ1 15 z a) (hl : lv_has ls 10 [(0, .ref (gad g 0 0)), (1, .ref (gad g 8 0)), (2, .int (x)), (3, .int (nI q)), (4, .int (nI c)), (5, .int (-3)), (6, .int (bI off)), (7, .int (-3))]) (kk : AE p l e s m args below meth c0 Q g hs t B σ w) : W p l e rmA s m args below meth c0 H locs 0 0 Q (F0 m 530 ls []) := by
  obtain ⟨hx, hb, hml, hown, hts, hbt⟩ := C
  refine lv_aload_n hx hb dL_act_530 rfl (lv_at hl 0 rfl) ?_
  refine lv_iload hx hb dL_act_531 (lv_at hl 4 rfl) ?_
  refine gx_cMx (gx_xrunV (As := [.int (nI c)]) (rest := []) ⟨hx, hb, hml, hown, hts⟩ (c_X2_accept l hl0 g σ w (nI c) hX) (cwV 1 hts gL_act_X2_accept rfl rfl rfl (by decide +kernel) ⟨Nat.le_of_ble_eq_true rfl, Nat.le_of_ble_eq_true rfl⟩) (gx_obj hZ hG 0 0 hX.k0 rfl) hZ hG hS rfl hl.1 rfl (Nat.le_of_ble_eq_true rfl) dL_act_533 ⟨Nat.le_of_ble_eq_true rfl, Nat.le_of_ble_eq_true rfl⟩) hG hS (fun E ce q9 H1 locs1 hPE hG hS hz1 hk1 hce hcv hcl => ?_) (fun H locs hD hG hS hsz => ?_)
  · rcases hPE with ⟨-, hE⟩ | ⟨-, hE⟩ <;> exact absurd (hE.symm.trans hE0) (by decide)
  rw [e1] at hG
  refine gx_topN (y := σ1 15 z a) hval ?_
  refine lv_sipush (v := 3000) hx hb dL_act_536 (by decide) ?_
  refine lv_iadd hx hb dL_act_539 ?_
  refine lv_istore (lv' := [(5, .int ((σ1 15 z a) + 3000)), (0, .ref (gad g 0 0)), (1, .ref (gad g 8 0)), (2, .int (x)), (3, .int (nI q)), (4, .int (nI c)), (6, .int (bI off)), (7, .int (-3))]) hx hb dL_act_540 hl (by decide) rfl (fun ls hl => ?_)
  refine lv_goto (tgt := 627) hx hb dL_act_542 (by decide) ?_
  refine lv_goto (tgt := 636) hx hb dL_act_627 (by decide) ?_
  refine lv_iload_n hx hb dL_act_636 rfl (lv_at hl 4 rfl) ?_
  refine lv_bipush (v := 8) hx hb dL_act_637 (by decide) ?_
  refine lv_icmp_ge (tgt := 795) hx hb dL_act_639 (by decide) (fun c_1 => ?_) (fun c_1 => ?_)
  · skip
    refine lv_iload_n hx hb dL_act_795 rfl (lv_at hl 4 rfl) ?_
    refine lv_bipush (v := 11) hx hb dL_act_796 (by decide) ?_
    refine lv_icmp_ge (tgt := 826) hx hb dL_act_798 (by decide) (fun c_2 => ?_) (fun c_2 => ?_)
    · skip
      exact absurd c_2 (show ¬ (11 : Int32) ≤ nI q from nI_ge (b := 11) (by omega) (by omega))
    · skip
      refine lv_iload hx hb dL_act_801 (lv_at hl 6 rfl) ?_
      refine lv_if_eq (tgt := 819) hx hb dL_act_803 (by decide) (fun c_3 => ?_) (fun c_3 => ?_)
      · skip
        have c_3 := bI_eq0.mp c_3
        exact absurd (hoff.symm.trans c_3) (by decide)
      · skip
        have c_3 := bI_ne0.mp c_3
        refine lv_sipush (v := 3000) hx hb dL_act_806 (by decide) ?_
        refine lv_aload_n hx hb dL_act_809 rfl (lv_at hl 2 rfl) ?_
        refine lv_iload hx hb dL_act_810 (lv_at hl 5 rfl) ?_
        refine gx_cM (gx_runV (As := [.int (nI c)]) (rest := [.int (3000)]) ⟨hx, hb, hml, hown, hts⟩ (c_X3_accept l g σ1 w c z o a hR hcg hz ez ho eo ha ea hqz hqn hI) (cwV 1 hts gL_act_X3_accept rfl rfl rfl (by decide +kernel) ⟨Nat.le_of_ble_eq_true rfl, Nat.le_of_ble_eq_true rfl⟩) (gx_obj hZ hG 8 0 hR.k8 rfl) hZ hG hS rfl hl.1 rfl (Nat.le_of_ble_eq_true rfl) dL_act_812 ⟨Nat.le_of_ble_eq_true rfl, Nat.le_of_ble_eq_true rfl⟩) hS (fun H locs hG hS hsz => ?_)
        refine lv_iadd hx hb dL_act_815 ?_
        refine lv_goto (tgt := 821) hx hb dL_act_816 (by decide) ?_
        refine lv_istore (lv' := [(7, .int (3000 + (σ1 15 z a))), (5, .int ((σ1 15 z a) + 3000)), (0, .ref (gad g 0 0)), (1, .ref (gad g 8 0)), (2, .int (x)), (3, .int (nI q)), (4, .int (nI c)), (6, .int (bI off))]) hx hb dL_act_821 hl (by decide) rfl (fun ls hl => ?_)
        refine lv_goto (tgt := 968) hx hb dL_act_823 (by decide) ?_
        refine W.widen (k := 4) (n := 20) (by decide) (by decide) ?_
        exact act_end l hl0 ⟨hx, hb, hml, hown, hts, hbt⟩ hZ hG hS hA ⟨Nat.le_refl _, by omega, hB1⟩ (Int32.add_comm _ _) (lv_sub hl [3, 1, 0] rfl) kk
  · skip
    exact absurd (show (8 : Int32) ≤ nI q from nI_le (a := 8) (by omega) (by omega)) c_1
set_option maxHeartbeats 4000000 in
set_option maxRecDepth 100000 in
theorem act_accept_thr (l : Launch) (hl0 : l.stackTraces = false) (C : AC p s m c0 args) (hZ : ZZ g s) (hG : GW g σ w H) (hS : va_S (gA g) s.heap H locs) {x : Int32} {q c : Nat} {off : Bool} (hB1 : B1 ≤ B + 300) (hX : Xok g σ) (hcg : c < gcn g 16) (hq8 : 8 ≤ q) (hq11 : q < 11) (hE2 : xAcceptE σ (nI c) = 2) (hR : Rr g σ) (hoff : off = false) (hA : AO g hs t B1 σ σ) (hl : lv_has ls 10 [(0, .ref (gad g 0 0)), (1, .ref (gad g 8 0)), (2, .int (x)), (3, .int (nI q)), (4, .int (nI c)), (5, .int (-3)), (6, .int (bI off)), (7, .int (-3))]) (kk : AE p l e s m args below meth c0 Q g hs t B σ w) : W p l e rmA s m args below meth c0 H locs 0 0 Q (F0 m 530 ls []) := by
  obtain ⟨hx, hb, hml, hown, hts, hbt⟩ := C
  have k1 := hts (.classLink RL 72 "java/lang/IllegalStateException") (by decide +kernel)
  refine lv_aload_n hx hb dL_act_530 rfl (lv_at hl 0 rfl) ?_
  refine lv_iload hx hb dL_act_531 (lv_at hl 4 rfl) ?_
  refine gx_cMx (gx_xrunV (As := [.int (nI c)]) (rest := []) ⟨hx, hb, hml, hown, hts⟩ (c_X2_accept l hl0 g σ w (nI c) hX) (cwV 1 hts gL_act_X2_accept rfl rfl rfl (by decide +kernel) ⟨Nat.le_of_ble_eq_true rfl, Nat.le_of_ble_eq_true rfl⟩) (gx_obj hZ hG 0 0 hX.k0 rfl) hZ hG hS rfl hl.1 rfl (Nat.le_of_ble_eq_true rfl) dL_act_533 ⟨Nat.le_of_ble_eq_true rfl, Nat.le_of_ble_eq_true rfl⟩) hG hS (fun E ce q9 H1 locs1 hPE hG hS hz1 hk1 hce hcv hcl => ?_) (fun H locs hD hG hS hsz => absurd (hD.symm.trans hE2) (by decide))
  rcases hPE with ⟨-, hE⟩ | ⟨rfl, hE⟩
  · exact absurd (hE.symm.trans hE2) (by decide)
  refine vx_catch hown [] ⟨467, 627, 630, 72⟩ [] (hbt.trans rfl) (fun z hz => nomatch hz) (by decide) (by decide) k1 (va_Nw.use rfl (hZ.2.2.2.2.2.1 ("java/lang/IllegalStateException", "java/lang/IllegalStateException") (by decide +kernel))) hce hcv hcl ?_
  refine W.eq (g2 := F0 m 630 ls [.ref q9]) rfl ?_
  refine lv_astore (lv' := [(8, .ref q9), (0, .ref (gad g 0 0)), (1, .ref (gad g 8 0)), (2, .int (x)), (3, .int (nI q)), (4, .int (nI c)), (5, .int (-3)), (6, .int (bI off)), (7, .int (-3))]) hx hb dL_act_630 hl (by decide) rfl (fun ls hl => ?_)
  refine lv_bipush (v := (-3)) hx hb dL_act_632 (by decide) ?_
  refine lv_istore (lv' := [(5, .int (-3)), (8, .ref q9), (0, .ref (gad g 0 0)), (1, .ref (gad g 8 0)), (2, .int (x)), (3, .int (nI q)), (4, .int (nI c)), (6, .int (bI off)), (7, .int (-3))]) hx hb dL_act_634 hl (by decide) rfl (fun ls hl => ?_)
  refine lv_iload_n hx hb dL_act_636 rfl (lv_at hl 5 rfl) ?_
  refine lv_bipush (v := 8) hx hb dL_act_637 (by decide) ?_
  refine lv_icmp_ge (tgt := 795) hx hb dL_act_639 (by decide) (fun c_1 => ?_) (fun c_1 => ?_)
  · skip
    refine lv_iload_n hx hb dL_act_795 rfl (lv_at hl 5 rfl) ?_
    refine lv_bipush (v := 11) hx hb dL_act_796 (by decide) ?_
    refine lv_icmp_ge (tgt := 826) hx hb dL_act_798 (by decide) (fun c_2 => ?_) (fun c_2 => ?_)
    · skip
      exact absurd c_2 (show ¬ (11 : Int32) ≤ nI q from nI_ge (b := 11) (by omega) (by omega))
    · skip
      refine lv_iload hx hb dL_act_801 (lv_at hl 7 rfl) ?_
      refine lv_if_eq (tgt := 819) hx hb dL_act_803 (by decide) (fun c_3 => ?_) (fun c_3 => ?_)
      · skip
        have c_3 := bI_eq0.mp c_3
        refine lv_bipush (v := (-3)) hx hb dL_act_819 (by decide) ?_
        refine lv_istore (lv' := [(7, .int (-3)), (5, .int (-3)), (8, .ref q9), (0, .ref (gad g 0 0)), (1, .ref (gad g 8 0)), (2, .int (x)), (3, .int (nI q)), (4, .int (nI c)), (6, .int (bI off))]) hx hb dL_act_821 hl (by decide) rfl (fun ls hl => ?_)
        refine lv_goto (tgt := 968) hx hb dL_act_823 (by decide) ?_
        refine W.widen (k := 4) (n := 20) (by decide) (by decide) ?_
        exact act_end l hl0 ⟨hx, hb, hml, hown, hts, hbt⟩ hZ hG hS hA ⟨Nat.le_refl _, by omega, hB1⟩ rfl (lv_sub hl [4, 1, 0] rfl) kk
      · skip
        have c_3 := bI_ne0.mp c_3
        exact absurd (hoff.symm.trans c_3) (by decide)
  · skip
    exact absurd (show (8 : Int32) ≤ nI q from nI_le (a := 8) (by omega) (by omega)) c_1
set_option maxHeartbeats 4000000 in
set_option maxRecDepth 100000 in
theorem act_refuse_ok (l : Launch) (hl0 : l.stackTraces = false) (C : AC p s m c0 args) (hZ : ZZ g s) (hG : GW g σ w H) (hS : va_S (gA g) s.heap H locs) {x : Int32} {q c : Nat} {off : Bool} (hB1 : B1 ≤ B + 300) (hX : Xok g σ) (hcg : c < gcn g 16) (hq11 : q = 11) (e1 : xRefuse σ (nI c) = σ1) (hE0 : xAcceptE σ (nI c) = 0) (hR : Rr g σ1) {z o : Nat} (hz : z < 6) (ez : σ1 16 c 1 = nI z) (ho : o < gcn g 17) (eo : σ1 16 c 3 = nI o) (hqz : σ1 18 z 0 = nI (rQn σ1 z)) (hqn : rQn σ1 z ≤ 10) (hI : rIn σ1 z c) (hoff : off = true) (hA : AO g hs t B1 σ (rBack (rRfd σ1 c) c)) (hval : σ1 7 (ix (xOff σ (ix (nI c)))) 0 = nI o) (hl : lv_has ls 10 [(0, .ref (gad g 0 0)), (1, .ref (gad g 8 0)), (2, .int (x)), (3, .int (nI q)), (4, .int (nI c)), (5, .int (-3)), (6, .int (bI off)), (7, .int (-3))]) (kk : AE p l e s m args below meth c0 Q g hs t B σ w) : W p l e rmA s m args below meth c0 H locs 0 0 Q (F0 m 551 ls []) := by
  obtain ⟨hx, hb, hml, hown, hts, hbt⟩ := C
  have k1 := hts (.fieldLink RL 21 "TaxiRankLaw$Rank" "cabs" "[[I") (by decide +kernel)
  have ezr : rRfd σ1 c 16 c 1 = nI z := by unfold rRfd; simp [gst_app, ez]
  have ezl : rLv σ1 z c 16 c 1 = nI z := by rw [rLv_o (by omega)]; exact ez
  have ezrl : rLv (rRfd σ1 c) z c 16 c 1 = nI z := by rw [rLv_o (by omega)]; exact ezr
  refine lv_aload_n hx hb dL_act_551 rfl (lv_at hl 0 rfl) ?_
  refine lv_iload hx hb dL_act_552 (lv_at hl 4 rfl) ?_
  refine gx_cMx (gx_xrunV (As := [.int (nI c)]) (rest := []) ⟨hx, hb, hml, hown, hts⟩ (c_X2_refuse l hl0 g σ w (nI c) hX) (cwV 1 hts gL_act_X2_refuse rfl rfl rfl (by decide +kernel) ⟨Nat.le_of_ble_eq_true rfl, Nat.le_of_ble_eq_true rfl⟩) (gx_obj hZ hG 0 0 hX.k0 rfl) hZ hG hS rfl hl.1 rfl (Nat.le_of_ble_eq_true rfl) dL_act_554 ⟨Nat.le_of_ble_eq_true rfl, Nat.le_of_ble_eq_true rfl⟩) hG hS (fun E ce q9 H1 locs1 hPE hG hS hz1 hk1 hce hcv hcl => ?_) (fun H locs hD hG hS hsz => ?_)
  · rcases hPE with ⟨-, hE⟩ | ⟨-, hE⟩ <;> exact absurd (hE.symm.trans hE0) (by decide)
  rw [e1] at hG
  refine gx_topN (y := nI o) (by rw [e1]; exact hval) ?_
  refine lv_sipush (v := 4000) hx hb dL_act_557 (by decide) ?_
  refine lv_iadd hx hb dL_act_560 ?_
  refine gx_topN (y := nI (o + 4000)) (by rw [show (4000 : Int32) = nI 4000 from rfl, nI_add]) ?_
  refine lv_istore (lv' := [(5, .int (nI (o + 4000))), (0, .ref (gad g 0 0)), (1, .ref (gad g 8 0)), (2, .int (x)), (3, .int (nI q)), (4, .int (nI c)), (6, .int (bI off)), (7, .int (-3))]) hx hb dL_act_561 hl (by decide) rfl (fun ls hl => ?_)
  refine lv_goto (tgt := 627) hx hb dL_act_563 (by decide) ?_
  refine lv_goto (tgt := 636) hx hb dL_act_627 (by decide) ?_
  refine lv_iload_n hx hb dL_act_636 rfl (lv_at hl 4 rfl) ?_
  refine lv_bipush (v := 8) hx hb dL_act_637 (by decide) ?_
  refine lv_icmp_ge (tgt := 795) hx hb dL_act_639 (by decide) (fun c_1 => ?_) (fun c_1 => ?_)
  · skip
    refine lv_iload_n hx hb dL_act_795 rfl (lv_at hl 4 rfl) ?_
    refine lv_bipush (v := 11) hx hb dL_act_796 (by decide) ?_
    refine lv_icmp_ge (tgt := 826) hx hb dL_act_798 (by decide) (fun c_2 => ?_) (fun c_2 => ?_)
    · skip
      refine lv_iload_n hx hb dL_act_826 rfl (lv_at hl 4 rfl) ?_
      refine lv_bipush (v := 11) hx hb dL_act_827 (by decide) ?_
      refine lv_icmp_ne (tgt := 867) hx hb dL_act_829 (by decide) (fun c_3 => ?_) (fun c_3 => ?_)
      · skip
        exact absurd (show nI q = (11 : Int32) from congrArg nI (show q = 11 by omega)) c_3
      · skip
        refine lv_iload hx hb dL_act_832 (lv_at hl 6 rfl) ?_
        refine lv_if_eq (tgt := 867) hx hb dL_act_834 (by decide) (fun c_4 => ?_) (fun c_4 => ?_)
        · skip
          have c_4 := bI_eq0.mp c_4
          exact absurd (hoff.symm.trans c_4) (by decide)
        · skip
          have c_4 := bI_ne0.mp c_4
          refine lv_sipush (v := 4000) hx hb dL_act_837 (by decide) ?_
          refine lv_aload_n hx hb dL_act_840 rfl (lv_at hl 2 rfl) ?_
          refine gx_get hx hb hown hZ hG 8 0 1 hR.k8 rfl (by decide) k1 (fun _ h => h) (v := .ref (gad g 10 0)) (grf_z (hR.rf (f := 1) (by decide))) dL_act_841 ?_
          refine lv_iload hx hb dL_act_844 (lv_at hl 5 rfl) ?_
          refine gx_rt hx hb hZ hG hR 10 c (by rfl) (by decide) (by decide) hcg (by decide) dL_act_846 ?_
          refine lv_iconst (v := 3) hx hb dL_act_847 (by decide) ?_
          refine gx_aldN hx hb hZ hG 16 c 3 (by rfl) (hR.rb 10 (by decide) (by decide) hcg) rfl rfl ⟨by rw [hR.ln 16 (by decide) (by decide) (hR.rb 10 (by decide) (by decide) hcg)]; decide, by decide⟩ (v := .int (nI o)) (congrArg Value.int eo) dL_act_848 ?_
          refine lv_iadd hx hb dL_act_849 ?_
          refine gx_topN (y := nI (4000 + o)) (by rw [show (4000 : Int32) = nI 4000 from rfl, nI_add]) ?_
          refine lv_istore (lv' := [(7, .int (nI (4000 + o))), (5, .int (nI (o + 4000))), (0, .ref (gad g 0 0)), (1, .ref (gad g 8 0)), (2, .int (x)), (3, .int (nI q)), (4, .int (nI c)), (6, .int (bI off))]) hx hb dL_act_850 hl (by decide) rfl (fun ls hl => ?_)
          refine lv_aload_n hx hb dL_act_852 rfl (lv_at hl 3 rfl) ?_
          refine lv_iload hx hb dL_act_853 (lv_at hl 6 rfl) ?_
          refine gx_cM (gx_runV (As := [.int (nI c)]) (rest := []) ⟨hx, hb, hml, hown, hts⟩ (c_X3_refuse l g σ1 w c o hR hcg ho eo) (cwV 1 hts gL_act_X3_refuse rfl rfl rfl (by decide +kernel) ⟨Nat.le_of_ble_eq_true rfl, Nat.le_of_ble_eq_true rfl⟩) (gx_obj hZ hG 8 0 hR.k8 rfl) hZ hG hS rfl hl.1 rfl (Nat.le_of_ble_eq_true rfl) dL_act_855 ⟨Nat.le_of_ble_eq_true rfl, Nat.le_of_ble_eq_true rfl⟩) hS (fun H locs hG hS hsz => ?_)
          have hR := hR.rfd (c := c)
          refine lv_aload_n hx hb dL_act_858 rfl (lv_at hl 3 rfl) ?_
          refine lv_iload hx hb dL_act_859 (lv_at hl 6 rfl) ?_
          refine gx_cM (gx_runV (As := [.int (nI c)]) (rest := []) ⟨hx, hb, hml, hown, hts⟩ (c_X3_back l g (rRfd σ1 c) w c z hR hcg hz ezr (by unfold rQn; rw [rRfd_18]; exact hqz) (by unfold rQn; rw [rRfd_18]; exact hqn) (rIn_cong (fun _ => rRfd_18) hI)) (cwV 1 hts gL_act_X3_back rfl rfl rfl (by decide +kernel) ⟨Nat.le_of_ble_eq_true rfl, Nat.le_of_ble_eq_true rfl⟩) (gx_obj hZ hG 8 0 hR.k8 rfl) hZ hG hS rfl hl.1 rfl (Nat.le_of_ble_eq_true rfl) dL_act_861 ⟨Nat.le_of_ble_eq_true rfl, Nat.le_of_ble_eq_true rfl⟩) hS (fun H locs hG hS hsz => ?_)
          have hR := hR.back (c := c)
          refine lv_goto (tgt := 968) hx hb dL_act_864 (by decide) ?_
          refine W.widen (k := 4) (n := 20) (by decide) (by decide) ?_
          exact act_end l hl0 ⟨hx, hb, hml, hown, hts, hbt⟩ hZ hG hS hA ⟨Nat.le_refl _, by omega, hB1⟩ (congrArg nI (Nat.add_comm _ _)) (lv_sub hl [3, 1, 0] rfl) kk
    · skip
      exact absurd (show (11 : Int32) ≤ nI q from nI_le (a := 11) (by omega) (by omega)) c_2
  · skip
    exact absurd (show (8 : Int32) ≤ nI q from nI_le (a := 8) (by omega) (by omega)) c_1
set_option maxHeartbeats 4000000 in
set_option maxRecDepth 100000 in
theorem act_refuse_thr (l : Launch) (hl0 : l.stackTraces = false) (C : AC p s m c0 args) (hZ : ZZ g s) (hG : GW g σ w H) (hS : va_S (gA g) s.heap H locs) {x : Int32} {q c : Nat} {off : Bool} (hB1 : B1 ≤ B + 300) (hX : Xok g σ) (hcg : c < gcn g 16) (hq11 : q = 11) (hE2 : xAcceptE σ (nI c) = 2) (hR : Rr g σ) (hoff : off = false) (hA : AO g hs t B1 σ σ) (hl : lv_has ls 10 [(0, .ref (gad g 0 0)), (1, .ref (gad g 8 0)), (2, .int (x)), (3, .int (nI q)), (4, .int (nI c)), (5, .int (-3)), (6, .int (bI off)), (7, .int (-3))]) (kk : AE p l e s m args below meth c0 Q g hs t B σ w) : W p l e rmA s m args below meth c0 H locs 0 0 Q (F0 m 551 ls []) := by
  obtain ⟨hx, hb, hml, hown, hts, hbt⟩ := C
  have k1 := hts (.classLink RL 72 "java/lang/IllegalStateException") (by decide +kernel)
  refine lv_aload_n hx hb dL_act_551 rfl (lv_at hl 0 rfl) ?_
  refine lv_iload hx hb dL_act_552 (lv_at hl 4 rfl) ?_
  refine gx_cMx (gx_xrunV (As := [.int (nI c)]) (rest := []) ⟨hx, hb, hml, hown, hts⟩ (c_X2_refuse l hl0 g σ w (nI c) hX) (cwV 1 hts gL_act_X2_refuse rfl rfl rfl (by decide +kernel) ⟨Nat.le_of_ble_eq_true rfl, Nat.le_of_ble_eq_true rfl⟩) (gx_obj hZ hG 0 0 hX.k0 rfl) hZ hG hS rfl hl.1 rfl (Nat.le_of_ble_eq_true rfl) dL_act_554 ⟨Nat.le_of_ble_eq_true rfl, Nat.le_of_ble_eq_true rfl⟩) hG hS (fun E ce q9 H1 locs1 hPE hG hS hz1 hk1 hce hcv hcl => ?_) (fun H locs hD hG hS hsz => absurd (hD.symm.trans hE2) (by decide))
  rcases hPE with ⟨-, hE⟩ | ⟨rfl, hE⟩
  · exact absurd (hE.symm.trans hE2) (by decide)
  refine vx_catch hown [] ⟨467, 627, 630, 72⟩ [] (hbt.trans rfl) (fun z hz => nomatch hz) (by decide) (by decide) k1 (va_Nw.use rfl (hZ.2.2.2.2.2.1 ("java/lang/IllegalStateException", "java/lang/IllegalStateException") (by decide +kernel))) hce hcv hcl ?_
  refine W.eq (g2 := F0 m 630 ls [.ref q9]) rfl ?_
  refine lv_astore (lv' := [(8, .ref q9), (0, .ref (gad g 0 0)), (1, .ref (gad g 8 0)), (2, .int (x)), (3, .int (nI q)), (4, .int (nI c)), (5, .int (-3)), (6, .int (bI off)), (7, .int (-3))]) hx hb dL_act_630 hl (by decide) rfl (fun ls hl => ?_)
  refine lv_bipush (v := (-3)) hx hb dL_act_632 (by decide) ?_
  refine lv_istore (lv' := [(5, .int (-3)), (8, .ref q9), (0, .ref (gad g 0 0)), (1, .ref (gad g 8 0)), (2, .int (x)), (3, .int (nI q)), (4, .int (nI c)), (6, .int (bI off)), (7, .int (-3))]) hx hb dL_act_634 hl (by decide) rfl (fun ls hl => ?_)
  refine lv_iload_n hx hb dL_act_636 rfl (lv_at hl 5 rfl) ?_
  refine lv_bipush (v := 8) hx hb dL_act_637 (by decide) ?_
  refine lv_icmp_ge (tgt := 795) hx hb dL_act_639 (by decide) (fun c_1 => ?_) (fun c_1 => ?_)
  · skip
    refine lv_iload_n hx hb dL_act_795 rfl (lv_at hl 5 rfl) ?_
    refine lv_bipush (v := 11) hx hb dL_act_796 (by decide) ?_
    refine lv_icmp_ge (tgt := 826) hx hb dL_act_798 (by decide) (fun c_2 => ?_) (fun c_2 => ?_)
    · skip
      refine lv_iload_n hx hb dL_act_826 rfl (lv_at hl 5 rfl) ?_
      refine lv_bipush (v := 11) hx hb dL_act_827 (by decide) ?_
      refine lv_icmp_ne (tgt := 867) hx hb dL_act_829 (by decide) (fun c_3 => ?_) (fun c_3 => ?_)
      · skip
        exact absurd (show nI q = (11 : Int32) from congrArg nI (show q = 11 by omega)) c_3
      · skip
        refine lv_iload hx hb dL_act_832 (lv_at hl 7 rfl) ?_
        refine lv_if_eq (tgt := 867) hx hb dL_act_834 (by decide) (fun c_4 => ?_) (fun c_4 => ?_)
        · skip
          have c_4 := bI_eq0.mp c_4
          refine lv_iload_n hx hb dL_act_867 rfl (lv_at hl 5 rfl) ?_
          refine lv_bipush (v := 12) hx hb dL_act_868 (by decide) ?_
          refine lv_icmp_ne (tgt := 920) hx hb dL_act_870 (by decide) (fun c_5 => ?_) (fun c_5 => ?_)
          · skip
            refine lv_iload_n hx hb dL_act_920 rfl (lv_at hl 5 rfl) ?_
            refine lv_bipush (v := 12) hx hb dL_act_921 (by decide) ?_
            refine lv_icmp_le (tgt := 968) hx hb dL_act_923 (by decide) (fun c_6 => ?_) (fun c_6 => ?_)
            · skip
              refine W.widen (k := 4) (n := 20) (by decide) (by decide) ?_
              exact act_end l hl0 ⟨hx, hb, hml, hown, hts, hbt⟩ hZ hG hS hA ⟨Nat.le_refl _, by omega, hB1⟩ rfl (lv_sub hl [3, 0, 8] rfl) kk
            · skip
              exact absurd (show nI q ≤ (12 : Int32) from nI_le (b := 12) (by omega) (by omega)) c_6
          · skip
            exact absurd (nI_inj (b := 12) (by omega) (by omega) c_5) (by omega)
        · skip
          have c_4 := bI_ne0.mp c_4
          exact absurd (hoff.symm.trans c_4) (by decide)
    · skip
      exact absurd (show (11 : Int32) ≤ nI q from nI_le (a := 11) (by omega) (by omega)) c_2
  · skip
    exact absurd (show (8 : Int32) ≤ nI q from nI_le (a := 8) (by omega) (by omega)) c_1
set_option maxHeartbeats 4000000 in
set_option maxRecDepth 100000 in
theorem act_cancel_ok (l : Launch) (hl0 : l.stackTraces = false) (C : AC p s m c0 args) (hZ : ZZ g s) (hG : GW g σ w H) (hS : va_S (gA g) s.heap H locs) {x : Int32} {q c : Nat} {off : Bool} (hB1 : B1 ≤ B + 300) (hX : Xok g σ) (hcg : c < gcn g 16) (hq12 : q = 12) (hc0 : 0 < gcn g 17) (hc60 : gcn g 17 ≤ 60) {o : Nat} (ho : o < gcn g 17) (hbo : xBl (x >>> (3 &&& 31)) (nI (gcn g 17)) = nI o) (e1 : xCancel σ (nI o) = σ1) (hE0 : xCancelE σ (nI o) = 0) (hR : Rr g σ) (hR1 : Rr g σ1) (h3 : ¬ (3 : Int32) ≤ σ1 17 o 4) (h1 : σ1 17 o 4 = 1 → inN (gcn g 16) (σ1 17 o 5)) (h2 : σ1 17 o 4 = 2 → ∃ c z, c < gcn g 16 ∧ σ1 17 o 5 = nI c ∧ z < 6 ∧ σ1 16 c 1 = nI z ∧ σ1 18 z 0 = nI (rQn σ1 z) ∧ rQn σ1 z ≤ 9) (hA : AO g hs t B1 σ (rCan σ1 o)) (hval : σ 7 (ix (nI o)) 5 = σ1 17 o 4) (hl : lv_has ls 10 [(0, .ref (gad g 0 0)), (1, .ref (gad g 8 0)), (2, .int (x)), (3, .int (nI q)), (4, .int (nI c)), (5, .int (-3)), (6, .int (bI off)), (7, .int (-3))]) (kk : AE p l e s m args below meth c0 Q g hs t B σ w) : W p l e rmA s m args below meth c0 H locs 0 0 Q (F0 m 572 ls []) := by
  obtain ⟨hx, hb, hml, hown, hts, hbt⟩ := C
  have k1 := hts (.fieldLink RL 30 "TaxiRankLaw$Rank" "all" "I") (by decide +kernel)
  have k2 := hts (.fieldLink RL 36 "TaxiRankLaw$Rank" "orders" "[[I") (by decide +kernel)
  refine lv_aload_n hx hb dL_act_572 rfl (lv_at hl 1 rfl) ?_
  refine gx_get hx hb hown hZ hG 8 0 7 hR.k8 rfl (by decide) k1 (fun _ h => h) (v := .int (nI (gcn g 17))) (congrArg Value.int hR.na) dL_act_573 ?_
  refine lv_if_ne (tgt := 584) hx hb dL_act_576 (by decide) (fun c_1 => ?_) (fun c_1 => ?_)
  · skip
    refine lv_aload_n hx hb dL_act_584 rfl (lv_at hl 0 rfl) ?_
    refine lv_iload_n hx hb dL_act_585 rfl (lv_at hl 2 rfl) ?_
    refine lv_iconst (v := 3) hx hb dL_act_586 (by decide) ?_
    refine lv_ishr hx hb dL_act_587 ?_
    refine lv_aload_n hx hb dL_act_588 rfl (lv_at hl 1 rfl) ?_
    refine gx_get hx hb hown hZ hG 8 0 7 hR.k8 rfl (by decide) k1 (fun _ h => h) (v := .int (nI (gcn g 17))) (congrArg Value.int hR.na) dL_act_589 ?_
    refine gx_cR (gx_runS (As := [.int (x >>> (3 &&& 31)), .int (nI (gcn g 17))]) (rest := [.ref (gad g 0 0)]) ⟨hx, hb, hml, hown, hts⟩ (c_L_below l g σ w (x >>> (3 &&& 31)) (nI (gcn g 17)) (nI_ne0 hc0 (by omega))) (va_cwS 2 hts gL_act_L_below rfl rfl rfl (by decide +kernel) ⟨Nat.le_of_ble_eq_true rfl, Nat.le_of_ble_eq_true rfl⟩) hZ hG hS rfl hl.1 rfl (Nat.le_of_ble_eq_true rfl) dL_act_592 ⟨Nat.le_of_ble_eq_true rfl, Nat.le_of_ble_eq_true rfl⟩) ?_
    refine gx_topN (y := nI o) hbo ?_
    refine gx_cMx (gx_xrunV (As := [.int (nI o)]) (rest := []) ⟨hx, hb, hml, hown, hts⟩ (c_X2_cancel l hl0 g σ w (nI o) hX) (cwV 1 hts gL_act_X2_cancel rfl rfl rfl (by decide +kernel) ⟨Nat.le_of_ble_eq_true rfl, Nat.le_of_ble_eq_true rfl⟩) (gx_obj hZ hG 0 0 hX.k0 rfl) hZ hG hS rfl hl.1 rfl (Nat.le_of_ble_eq_true rfl) dL_act_595 ⟨Nat.le_of_ble_eq_true rfl, Nat.le_of_ble_eq_true rfl⟩) hG hS (fun E ce q9 H1 locs1 hPE hG hS hz1 hk1 hce hcv hcl => ?_) (fun H locs hD hG hS hsz => ?_)
    · rcases hPE with ⟨-, hE⟩ | ⟨-, hE⟩ <;> exact absurd (hE.symm.trans hE0) (by decide)
    rw [e1] at hG
    refine gx_topN (y := σ1 17 o 4) hval ?_
    have hR := hR1
    refine lv_sipush (v := 5000) hx hb dL_act_598 (by decide) ?_
    refine lv_iadd hx hb dL_act_601 ?_
    refine lv_istore (lv' := [(5, .int ((σ1 17 o 4) + 5000)), (0, .ref (gad g 0 0)), (1, .ref (gad g 8 0)), (2, .int (x)), (3, .int (nI q)), (4, .int (nI c)), (6, .int (bI off)), (7, .int (-3))]) hx hb dL_act_602 hl (by decide) rfl (fun ls hl => ?_)
    refine lv_goto (tgt := 627) hx hb dL_act_604 (by decide) ?_
    refine lv_goto (tgt := 636) hx hb dL_act_627 (by decide) ?_
    refine lv_iload_n hx hb dL_act_636 rfl (lv_at hl 4 rfl) ?_
    refine lv_bipush (v := 8) hx hb dL_act_637 (by decide) ?_
    refine lv_icmp_ge (tgt := 795) hx hb dL_act_639 (by decide) (fun c_2 => ?_) (fun c_2 => ?_)
    · skip
      refine lv_iload_n hx hb dL_act_795 rfl (lv_at hl 4 rfl) ?_
      refine lv_bipush (v := 11) hx hb dL_act_796 (by decide) ?_
      refine lv_icmp_ge (tgt := 826) hx hb dL_act_798 (by decide) (fun c_3 => ?_) (fun c_3 => ?_)
      · skip
        refine lv_iload_n hx hb dL_act_826 rfl (lv_at hl 4 rfl) ?_
        refine lv_bipush (v := 11) hx hb dL_act_827 (by decide) ?_
        refine lv_icmp_ne (tgt := 867) hx hb dL_act_829 (by decide) (fun c_4 => ?_) (fun c_4 => ?_)
        · skip
          refine lv_iload_n hx hb dL_act_867 rfl (lv_at hl 4 rfl) ?_
          refine lv_bipush (v := 12) hx hb dL_act_868 (by decide) ?_
          refine lv_icmp_ne (tgt := 920) hx hb dL_act_870 (by decide) (fun c_5 => ?_) (fun c_5 => ?_)
          · skip
            exact absurd (show nI q = (12 : Int32) from congrArg nI (show q = 12 by omega)) c_5
          · skip
            refine lv_aload_n hx hb dL_act_873 rfl (lv_at hl 2 rfl) ?_
            refine gx_get hx hb hown hZ hG 8 0 7 hR.k8 rfl (by decide) k1 (fun _ h => h) (v := .int (nI (gcn g 17))) (congrArg Value.int hR.na) dL_act_874 ?_
            refine lv_if_le (tgt := 920) hx hb dL_act_877 (by decide) (fun c_6 => ?_) (fun c_6 => ?_)
            · skip
              exact absurd c_6 (nI_nle hc0 (by omega))
            · skip
              refine lv_iload_n hx hb dL_act_880 rfl (lv_at hl 3 rfl) ?_
              refine lv_iconst (v := 3) hx hb dL_act_881 (by decide) ?_
              refine lv_ishr hx hb dL_act_882 ?_
              refine lv_aload_n hx hb dL_act_883 rfl (lv_at hl 2 rfl) ?_
              refine gx_get hx hb hown hZ hG 8 0 7 hR.k8 rfl (by decide) k1 (fun _ h => h) (v := .int (nI (gcn g 17))) (congrArg Value.int hR.na) dL_act_884 ?_
              refine gx_cR (gx_runS (As := [.int (x >>> (3 &&& 31)), .int (nI (gcn g 17))]) (rest := []) ⟨hx, hb, hml, hown, hts⟩ (c_L_below l g σ1 w (x >>> (3 &&& 31)) (nI (gcn g 17)) (nI_ne0 hc0 (by omega))) (va_cwS 2 hts gL_act_L_below rfl rfl rfl (by decide +kernel) ⟨Nat.le_of_ble_eq_true rfl, Nat.le_of_ble_eq_true rfl⟩) hZ hG hS rfl hl.1 rfl (Nat.le_of_ble_eq_true rfl) dL_act_887 ⟨Nat.le_of_ble_eq_true rfl, Nat.le_of_ble_eq_true rfl⟩) ?_
              refine gx_topN (y := nI o) hbo ?_
              refine lv_istore (lv' := [(8, .int (nI o)), (5, .int ((σ1 17 o 4) + 5000)), (0, .ref (gad g 0 0)), (1, .ref (gad g 8 0)), (2, .int (x)), (3, .int (nI q)), (4, .int (nI c)), (6, .int (bI off)), (7, .int (-3))]) hx hb dL_act_890 hl (by decide) rfl (fun ls hl => ?_)
              refine lv_aload_n hx hb dL_act_892 rfl (lv_at hl 3 rfl) ?_
              refine gx_get hx hb hown hZ hG 8 0 2 hR.k8 rfl (by decide) k2 (fun _ h => h) (v := .ref (gad g 11 0)) (grf_z (hR.rf (f := 2) (by decide))) dL_act_893 ?_
              refine lv_iload hx hb dL_act_896 (lv_at hl 0 rfl) ?_
              refine gx_rt hx hb hZ hG hR 11 o (by rfl) (by decide) (by decide) ho (by decide) dL_act_898 ?_
              refine lv_iconst (v := 4) hx hb dL_act_899 (by decide) ?_
              refine gx_aldN hx hb hZ hG 17 o 4 (by rfl) (hR.rb 11 (by decide) (by decide) ho) rfl rfl ⟨by rw [hR.ln 17 (by decide) (by decide) (hR.rb 11 (by decide) (by decide) ho)]; decide, by decide⟩ (v := .int (σ1 17 o 4)) rfl dL_act_900 ?_
              refine lv_iconst (v := 3) hx hb dL_act_901 (by decide) ?_
              refine lv_icmp_ge (tgt := 917) hx hb dL_act_902 (by decide) (fun c_7 => ?_) (fun c_7 => ?_)
              · skip
                exact absurd c_7 h3
              · skip
                refine lv_sipush (v := 5000) hx hb dL_act_905 (by decide) ?_
                refine lv_aload_n hx hb dL_act_908 rfl (lv_at hl 3 rfl) ?_
                refine lv_iload hx hb dL_act_909 (lv_at hl 0 rfl) ?_
                refine gx_cM (gx_runV (As := [.int (nI o)]) (rest := [.int (5000)]) ⟨hx, hb, hml, hown, hts⟩ (c_X3_cancel l g σ1 w o hR ho h1 h2) (cwV 1 hts gL_act_X3_cancel rfl rfl rfl (by decide +kernel) ⟨Nat.le_of_ble_eq_true rfl, Nat.le_of_ble_eq_true rfl⟩) (gx_obj hZ hG 8 0 hR.k8 rfl) hZ hG hS rfl hl.1 rfl (Nat.le_of_ble_eq_true rfl) dL_act_911 ⟨Nat.le_of_ble_eq_true rfl, Nat.le_of_ble_eq_true rfl⟩) hS (fun H locs hG hS hsz => ?_)
                refine lv_iadd hx hb dL_act_914 ?_
                refine lv_istore (lv' := [(7, .int (5000 + (σ1 17 o 4))), (8, .int (nI o)), (5, .int ((σ1 17 o 4) + 5000)), (0, .ref (gad g 0 0)), (1, .ref (gad g 8 0)), (2, .int (x)), (3, .int (nI q)), (4, .int (nI c)), (6, .int (bI off))]) hx hb dL_act_915 hl (by decide) rfl (fun ls hl => ?_)
                refine lv_goto (tgt := 968) hx hb dL_act_917 (by decide) ?_
                refine W.widen (k := 4) (n := 20) (by decide) (by decide) ?_
                exact act_end l hl0 ⟨hx, hb, hml, hown, hts, hbt⟩ hZ hG hS hA ⟨Nat.le_refl _, by omega, hB1⟩ (Int32.add_comm _ _) (lv_sub hl [4, 2, 0] rfl) kk
        · skip
          exact absurd (nI_inj (b := 11) (by omega) (by omega) c_4) (by omega)
      · skip
        exact absurd (show (11 : Int32) ≤ nI q from nI_le (a := 11) (by omega) (by omega)) c_3
    · skip
      exact absurd (show (8 : Int32) ≤ nI q from nI_le (a := 8) (by omega) (by omega)) c_2
  · skip
    exact absurd c_1 (nI_ne0 hc0 (by omega))
set_option maxHeartbeats 4000000 in
set_option maxRecDepth 100000 in
theorem act_cancel_thr (l : Launch) (hl0 : l.stackTraces = false) (C : AC p s m c0 args) (hZ : ZZ g s) (hG : GW g σ w H) (hS : va_S (gA g) s.heap H locs) {x : Int32} {q c : Nat} {off : Bool} (hB1 : B1 ≤ B + 300) (hX : Xok g σ) (hcg : c < gcn g 16) (hq12 : q = 12) (hc0 : 0 < gcn g 17) (hc60 : gcn g 17 ≤ 60) {o : Nat} (ho : o < gcn g 17) (hbo : xBl (x >>> (3 &&& 31)) (nI (gcn g 17)) = nI o) (hE2 : xCancelE σ (nI o) = 2) (hR : Rr g σ) (h3 : (3 : Int32) ≤ σ 17 o 4) (hA : AO g hs t B1 σ σ) (hl : lv_has ls 10 [(0, .ref (gad g 0 0)), (1, .ref (gad g 8 0)), (2, .int (x)), (3, .int (nI q)), (4, .int (nI c)), (5, .int (-3)), (6, .int (bI off)), (7, .int (-3))]) (kk : AE p l e s m args below meth c0 Q g hs t B σ w) : W p l e rmA s m args below meth c0 H locs 0 0 Q (F0 m 572 ls []) := by
  obtain ⟨hx, hb, hml, hown, hts, hbt⟩ := C
  have k1 := hts (.fieldLink RL 30 "TaxiRankLaw$Rank" "all" "I") (by decide +kernel)
  have k2 := hts (.classLink RL 72 "java/lang/IllegalStateException") (by decide +kernel)
  have k3 := hts (.fieldLink RL 36 "TaxiRankLaw$Rank" "orders" "[[I") (by decide +kernel)
  refine lv_aload_n hx hb dL_act_572 rfl (lv_at hl 1 rfl) ?_
  refine gx_get hx hb hown hZ hG 8 0 7 hR.k8 rfl (by decide) k1 (fun _ h => h) (v := .int (nI (gcn g 17))) (congrArg Value.int hR.na) dL_act_573 ?_
  refine lv_if_ne (tgt := 584) hx hb dL_act_576 (by decide) (fun c_1 => ?_) (fun c_1 => ?_)
  · skip
    refine lv_aload_n hx hb dL_act_584 rfl (lv_at hl 0 rfl) ?_
    refine lv_iload_n hx hb dL_act_585 rfl (lv_at hl 2 rfl) ?_
    refine lv_iconst (v := 3) hx hb dL_act_586 (by decide) ?_
    refine lv_ishr hx hb dL_act_587 ?_
    refine lv_aload_n hx hb dL_act_588 rfl (lv_at hl 1 rfl) ?_
    refine gx_get hx hb hown hZ hG 8 0 7 hR.k8 rfl (by decide) k1 (fun _ h => h) (v := .int (nI (gcn g 17))) (congrArg Value.int hR.na) dL_act_589 ?_
    refine gx_cR (gx_runS (As := [.int (x >>> (3 &&& 31)), .int (nI (gcn g 17))]) (rest := [.ref (gad g 0 0)]) ⟨hx, hb, hml, hown, hts⟩ (c_L_below l g σ w (x >>> (3 &&& 31)) (nI (gcn g 17)) (nI_ne0 hc0 (by omega))) (va_cwS 2 hts gL_act_L_below rfl rfl rfl (by decide +kernel) ⟨Nat.le_of_ble_eq_true rfl, Nat.le_of_ble_eq_true rfl⟩) hZ hG hS rfl hl.1 rfl (Nat.le_of_ble_eq_true rfl) dL_act_592 ⟨Nat.le_of_ble_eq_true rfl, Nat.le_of_ble_eq_true rfl⟩) ?_
    refine gx_topN (y := nI o) hbo ?_
    refine gx_cMx (gx_xrunV (As := [.int (nI o)]) (rest := []) ⟨hx, hb, hml, hown, hts⟩ (c_X2_cancel l hl0 g σ w (nI o) hX) (cwV 1 hts gL_act_X2_cancel rfl rfl rfl (by decide +kernel) ⟨Nat.le_of_ble_eq_true rfl, Nat.le_of_ble_eq_true rfl⟩) (gx_obj hZ hG 0 0 hX.k0 rfl) hZ hG hS rfl hl.1 rfl (Nat.le_of_ble_eq_true rfl) dL_act_595 ⟨Nat.le_of_ble_eq_true rfl, Nat.le_of_ble_eq_true rfl⟩) hG hS (fun E ce q9 H1 locs1 hPE hG hS hz1 hk1 hce hcv hcl => ?_) (fun H locs hD hG hS hsz => absurd (hD.symm.trans hE2) (by decide))
    rcases hPE with ⟨-, hE⟩ | ⟨rfl, hE⟩
    · exact absurd (hE.symm.trans hE2) (by decide)
    refine vx_catch hown [] ⟨467, 627, 630, 72⟩ [] (hbt.trans rfl) (fun z hz => nomatch hz) (by decide) (by decide) k2 (va_Nw.use rfl (hZ.2.2.2.2.2.1 ("java/lang/IllegalStateException", "java/lang/IllegalStateException") (by decide +kernel))) hce hcv hcl ?_
    refine W.eq (g2 := F0 m 630 ls [.ref q9]) rfl ?_
    refine lv_astore (lv' := [(8, .ref q9), (0, .ref (gad g 0 0)), (1, .ref (gad g 8 0)), (2, .int (x)), (3, .int (nI q)), (4, .int (nI c)), (5, .int (-3)), (6, .int (bI off)), (7, .int (-3))]) hx hb dL_act_630 hl (by decide) rfl (fun ls hl => ?_)
    refine lv_bipush (v := (-3)) hx hb dL_act_632 (by decide) ?_
    refine lv_istore (lv' := [(5, .int (-3)), (8, .ref q9), (0, .ref (gad g 0 0)), (1, .ref (gad g 8 0)), (2, .int (x)), (3, .int (nI q)), (4, .int (nI c)), (6, .int (bI off)), (7, .int (-3))]) hx hb dL_act_634 hl (by decide) rfl (fun ls hl => ?_)
    refine lv_iload_n hx hb dL_act_636 rfl (lv_at hl 5 rfl) ?_
    refine lv_bipush (v := 8) hx hb dL_act_637 (by decide) ?_
    refine lv_icmp_ge (tgt := 795) hx hb dL_act_639 (by decide) (fun c_2 => ?_) (fun c_2 => ?_)
    · skip
      refine lv_iload_n hx hb dL_act_795 rfl (lv_at hl 5 rfl) ?_
      refine lv_bipush (v := 11) hx hb dL_act_796 (by decide) ?_
      refine lv_icmp_ge (tgt := 826) hx hb dL_act_798 (by decide) (fun c_3 => ?_) (fun c_3 => ?_)
      · skip
        refine lv_iload_n hx hb dL_act_826 rfl (lv_at hl 5 rfl) ?_
        refine lv_bipush (v := 11) hx hb dL_act_827 (by decide) ?_
        refine lv_icmp_ne (tgt := 867) hx hb dL_act_829 (by decide) (fun c_4 => ?_) (fun c_4 => ?_)
        · skip
          refine lv_iload_n hx hb dL_act_867 rfl (lv_at hl 5 rfl) ?_
          refine lv_bipush (v := 12) hx hb dL_act_868 (by decide) ?_
          refine lv_icmp_ne (tgt := 920) hx hb dL_act_870 (by decide) (fun c_5 => ?_) (fun c_5 => ?_)
          · skip
            exact absurd (show nI q = (12 : Int32) from congrArg nI (show q = 12 by omega)) c_5
          · skip
            refine lv_aload_n hx hb dL_act_873 rfl (lv_at hl 3 rfl) ?_
            refine gx_get hx hb hown hZ hG 8 0 7 hR.k8 rfl (by decide) k1 (fun _ h => h) (v := .int (nI (gcn g 17))) (congrArg Value.int hR.na) dL_act_874 ?_
            refine lv_if_le (tgt := 920) hx hb dL_act_877 (by decide) (fun c_6 => ?_) (fun c_6 => ?_)
            · skip
              exact absurd c_6 (nI_nle hc0 (by omega))
            · skip
              refine lv_iload_n hx hb dL_act_880 rfl (lv_at hl 4 rfl) ?_
              refine lv_iconst (v := 3) hx hb dL_act_881 (by decide) ?_
              refine lv_ishr hx hb dL_act_882 ?_
              refine lv_aload_n hx hb dL_act_883 rfl (lv_at hl 3 rfl) ?_
              refine gx_get hx hb hown hZ hG 8 0 7 hR.k8 rfl (by decide) k1 (fun _ h => h) (v := .int (nI (gcn g 17))) (congrArg Value.int hR.na) dL_act_884 ?_
              refine gx_cR (gx_runS (As := [.int (x >>> (3 &&& 31)), .int (nI (gcn g 17))]) (rest := []) ⟨hx, hb, hml, hown, hts⟩ (c_L_below l g σ w (x >>> (3 &&& 31)) (nI (gcn g 17)) (nI_ne0 hc0 (by omega))) (va_cwS 2 hts gL_act_L_below rfl rfl rfl (by decide +kernel) ⟨Nat.le_of_ble_eq_true rfl, Nat.le_of_ble_eq_true rfl⟩) hZ hG hS rfl hl.1 rfl (Nat.le_of_ble_eq_true rfl) dL_act_887 ⟨Nat.le_of_ble_eq_true rfl, Nat.le_of_ble_eq_true rfl⟩) ?_
              refine gx_topN (y := nI o) hbo ?_
              refine lv_istore (lv' := [(8, .int (nI o)), (5, .int (-3)), (0, .ref (gad g 0 0)), (1, .ref (gad g 8 0)), (2, .int (x)), (3, .int (nI q)), (4, .int (nI c)), (6, .int (bI off)), (7, .int (-3))]) hx hb dL_act_890 hl (by decide) rfl (fun ls hl => ?_)
              refine lv_aload_n hx hb dL_act_892 rfl (lv_at hl 3 rfl) ?_
              refine gx_get hx hb hown hZ hG 8 0 2 hR.k8 rfl (by decide) k3 (fun _ h => h) (v := .ref (gad g 11 0)) (grf_z (hR.rf (f := 2) (by decide))) dL_act_893 ?_
              refine lv_iload hx hb dL_act_896 (lv_at hl 0 rfl) ?_
              refine gx_rt hx hb hZ hG hR 11 o (by rfl) (by decide) (by decide) ho (by decide) dL_act_898 ?_
              refine lv_iconst (v := 4) hx hb dL_act_899 (by decide) ?_
              refine gx_aldN hx hb hZ hG 17 o 4 (by rfl) (hR.rb 11 (by decide) (by decide) ho) rfl rfl ⟨by rw [hR.ln 17 (by decide) (by decide) (hR.rb 11 (by decide) (by decide) ho)]; decide, by decide⟩ (v := .int (σ 17 o 4)) rfl dL_act_900 ?_
              refine lv_iconst (v := 3) hx hb dL_act_901 (by decide) ?_
              refine lv_icmp_ge (tgt := 917) hx hb dL_act_902 (by decide) (fun c_7 => ?_) (fun c_7 => ?_)
              · skip
                refine lv_goto (tgt := 968) hx hb dL_act_917 (by decide) ?_
                refine W.widen (k := 4) (n := 20) (by decide) (by decide) ?_
                exact act_end l hl0 ⟨hx, hb, hml, hown, hts, hbt⟩ hZ hG hS hA ⟨Nat.le_refl _, by omega, hB1⟩ rfl (lv_sub hl [3, 1, 8] rfl) kk
              · skip
                exact absurd h3 c_7
        · skip
          exact absurd (nI_inj (b := 11) (by omega) (by omega) c_4) (by omega)
      · skip
        exact absurd (show (11 : Int32) ≤ nI q from nI_le (a := 11) (by omega) (by omega)) c_3
    · skip
      exact absurd (show (8 : Int32) ≤ nI q from nI_le (a := 8) (by omega) (by omega)) c_2
  · skip
    exact absurd c_1 (nI_ne0 hc0 (by omega))
set_option maxHeartbeats 4000000 in
set_option maxRecDepth 100000 in
theorem act_cancel_none (l : Launch) (hl0 : l.stackTraces = false) (C : AC p s m c0 args) (hZ : ZZ g s) (hG : GW g σ w H) (hS : va_S (gA g) s.heap H locs) {x : Int32} {q c : Nat} {off : Bool} (hB1 : B1 ≤ B + 300) (hX : Xok g σ) (hcg : c < gcn g 16) (hq12 : q = 12) (hc0 : gcn g 17 = 0) (hR : Rr g σ) (hA : AO g hs t B1 σ σ) (hl : lv_has ls 10 [(0, .ref (gad g 0 0)), (1, .ref (gad g 8 0)), (2, .int (x)), (3, .int (nI q)), (4, .int (nI c)), (5, .int (-3)), (6, .int (bI off)), (7, .int (-3))]) (kk : AE p l e s m args below meth c0 Q g hs t B σ w) : W p l e rmA s m args below meth c0 H locs 0 0 Q (F0 m 572 ls []) := by
  obtain ⟨hx, hb, hml, hown, hts, hbt⟩ := C
  have k1 := hts (.fieldLink RL 30 "TaxiRankLaw$Rank" "all" "I") (by decide +kernel)
  refine lv_aload_n hx hb dL_act_572 rfl (lv_at hl 1 rfl) ?_
  refine gx_get hx hb hown hZ hG 8 0 7 hR.k8 rfl (by decide) k1 (fun _ h => h) (v := .int (nI (gcn g 17))) (congrArg Value.int hR.na) dL_act_573 ?_
  refine lv_if_ne (tgt := 584) hx hb dL_act_576 (by decide) (fun c_1 => ?_) (fun c_1 => ?_)
  · skip
    exact absurd (by rw [hc0]; decide) c_1
  · skip
    refine lv_bipush (v := (-3)) hx hb dL_act_579 (by decide) ?_
    refine lv_goto (tgt := 602) hx hb dL_act_581 (by decide) ?_
    refine lv_istore (lv' := [(5, .int (-3)), (0, .ref (gad g 0 0)), (1, .ref (gad g 8 0)), (2, .int (x)), (3, .int (nI q)), (4, .int (nI c)), (6, .int (bI off)), (7, .int (-3))]) hx hb dL_act_602 hl (by decide) rfl (fun ls hl => ?_)
    refine lv_goto (tgt := 627) hx hb dL_act_604 (by decide) ?_
    refine lv_goto (tgt := 636) hx hb dL_act_627 (by decide) ?_
    refine lv_iload_n hx hb dL_act_636 rfl (lv_at hl 4 rfl) ?_
    refine lv_bipush (v := 8) hx hb dL_act_637 (by decide) ?_
    refine lv_icmp_ge (tgt := 795) hx hb dL_act_639 (by decide) (fun c_2 => ?_) (fun c_2 => ?_)
    · skip
      refine lv_iload_n hx hb dL_act_795 rfl (lv_at hl 4 rfl) ?_
      refine lv_bipush (v := 11) hx hb dL_act_796 (by decide) ?_
      refine lv_icmp_ge (tgt := 826) hx hb dL_act_798 (by decide) (fun c_3 => ?_) (fun c_3 => ?_)
      · skip
        refine lv_iload_n hx hb dL_act_826 rfl (lv_at hl 4 rfl) ?_
        refine lv_bipush (v := 11) hx hb dL_act_827 (by decide) ?_
        refine lv_icmp_ne (tgt := 867) hx hb dL_act_829 (by decide) (fun c_4 => ?_) (fun c_4 => ?_)
        · skip
          refine lv_iload_n hx hb dL_act_867 rfl (lv_at hl 4 rfl) ?_
          refine lv_bipush (v := 12) hx hb dL_act_868 (by decide) ?_
          refine lv_icmp_ne (tgt := 920) hx hb dL_act_870 (by decide) (fun c_5 => ?_) (fun c_5 => ?_)
          · skip
            exact absurd (show nI q = (12 : Int32) from congrArg nI (show q = 12 by omega)) c_5
          · skip
            refine lv_aload_n hx hb dL_act_873 rfl (lv_at hl 2 rfl) ?_
            refine gx_get hx hb hown hZ hG 8 0 7 hR.k8 rfl (by decide) k1 (fun _ h => h) (v := .int (nI (gcn g 17))) (congrArg Value.int hR.na) dL_act_874 ?_
            refine lv_if_le (tgt := 920) hx hb dL_act_877 (by decide) (fun c_6 => ?_) (fun c_6 => ?_)
            · skip
              refine lv_iload_n hx hb dL_act_920 rfl (lv_at hl 4 rfl) ?_
              refine lv_bipush (v := 12) hx hb dL_act_921 (by decide) ?_
              refine lv_icmp_le (tgt := 968) hx hb dL_act_923 (by decide) (fun c_7 => ?_) (fun c_7 => ?_)
              · skip
                refine W.widen (k := 4) (n := 20) (by decide) (by decide) ?_
                exact act_end l hl0 ⟨hx, hb, hml, hown, hts, hbt⟩ hZ hG hS hA ⟨Nat.le_refl _, by omega, hB1⟩ rfl (lv_sub hl [2, 0, 7] rfl) kk
              · skip
                exact absurd (show nI q ≤ (12 : Int32) from nI_le (b := 12) (by omega) (by omega)) c_7
            · skip
              exact absurd (by rw [hc0]; decide) c_6
        · skip
          exact absurd (nI_inj (b := 11) (by omega) (by omega) c_4) (by omega)
      · skip
        exact absurd (show (11 : Int32) ≤ nI q from nI_le (a := 11) (by omega) (by omega)) c_3
    · skip
      exact absurd (show (8 : Int32) ≤ nI q from nI_le (a := 8) (by omega) (by omega)) c_2
end ACT
