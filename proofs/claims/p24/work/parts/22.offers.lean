theorem lt_of_nle {n k : Nat} (h : ¬ nI n ≤ nI k) (hk : k < 2 ^ 31) : k < n := by
  rcases Nat.lt_or_ge k n with z | z
  · exact z
  · exact absurd (nI_le z hk) h
theorem le_of_nIle {n k : Nat} (h : nI n ≤ nI k) (hn : n < 2 ^ 31) (hk : k < 2 ^ 31) : n ≤ k := (nI_leI hn hk).mp h
def xPlGo (σ : Mem) (c : Nat) : Nat → Nat → Int32 → Int32
  | 0, _, acc => acc
  | r + 1, k, acc => if xInQ σ k (σ 6 c 2) = true then (if σ 6 c 4 ≤ σ 6 k 4 then xPlGo σ c r (k + 1) acc else xPlGo σ c r (k + 1) (acc + 1)) else xPlGo σ c r (k + 1) acc
def xPlace (σ : Mem) (c : Nat) : Int32 := if σ 6 c 3 = 1 then xPlGo σ c (nC σ) 0 0 else -1
def xCiGo (σ : Mem) (z p : Int32) : Nat → Nat → Int32
  | 0, _ => -1
  | r + 1, k => if xInQ σ k z = true then (if xPlace σ k = p then nI k else xCiGo σ z p r (k + 1)) else xCiGo σ z p r (k + 1)
def xCiq (σ : Mem) (z p : Int32) : Int32 := xCiGo σ z p (nC σ) 0
def xCfGo (σ : Mem) (o : Nat) : Nat → Nat → Int32 → Int32 → Int32
  | 0, _, best, _ => best
  | r + 1, k, best, rk => if xCan σ o k = true then
      (if best = -1 then xCfGo σ o r (k + 1) (nI k) (xRank σ (σ 6 k 2) (σ 7 o 1))
       else if xRank σ (σ 6 k 2) (σ 7 o 1) < rk then xCfGo σ o r (k + 1) (nI k) (xRank σ (σ 6 k 2) (σ 7 o 1))
       else if xRank σ (σ 6 k 2) (σ 7 o 1) = rk then (if σ 6 (ix best) 4 ≤ σ 6 k 4 then xCfGo σ o r (k + 1) best rk else xCfGo σ o r (k + 1) (nI k) (xRank σ (σ 6 k 2) (σ 7 o 1)))
       else xCfGo σ o r (k + 1) best rk)
    else xCfGo σ o r (k + 1) best rk
def xCabFor (σ : Mem) (o : Nat) : Int32 := xCfGo σ o (nC σ) 0 (-1) 0
set_option maxHeartbeats 4000000 in
set_option maxRecDepth 100000 in
theorem c_X2_placeOf (l : Launch) (g : gG) (σ : Mem) (w : Int64) (c : Nat) (hX : Xok g σ) (hc : c < gcn g 6) : Met l yX2_placeOf wsX2_placeOf ({ frames := 3, cells := 0, slots := 0, locals := 64 } : Room) (gPc g σ w [.ref (gad g 0 0), .ref (gad g 6 c)]) (gR (.int (xPlace σ c))) 0 0 (fun _ => False) := by
  refine gx_ofW (cc := cX2_placeOf) (maxL := 5) (ret := (some .int)) (by decide) rfl (Nat.le_of_ble_eq_true rfl) ?_
  intro p e s m below meth c0 hx hb hr hml hts hown hlocks hin hG hZ hS ls hl
  have hown : s.vm.findClass RX2 = some m.cls := hown
  have hl : lv_has ls 5 [(0, .ref (gad g 0 0)), (1, .ref (gad g 6 c))] := hl
  have k1 := hts (.fieldLink RX2 80 "TaxiRank$Cab" "state" "I") (by decide +kernel)
  have k2 := hts (.fieldLink RX2 16 "TaxiRank" "cabs" "Ljava/util/ArrayList;") (by decide +kernel)
  have k3 := hts (.classLink RX2 68 "TaxiRank$Cab") (by decide +kernel)
  have k4 := hts (.fieldLink RX2 101 "TaxiRank$Cab" "zone" "I") (by decide +kernel)
  have k5 := hts (.fieldLink RX2 243 "TaxiRank$Cab" "turn" "I") (by decide +kernel)
  have hn6 := hX.n6
  have hn7 := hX.n7
  refine lv_aload_n hx hb dX2_placeOf_0 rfl (lv_at hl 1 rfl) ?_
  refine gx_get hx hb hown hZ hG 6 c 3 hc rfl (by decide) k1 (fun _ h => h) (v := .int (σ 6 c 3)) rfl dX2_placeOf_1 ?_
  refine lv_iconst (v := 1) hx hb dX2_placeOf_4 (by decide) ?_
  refine lv_icmp_eq (tgt := 10) hx hb dX2_placeOf_5 (by decide) (fun c_1 => ?_) (fun c_1 => ?_)
  · skip
    refine lv_iconst (v := 0) hx hb dX2_placeOf_10 (by decide) ?_
    refine lv_istore_n (lv' := [(2, .int (0)), (0, .ref (gad g 0 0)), (1, .ref (gad g 6 c))]) hx hb dX2_placeOf_11 rfl hl (by decide) rfl (fun ls hl => ?_)
    refine lv_iconst (v := 0) hx hb dX2_placeOf_12 (by decide) ?_
    refine lv_istore_n (lv' := [(3, .int (0)), (2, .int (0)), (0, .ref (gad g 0 0)), (1, .ref (gad g 6 c))]) hx hb dX2_placeOf_13 rfl hl (by decide) rfl (fun ls hl => ?_)
    have loop_14 : ∀ (nf : Nat) (r : Nat) (k : Nat) (acc : Int32), r < nf → (k + r = gcn g 6) → (xPlGo σ c r k acc = xPlace σ c) → ∀ ls : Array Slot, lv_has ls 5 [(0, .ref (gad g 0 0)), (1, .ref (gad g 6 c)), (2, .int (acc)), (3, .int (nI k))] → W p l e ({ frames := 3, cells := 0, slots := 0, locals := 64 } : Room) s m ([.ref (gad g 0 0), .ref (gad g 6 c)] : List Value).toArray below meth c0 s.heap [] 0 0 (MQ below (gR (.int (xPlace σ c))) ([.ref (gad g 0 0), .ref (gad g 6 c)] : List Value).toArray s 0 0 (fun _ => False)) (F0 m 14 ls []) := by
      intro nf
      induction nf with
      | zero => intro r k acc hn; exact absurd hn (Nat.not_lt_zero _)
      | succ nf ih =>
        intro r k acc hn hk hres ls hl
        refine lv_iload_n hx hb dX2_placeOf_14 rfl (lv_at hl 3 rfl) ?_
        refine lv_aload_n hx hb dX2_placeOf_15 rfl (lv_at hl 0 rfl) ?_
        refine gx_get hx hb hown hZ hG 0 0 1 hX.k0 rfl (by decide) k2 (fun _ h => h) (v := .ref (gad g 2 0)) (grf_z hX.r1) dX2_placeOf_16 ?_
        refine gx_cR (gx_runV (As := []) (rest := [.int (nI k)]) ⟨hx, hb, hml, hown, hts⟩ (c_size2 l g σ w hX) (cwV 0 hts gX2_placeOf_Jx4a65c_size_8abf5 rfl rfl rfl (by decide +kernel) ⟨Nat.le_of_ble_eq_true rfl, Nat.le_of_ble_eq_true rfl⟩) (gx_obj hZ hG 2 0 hX.k2 rfl) hZ hG hS rfl hl.1 rfl (Nat.le_of_ble_eq_true rfl) dX2_placeOf_19 ⟨Nat.le_of_ble_eq_true rfl, Nat.le_of_ble_eq_true rfl⟩) ?_
        refine lv_icmp_ge (tgt := 71) hx hb dX2_placeOf_22 (by decide) (fun c_2 => ?_) (fun c_2 => ?_)
        · skip
          have hge := le_of_nIle c_2 (by omega) (by omega)
          obtain rfl : r = 0 := by omega
          refine lv_iload_n hx hb dX2_placeOf_71 rfl (lv_at hl 2 rfl) ?_
          exact gx_iretR hx hb hr hlocks (by rw [← hres]; rfl) (Nat.le_of_ble_eq_true rfl) (Nat.le_of_ble_eq_true rfl) dX2_placeOf_72
        · skip
          have hkc := lt_of_nle c_2 (by omega)
          obtain ⟨r, rfl⟩ : ∃ q, r = q + 1 := ⟨r - 1, by omega⟩
          refine lv_aload_n hx hb dX2_placeOf_25 rfl (lv_at hl 0 rfl) ?_
          refine gx_get hx hb hown hZ hG 0 0 1 hX.k0 rfl (by decide) k2 (fun _ h => h) (v := .ref (gad g 2 0)) (grf_z hX.r1) dX2_placeOf_26 ?_
          refine lv_iload_n hx hb dX2_placeOf_29 rfl (lv_at hl 3 rfl) ?_
          refine gx_cR (gx_runV (As := [.int (nI k)]) (rest := []) ⟨hx, hb, hml, hown, hts⟩ (c_get2 l g σ w k hX hkc) (cwV 1 hts gX2_placeOf_Jx4a65c_get_915e3 rfl rfl rfl (by decide +kernel) ⟨Nat.le_of_ble_eq_true rfl, Nat.le_of_ble_eq_true rfl⟩) (gx_obj hZ hG 2 0 hX.k2 rfl) hZ hG hS rfl hl.1 rfl (Nat.le_of_ble_eq_true rfl) dX2_placeOf_30 ⟨Nat.le_of_ble_eq_true rfl, Nat.le_of_ble_eq_true rfl⟩) ?_
          refine gx_cast hx hb hown hZ hG 6 k hkc rfl k3 dX2_placeOf_33 ?_
          refine lv_astore (lv' := [(4, .ref (gad g 6 k)), (0, .ref (gad g 0 0)), (1, .ref (gad g 6 c)), (2, .int (acc)), (3, .int (nI k))]) hx hb dX2_placeOf_36 hl (by decide) rfl (fun ls hl => ?_)
          refine lv_aload hx hb dX2_placeOf_38 (lv_at hl 0 rfl) ?_
          refine lv_aload_n hx hb dX2_placeOf_40 rfl (lv_at hl 2 rfl) ?_
          refine gx_get hx hb hown hZ hG 6 c 2 hc rfl (by decide) k4 (fun _ h => h) (v := .int (σ 6 c 2)) rfl dX2_placeOf_41 ?_
          refine gx_cR (gx_runS (As := [.ref (gad g 6 k), .int (σ 6 c 2)]) (rest := []) ⟨hx, hb, hml, hown, hts⟩ (c_X2_isInQueue l g σ w k (σ 6 c 2) hkc) (va_cwS 2 hts gX2_placeOf_X2_isInQueue rfl rfl rfl (by decide +kernel) ⟨Nat.le_of_ble_eq_true rfl, Nat.le_of_ble_eq_true rfl⟩) hZ hG hS rfl hl.1 rfl (Nat.le_of_ble_eq_true rfl) dX2_placeOf_44 ⟨Nat.le_of_ble_eq_true rfl, Nat.le_of_ble_eq_true rfl⟩) ?_
          refine lv_if_eq (tgt := 65) hx hb dX2_placeOf_47 (by decide) (fun c_3 => ?_) (fun c_3 => ?_)
          · skip
            have c_3 := bI_eq0.mp c_3
            refine lv_iinc (v := nI (k + 1)) (lv' := [(3, .int (nI (k + 1))), (4, .ref (gad g 6 k)), (0, .ref (gad g 0 0)), (1, .ref (gad g 6 c)), (2, .int (acc))]) hx hb dX2_placeOf_65 hl (k := 4) rfl (nI_1 _) (by decide) rfl (fun ls hl => ?_)
            refine lv_goto (tgt := 14) hx hb dX2_placeOf_68 (by decide) ?_
            exact ih r (k + 1) (acc) (by omega) (by omega) (by rw [← hres]; simp only [xPlGo, c_2, c_3, reduceIte, Bool.false_eq_true]) ls (lv_sub hl [2, 3, 4, 0] rfl)
          · skip
            have c_3 := bI_ne0.mp c_3
            refine lv_aload hx hb dX2_placeOf_50 (lv_at hl 0 rfl) ?_
            refine gx_get hx hb hown hZ hG 6 k 4 hkc rfl (by decide) k5 (fun _ h => h) (v := .int (σ 6 k 4)) rfl dX2_placeOf_52 ?_
            refine lv_aload_n hx hb dX2_placeOf_55 rfl (lv_at hl 2 rfl) ?_
            refine gx_get hx hb hown hZ hG 6 c 4 hc rfl (by decide) k5 (fun _ h => h) (v := .int (σ 6 c 4)) rfl dX2_placeOf_56 ?_
            refine lv_icmp_ge (tgt := 65) hx hb dX2_placeOf_59 (by decide) (fun c_4 => ?_) (fun c_4 => ?_)
            · skip
              refine lv_iinc (v := nI (k + 1)) (lv' := [(3, .int (nI (k + 1))), (4, .ref (gad g 6 k)), (0, .ref (gad g 0 0)), (1, .ref (gad g 6 c)), (2, .int (acc))]) hx hb dX2_placeOf_65 hl (k := 4) rfl (nI_1 _) (by decide) rfl (fun ls hl => ?_)
              refine lv_goto (tgt := 14) hx hb dX2_placeOf_68 (by decide) ?_
              exact ih r (k + 1) (acc) (by omega) (by omega) (by rw [← hres]; simp only [xPlGo, c_2, c_3, c_4, reduceIte, Bool.false_eq_true]) ls (lv_sub hl [2, 3, 4, 0] rfl)
            · skip
              refine lv_iinc (v := acc + 1) (lv' := [(2, .int (acc + 1)), (4, .ref (gad g 6 k)), (0, .ref (gad g 0 0)), (1, .ref (gad g 6 c)), (3, .int (nI k))]) hx hb dX2_placeOf_62 hl (k := 3) rfl rfl (by decide) rfl (fun ls hl => ?_)
              refine lv_iinc (v := nI (k + 1)) (lv' := [(3, .int (nI (k + 1))), (2, .int (acc + 1)), (4, .ref (gad g 6 k)), (0, .ref (gad g 0 0)), (1, .ref (gad g 6 c))]) hx hb dX2_placeOf_65 hl (k := 4) rfl (nI_1 _) (by decide) rfl (fun ls hl => ?_)
              refine lv_goto (tgt := 14) hx hb dX2_placeOf_68 (by decide) ?_
              exact ih r (k + 1) (acc + 1) (by omega) (by omega) (by rw [← hres]; simp only [xPlGo, c_2, c_3, c_4, reduceIte, Bool.false_eq_true]) ls (lv_sub hl [3, 4, 1, 0] rfl)
    exact loop_14 (gcn g 6 + 1) (gcn g 6) 0 0 (by omega) (by omega) (by simp only [xPlace, c_1, hX.eC, reduceIte]) ls (lv_sub hl [2, 3, 1, 0] rfl)
  · skip
    refine lv_iconst (v := (-1)) hx hb dX2_placeOf_8 (by decide) ?_
    exact gx_iretR hx hb hr hlocks (by first | (simp only [xPlace, c_1, reduceIte, eq_self, Bool.false_eq_true]; done) | simp [xPlace, c_1]) (Nat.le_of_ble_eq_true rfl) (Nat.le_of_ble_eq_true rfl) dX2_placeOf_9
set_option maxHeartbeats 4000000 in
set_option maxRecDepth 100000 in
theorem c_X2_cabFor (l : Launch) (g : gG) (σ : Mem) (w : Int64) (o : Nat) (hX : Xok g σ) (ho : o < gcn g 7) : Met l yX2_cabFor wsX2_cabFor ({ frames := 3, cells := 0, slots := 0, locals := 64 } : Room) (gPc g σ w [.ref (gad g 0 0), .ref (gad g 7 o)]) (gR (grf (gad g 6) (xCabFor σ o))) 0 0 (fun _ => False) := by
  refine gx_ofW (cc := cX2_cabFor) (maxL := 7) (ret := (some (.object "TaxiRank$Cab"))) (by decide) rfl (Nat.le_of_ble_eq_true rfl) ?_
  intro p e s m below meth c0 hx hb hr hml hts hown hlocks hin hG hZ hS ls hl
  have hown : s.vm.findClass RX2 = some m.cls := hown
  have hl : lv_has ls 7 [(0, .ref (gad g 0 0)), (1, .ref (gad g 7 o))] := hl
  have k1 := hts (.fieldLink RX2 16 "TaxiRank" "cabs" "Ljava/util/ArrayList;") (by decide +kernel)
  have k2 := hts (.classLink RX2 68 "TaxiRank$Cab") (by decide +kernel)
  have k3 := hts (.fieldLink RX2 101 "TaxiRank$Cab" "zone" "I") (by decide +kernel)
  have k4 := hts (.fieldLink RX2 138 "TaxiRank$Order" "from" "I") (by decide +kernel)
  have k5 := hts (.fieldLink RX2 243 "TaxiRank$Cab" "turn" "I") (by decide +kernel)
  have hn6 := hX.n6
  have hn7 := hX.n7
  refine lv_null hx hb dX2_cabFor_0 ?_
  refine lv_astore_nN (lv' := [(2, .null), (0, .ref (gad g 0 0)), (1, .ref (gad g 7 o))]) hx hb dX2_cabFor_1 rfl hl (by decide) rfl (fun ls hl => ?_)
  refine lv_iconst (v := 0) hx hb dX2_cabFor_2 (by decide) ?_
  refine lv_istore_n (lv' := [(3, .int (0)), (2, .null), (0, .ref (gad g 0 0)), (1, .ref (gad g 7 o))]) hx hb dX2_cabFor_3 rfl hl (by decide) rfl (fun ls hl => ?_)
  refine lv_iconst (v := 0) hx hb dX2_cabFor_4 (by decide) ?_
  refine lv_istore (lv' := [(4, .int (0)), (3, .int (0)), (2, .null), (0, .ref (gad g 0 0)), (1, .ref (gad g 7 o))]) hx hb dX2_cabFor_5 hl (by decide) rfl (fun ls hl => ?_)
  have loop_7 : ∀ (nf : Nat) (r : Nat) (k : Nat) (best : Int32) (rk : Int32), r < nf → (k + r = gcn g 6) → (best = -1 ∨ ∃ j, j < gcn g 6 ∧ best = nI j) → (xCfGo σ o r k best rk = xCabFor σ o) → ∀ ls : Array Slot, lv_has ls 7 [(0, .ref (gad g 0 0)), (1, .ref (gad g 7 o)), (2, grf (gad g 6) best), (3, .int (rk)), (4, .int (nI k))] → W p l e ({ frames := 3, cells := 0, slots := 0, locals := 64 } : Room) s m ([.ref (gad g 0 0), .ref (gad g 7 o)] : List Value).toArray below meth c0 s.heap [] 0 0 (MQ below (gR (grf (gad g 6) (xCabFor σ o))) ([.ref (gad g 0 0), .ref (gad g 7 o)] : List Value).toArray s 0 0 (fun _ => False)) (F0 m 7 ls []) := by
    intro nf
    induction nf with
    | zero => intro r k best rk hn; exact absurd hn (Nat.not_lt_zero _)
    | succ nf ih =>
      intro r k best rk hn hk hbst hres ls hl
      refine lv_iload hx hb dX2_cabFor_7 (lv_at hl 4 rfl) ?_
      refine lv_aload_n hx hb dX2_cabFor_9 rfl (lv_at hl 0 rfl) ?_
      refine gx_get hx hb hown hZ hG 0 0 1 hX.k0 rfl (by decide) k1 (fun _ h => h) (v := .ref (gad g 2 0)) (grf_z hX.r1) dX2_cabFor_10 ?_
      refine gx_cR (gx_runV (As := []) (rest := [.int (nI k)]) ⟨hx, hb, hml, hown, hts⟩ (c_size2 l g σ w hX) (cwV 0 hts gX2_cabFor_Jx4a65c_size_8abf5 rfl rfl rfl (by decide +kernel) ⟨Nat.le_of_ble_eq_true rfl, Nat.le_of_ble_eq_true rfl⟩) (gx_obj hZ hG 2 0 hX.k2 rfl) hZ hG hS rfl hl.1 rfl (Nat.le_of_ble_eq_true rfl) dX2_cabFor_13 ⟨Nat.le_of_ble_eq_true rfl, Nat.le_of_ble_eq_true rfl⟩) ?_
      refine lv_icmp_ge (tgt := 97) hx hb dX2_cabFor_16 (by decide) (fun c_1 => ?_) (fun c_1 => ?_)
      · skip
        have hge := le_of_nIle c_1 (by omega) (by omega)
        obtain rfl : r = 0 := by omega
        refine gx_aload_nO hx hb dX2_cabFor_97 rfl (lv_at hl 2 rfl) ?_
        exact gx_aretR hx hb hr (Or.inl ⟨_, rfl⟩) hlocks (grf_or _ _) (by rw [← hres]; rfl) (Nat.le_of_ble_eq_true rfl) (Nat.le_of_ble_eq_true rfl) dX2_cabFor_98
      · skip
        have hkc := lt_of_nle c_1 (by omega)
        obtain ⟨r, rfl⟩ : ∃ q, r = q + 1 := ⟨r - 1, by omega⟩
        refine lv_aload_n hx hb dX2_cabFor_19 rfl (lv_at hl 0 rfl) ?_
        refine gx_get hx hb hown hZ hG 0 0 1 hX.k0 rfl (by decide) k1 (fun _ h => h) (v := .ref (gad g 2 0)) (grf_z hX.r1) dX2_cabFor_20 ?_
        refine lv_iload hx hb dX2_cabFor_23 (lv_at hl 4 rfl) ?_
        refine gx_cR (gx_runV (As := [.int (nI k)]) (rest := []) ⟨hx, hb, hml, hown, hts⟩ (c_get2 l g σ w k hX hkc) (cwV 1 hts gX2_cabFor_Jx4a65c_get_915e3 rfl rfl rfl (by decide +kernel) ⟨Nat.le_of_ble_eq_true rfl, Nat.le_of_ble_eq_true rfl⟩) (gx_obj hZ hG 2 0 hX.k2 rfl) hZ hG hS rfl hl.1 rfl (Nat.le_of_ble_eq_true rfl) dX2_cabFor_25 ⟨Nat.le_of_ble_eq_true rfl, Nat.le_of_ble_eq_true rfl⟩) ?_
        refine gx_cast hx hb hown hZ hG 6 k hkc rfl k2 dX2_cabFor_28 ?_
        refine lv_astore (lv' := [(5, .ref (gad g 6 k)), (0, .ref (gad g 0 0)), (1, .ref (gad g 7 o)), (2, grf (gad g 6) best), (3, .int (rk)), (4, .int (nI k))]) hx hb dX2_cabFor_31 hl (by decide) rfl (fun ls hl => ?_)
        refine lv_aload_n hx hb dX2_cabFor_33 rfl (lv_at hl 2 rfl) ?_
        refine lv_aload hx hb dX2_cabFor_34 (lv_at hl 0 rfl) ?_
        refine gx_cR (gx_runS (As := [.ref (gad g 7 o), .ref (gad g 6 k)]) (rest := []) ⟨hx, hb, hml, hown, hts⟩ (c_X2_canBeOffered l g σ w o k ho hkc) (va_cwS 2 hts gX2_cabFor_X2_canBeOffered rfl rfl rfl (by decide +kernel) ⟨Nat.le_of_ble_eq_true rfl, Nat.le_of_ble_eq_true rfl⟩) hZ hG hS rfl hl.1 rfl (Nat.le_of_ble_eq_true rfl) dX2_cabFor_36 ⟨Nat.le_of_ble_eq_true rfl, Nat.le_of_ble_eq_true rfl⟩) ?_
        refine lv_if_eq (tgt := 91) hx hb dX2_cabFor_39 (by decide) (fun c_2 => ?_) (fun c_2 => ?_)
        · skip
          have c_2 := bI_eq0.mp c_2
          refine lv_iinc (v := nI (k + 1)) (lv' := [(4, .int (nI (k + 1))), (5, .ref (gad g 6 k)), (0, .ref (gad g 0 0)), (1, .ref (gad g 7 o)), (2, grf (gad g 6) best), (3, .int (rk))]) hx hb dX2_cabFor_91 hl (k := 5) rfl (nI_1 _) (by decide) rfl (fun ls hl => ?_)
          refine lv_goto (tgt := 7) hx hb dX2_cabFor_94 (by decide) ?_
          exact ih r (k + 1) (best) (rk) (by omega) (by omega) hbst (by rw [← hres]; simp only [xCfGo, c_1, c_2, reduceIte, Bool.false_eq_true, Int32.lt_irrefl]) ls (by have h8 : lv_has ls 7 [(0, .ref (gad g 0 0)), (1, .ref (gad g 7 o)), (2, grf (gad g 6) best), (3, .int (rk)), (4, .int (nI (k + 1)))] := lv_sub hl [2, 3, 4, 5, 0] rfl; simpa only [grf_m1, nI_0] using h8)
        · skip
          have c_2 := bI_ne0.mp c_2
          refine lv_aload_n hx hb dX2_cabFor_42 rfl (lv_at hl 1 rfl) ?_
          refine lv_aload hx hb dX2_cabFor_43 (lv_at hl 0 rfl) ?_
          refine gx_get hx hb hown hZ hG 6 k 2 hkc rfl (by decide) k3 (fun _ h => h) (v := .int (σ 6 k 2)) rfl dX2_cabFor_45 ?_
          refine lv_aload_n hx hb dX2_cabFor_48 rfl (lv_at hl 2 rfl) ?_
          refine gx_get hx hb hown hZ hG 7 o 1 ho rfl (by decide) k4 (fun _ h => h) (v := .int (σ 7 o 1)) rfl dX2_cabFor_49 ?_
          refine gx_cR (gx_runV (As := [.int (σ 6 k 2), .int (σ 7 o 1)]) (rest := []) ⟨hx, hb, hml, hown, hts⟩ (c_X2_rankOfZone l g σ w (σ 6 k 2) (σ 7 o 1) hX) (cwV 2 hts gX2_cabFor_X2_rankOfZone rfl rfl rfl (by decide +kernel) ⟨Nat.le_of_ble_eq_true rfl, Nat.le_of_ble_eq_true rfl⟩) (gx_obj hZ hG 0 0 hX.k0 rfl) hZ hG hS rfl hl.1 rfl (Nat.le_of_ble_eq_true rfl) dX2_cabFor_52 ⟨Nat.le_of_ble_eq_true rfl, Nat.le_of_ble_eq_true rfl⟩) ?_
          refine lv_istore (lv' := [(6, .int (xRank σ (σ 6 k 2) (σ 7 o 1))), (5, .ref (gad g 6 k)), (0, .ref (gad g 0 0)), (1, .ref (gad g 7 o)), (2, grf (gad g 6) best), (3, .int (rk)), (4, .int (nI k))]) hx hb dX2_cabFor_55 hl (by decide) rfl (fun ls hl => ?_)
          refine gx_aload_nO hx hb dX2_cabFor_57 rfl (lv_at hl 4 rfl) ?_
          refine gx_ifnull (tgt := 85) hx hb dX2_cabFor_58 (by decide) (fun c_3 => ?_) (fun c_3 => ?_)
          · skip
            refine lv_aload hx hb dX2_cabFor_85 (lv_at hl 1 rfl) ?_
            refine lv_astore_n (lv' := [(2, .ref (gad g 6 k)), (6, .int (xRank σ (σ 6 k 2) (σ 7 o 1))), (5, .ref (gad g 6 k)), (0, .ref (gad g 0 0)), (1, .ref (gad g 7 o)), (3, .int (rk)), (4, .int (nI k))]) hx hb dX2_cabFor_87 rfl hl (by decide) rfl (fun ls hl => ?_)
            refine lv_iload hx hb dX2_cabFor_88 (lv_at hl 1 rfl) ?_
            refine lv_istore_n (lv' := [(3, .int (xRank σ (σ 6 k 2) (σ 7 o 1))), (2, .ref (gad g 6 k)), (6, .int (xRank σ (σ 6 k 2) (σ 7 o 1))), (5, .ref (gad g 6 k)), (0, .ref (gad g 0 0)), (1, .ref (gad g 7 o)), (4, .int (nI k))]) hx hb dX2_cabFor_90 rfl hl (by decide) rfl (fun ls hl => ?_)
            refine lv_iinc (v := nI (k + 1)) (lv' := [(4, .int (nI (k + 1))), (3, .int (xRank σ (σ 6 k 2) (σ 7 o 1))), (2, .ref (gad g 6 k)), (6, .int (xRank σ (σ 6 k 2) (σ 7 o 1))), (5, .ref (gad g 6 k)), (0, .ref (gad g 0 0)), (1, .ref (gad g 7 o))]) hx hb dX2_cabFor_91 hl (k := 6) rfl (nI_1 _) (by decide) rfl (fun ls hl => ?_)
            refine lv_goto (tgt := 7) hx hb dX2_cabFor_94 (by decide) ?_
            exact ih r (k + 1) (nI k) (xRank σ (σ 6 k 2) (σ 7 o 1)) (by omega) (by omega) (Or.inr ⟨k, hkc, rfl⟩) (by rw [← hres]; simp only [xCfGo, c_1, c_2, c_3, reduceIte, Bool.false_eq_true, Int32.lt_irrefl]) ls (by have h8 : lv_has ls 7 [(0, .ref (gad g 0 0)), (1, .ref (gad g 7 o)), (2, .ref (gad g 6 k)), (3, .int (xRank σ (σ 6 k 2) (σ 7 o 1))), (4, .int (nI (k + 1)))] := lv_sub hl [5, 6, 2, 1, 0] rfl; simpa only [grf_m1, nI_0, grf_nI (show k < 2 ^ 31 by omega)] using h8)
          · skip
            refine lv_iload hx hb dX2_cabFor_61 (lv_at hl 0 rfl) ?_
            refine lv_iload_n hx hb dX2_cabFor_63 rfl (lv_at hl 5 rfl) ?_
            refine lv_icmp_lt (tgt := 85) hx hb dX2_cabFor_64 (by decide) (fun c_4 => ?_) (fun c_4 => ?_)
            · skip
              refine lv_aload hx hb dX2_cabFor_85 (lv_at hl 1 rfl) ?_
              refine lv_astore_n (lv' := [(2, .ref (gad g 6 k)), (6, .int (xRank σ (σ 6 k 2) (σ 7 o 1))), (5, .ref (gad g 6 k)), (0, .ref (gad g 0 0)), (1, .ref (gad g 7 o)), (3, .int (rk)), (4, .int (nI k))]) hx hb dX2_cabFor_87 rfl hl (by decide) rfl (fun ls hl => ?_)
              refine lv_iload hx hb dX2_cabFor_88 (lv_at hl 1 rfl) ?_
              refine lv_istore_n (lv' := [(3, .int (xRank σ (σ 6 k 2) (σ 7 o 1))), (2, .ref (gad g 6 k)), (6, .int (xRank σ (σ 6 k 2) (σ 7 o 1))), (5, .ref (gad g 6 k)), (0, .ref (gad g 0 0)), (1, .ref (gad g 7 o)), (4, .int (nI k))]) hx hb dX2_cabFor_90 rfl hl (by decide) rfl (fun ls hl => ?_)
              refine lv_iinc (v := nI (k + 1)) (lv' := [(4, .int (nI (k + 1))), (3, .int (xRank σ (σ 6 k 2) (σ 7 o 1))), (2, .ref (gad g 6 k)), (6, .int (xRank σ (σ 6 k 2) (σ 7 o 1))), (5, .ref (gad g 6 k)), (0, .ref (gad g 0 0)), (1, .ref (gad g 7 o))]) hx hb dX2_cabFor_91 hl (k := 6) rfl (nI_1 _) (by decide) rfl (fun ls hl => ?_)
              refine lv_goto (tgt := 7) hx hb dX2_cabFor_94 (by decide) ?_
              exact ih r (k + 1) (nI k) (xRank σ (σ 6 k 2) (σ 7 o 1)) (by omega) (by omega) (Or.inr ⟨k, hkc, rfl⟩) (by rw [← hres]; simp only [xCfGo, c_1, c_2, c_3, c_4, reduceIte, Bool.false_eq_true, Int32.lt_irrefl]) ls (by have h8 : lv_has ls 7 [(0, .ref (gad g 0 0)), (1, .ref (gad g 7 o)), (2, .ref (gad g 6 k)), (3, .int (xRank σ (σ 6 k 2) (σ 7 o 1))), (4, .int (nI (k + 1)))] := lv_sub hl [5, 6, 2, 1, 0] rfl; simpa only [grf_m1, nI_0, grf_nI (show k < 2 ^ 31 by omega)] using h8)
            · skip
              refine lv_iload hx hb dX2_cabFor_67 (lv_at hl 0 rfl) ?_
              refine lv_iload_n hx hb dX2_cabFor_69 rfl (lv_at hl 5 rfl) ?_
              refine lv_icmp_ne (tgt := 91) hx hb dX2_cabFor_70 (by decide) (fun c_5 => ?_) (fun c_5 => ?_)
              · skip
                refine lv_iinc (v := nI (k + 1)) (lv' := [(4, .int (nI (k + 1))), (6, .int (xRank σ (σ 6 k 2) (σ 7 o 1))), (5, .ref (gad g 6 k)), (0, .ref (gad g 0 0)), (1, .ref (gad g 7 o)), (2, grf (gad g 6) best), (3, .int (rk))]) hx hb dX2_cabFor_91 hl (k := 6) rfl (nI_1 _) (by decide) rfl (fun ls hl => ?_)
                refine lv_goto (tgt := 7) hx hb dX2_cabFor_94 (by decide) ?_
                exact ih r (k + 1) (best) (rk) (by omega) (by omega) hbst (by rw [← hres]; simp only [xCfGo, c_1, c_2, c_3, c_4, c_5, reduceIte, Bool.false_eq_true, Int32.lt_irrefl]) ls (by have h8 : lv_has ls 7 [(0, .ref (gad g 0 0)), (1, .ref (gad g 7 o)), (2, grf (gad g 6) best), (3, .int (rk)), (4, .int (nI (k + 1)))] := lv_sub hl [3, 4, 5, 6, 0] rfl; simpa only [grf_m1, nI_0] using h8)
              · skip
                refine lv_aload hx hb dX2_cabFor_73 (lv_at hl 1 rfl) ?_
                refine gx_get hx hb hown hZ hG 6 k 4 hkc rfl (by decide) k5 (fun _ h => h) (v := .int (σ 6 k 4)) rfl dX2_cabFor_75 ?_
                refine gx_aload_nO hx hb dX2_cabFor_78 rfl (lv_at hl 4 rfl) ?_
                refine gx_topV (grf_nn c_3) ?_
                refine gx_get hx hb hown hZ hG 6 (ix best) 4 (nn_lt hbst c_3 (hG.2.2.2 6)) rfl (by decide) k5 (fun _ h => h) (v := .int (σ 6 (ix best) 4)) rfl dX2_cabFor_79 ?_
                refine lv_icmp_ge (tgt := 91) hx hb dX2_cabFor_82 (by decide) (fun c_6 => ?_) (fun c_6 => ?_)
                · skip
                  refine lv_iinc (v := nI (k + 1)) (lv' := [(4, .int (nI (k + 1))), (6, .int (xRank σ (σ 6 k 2) (σ 7 o 1))), (5, .ref (gad g 6 k)), (0, .ref (gad g 0 0)), (1, .ref (gad g 7 o)), (2, grf (gad g 6) best), (3, .int (rk))]) hx hb dX2_cabFor_91 hl (k := 6) rfl (nI_1 _) (by decide) rfl (fun ls hl => ?_)
                  refine lv_goto (tgt := 7) hx hb dX2_cabFor_94 (by decide) ?_
                  exact ih r (k + 1) (best) (rk) (by omega) (by omega) hbst (by rw [← hres]; simp only [xCfGo, c_1, c_2, c_3, c_4, c_5, c_6, reduceIte, Bool.false_eq_true, Int32.lt_irrefl]) ls (by have h8 : lv_has ls 7 [(0, .ref (gad g 0 0)), (1, .ref (gad g 7 o)), (2, grf (gad g 6) best), (3, .int (rk)), (4, .int (nI (k + 1)))] := lv_sub hl [3, 4, 5, 6, 0] rfl; simpa only [grf_m1, nI_0] using h8)
                · skip
                  refine lv_aload hx hb dX2_cabFor_85 (lv_at hl 1 rfl) ?_
                  refine lv_astore_n (lv' := [(2, .ref (gad g 6 k)), (6, .int (xRank σ (σ 6 k 2) (σ 7 o 1))), (5, .ref (gad g 6 k)), (0, .ref (gad g 0 0)), (1, .ref (gad g 7 o)), (3, .int (rk)), (4, .int (nI k))]) hx hb dX2_cabFor_87 rfl hl (by decide) rfl (fun ls hl => ?_)
                  refine lv_iload hx hb dX2_cabFor_88 (lv_at hl 1 rfl) ?_
                  refine lv_istore_n (lv' := [(3, .int (xRank σ (σ 6 k 2) (σ 7 o 1))), (2, .ref (gad g 6 k)), (6, .int (xRank σ (σ 6 k 2) (σ 7 o 1))), (5, .ref (gad g 6 k)), (0, .ref (gad g 0 0)), (1, .ref (gad g 7 o)), (4, .int (nI k))]) hx hb dX2_cabFor_90 rfl hl (by decide) rfl (fun ls hl => ?_)
                  refine lv_iinc (v := nI (k + 1)) (lv' := [(4, .int (nI (k + 1))), (3, .int (xRank σ (σ 6 k 2) (σ 7 o 1))), (2, .ref (gad g 6 k)), (6, .int (xRank σ (σ 6 k 2) (σ 7 o 1))), (5, .ref (gad g 6 k)), (0, .ref (gad g 0 0)), (1, .ref (gad g 7 o))]) hx hb dX2_cabFor_91 hl (k := 6) rfl (nI_1 _) (by decide) rfl (fun ls hl => ?_)
                  refine lv_goto (tgt := 7) hx hb dX2_cabFor_94 (by decide) ?_
                  exact ih r (k + 1) (nI k) (xRank σ (σ 6 k 2) (σ 7 o 1)) (by omega) (by omega) (Or.inr ⟨k, hkc, rfl⟩) (by rw [← hres]; simp only [xCfGo, c_1, c_2, c_3, c_4, c_5, c_6, reduceIte, Bool.false_eq_true, Int32.lt_irrefl]) ls (by have h8 : lv_has ls 7 [(0, .ref (gad g 0 0)), (1, .ref (gad g 7 o)), (2, .ref (gad g 6 k)), (3, .int (xRank σ (σ 6 k 2) (σ 7 o 1))), (4, .int (nI (k + 1)))] := lv_sub hl [5, 6, 2, 1, 0] rfl; simpa only [grf_m1, nI_0, grf_nI (show k < 2 ^ 31 by omega)] using h8)
  exact loop_7 (gcn g 6 + 1) (gcn g 6) 0 (-1) 0 (by omega) (by omega) (Or.inl rfl) (by simp only [xCabFor, hX.eC]) ls (by have h8 : lv_has ls 7 [(0, .ref (gad g 0 0)), (1, .ref (gad g 7 o)), (2, .null), (3, .int (0)), (4, .int (0))] := lv_sub hl [3, 4, 2, 1, 0] rfl; simpa only [grf_m1, nI_0] using h8)
def xNxGo (σ : Mem) : Nat → Nat → Int32 → Int32 → Int32 × Int32
  | 0, _, nx, ch => (nx, ch)
  | r + 1, k, nx, ch => if xLook σ k = true then
      (if nx = -1 then (if xCabFor σ k = -1 then xNxGo σ r (k + 1) nx ch else xNxGo σ r (k + 1) (nI k) (xCabFor σ k))
       else if σ 7 (ix nx) 4 ≤ σ 7 k 4 then xNxGo σ r (k + 1) nx ch
       else if xCabFor σ k = -1 then xNxGo σ r (k + 1) nx ch else xNxGo σ r (k + 1) (nI k) (xCabFor σ k))
    else xNxGo σ r (k + 1) nx ch
def xNx (σ : Mem) : Int32 × Int32 := xNxGo σ (nO σ) 0 (-1) (-1)
def xMnoB (σ : Mem) : Bool := if (xNx σ).1 = -1 then false else if (xNx σ).2 = -1 then false else true
def xOffer (σ : Mem) (nx ch : Int32) : Mem := gst (gst (gst (gst σ 7 (ix nx) 5 1) 7 (ix nx) 6 ch) 7 (ix nx) 7 (σ 0 0 3)) 6 (ix ch) 6 nx
def xMno (σ : Mem) : Mem := if (xNx σ).1 = -1 then σ else if (xNx σ).2 = -1 then σ else xOffer σ (xNx σ).1 (xNx σ).2
theorem xCf_ok {g : gG} {σ : Mem} (o : Nat) : ∀ (r k : Nat) (best rk : Int32), k + r = gcn g 6 → (best = -1 ∨ ∃ j, j < gcn g 6 ∧ best = nI j) → (xCfGo σ o r k best rk = -1 ∨ ∃ j, j < gcn g 6 ∧ xCfGo σ o r k best rk = nI j) := by
  intro r
  induction r with
  | zero => intro k best rk _ h; exact h
  | succ r ih =>
    intro k best rk hk h
    have h2 : ∀ x, xCfGo σ o r (k + 1) (nI k) x = -1 ∨ ∃ j, j < gcn g 6 ∧ xCfGo σ o r (k + 1) (nI k) x = nI j := fun x => ih (k + 1) (nI k) x (by omega) (Or.inr ⟨k, by omega, rfl⟩)
    have h3 := ih (k + 1) best rk (by omega) h
    simp only [xCfGo]
    repeat' split
    all_goals first | exact h3 | exact h2 _
theorem Xok.cf {g : gG} {σ : Mem} (h : Xok g σ) (o : Nat) : xCabFor σ o = -1 ∨ ∃ j, j < gcn g 6 ∧ xCabFor σ o = nI j := xCf_ok o _ 0 (-1) 0 (by rw [h.eC]; omega) (Or.inl rfl)
theorem Xok.offer {g : gG} {σ : Mem} {a b : Int32} (h : Xok g σ) : Xok g (xOffer σ a b) := (((h.st rfl).st rfl).st rfl).st rfl
theorem Xok.mno {g : gG} {σ : Mem} (h : Xok g σ) : Xok g (xMno σ) := by
  unfold xMno
  split
  · exact h
  · split
    · exact h
    · exact h.offer
set_option maxHeartbeats 4000000 in
set_option maxRecDepth 100000 in
theorem c_X2_makeNextOffer (l : Launch) (g : gG) (σ : Mem) (w : Int64) (hX : Xok g σ) : Met l yX2_makeNextOffer wsX2_makeNextOffer ({ frames := 4, cells := 0, slots := 0, locals := 90 } : Room) (gPc g σ w [.ref (gad g 0 0)]) (gM g g (xMno σ) w (some (.int (bI (xMnoB σ))))) 0 0 (gA g) := by
  refine gx_ofW (cc := cX2_makeNextOffer) (maxL := 6) (ret := (some .boolean)) (by decide) rfl (Nat.le_of_ble_eq_true rfl) ?_
  intro p e s m below meth c0 hx hb hr hml hts hown hlocks hin hG hZ hS ls hl
  have hown : s.vm.findClass RX2 = some m.cls := hown
  have hl : lv_has ls 6 [(0, .ref (gad g 0 0))] := hl
  have k1 := hts (.fieldLink RX2 20 "TaxiRank" "orders" "Ljava/util/ArrayList;") (by decide +kernel)
  have k2 := hts (.fieldLink RX2 152 "TaxiRank$Order" "state" "I") (by decide +kernel)
  have k3 := hts (.fieldLink RX2 267 "TaxiRank$Order" "cab" "LTaxiRank$Cab;") (by decide +kernel)
  have k4 := hts (.fieldLink RX2 120 "TaxiRank" "time" "I") (by decide +kernel)
  have k5 := hts (.fieldLink RX2 271 "TaxiRank$Order" "offeredAt" "I") (by decide +kernel)
  have k6 := hts (.fieldLink RX2 251 "TaxiRank$Cab" "order" "LTaxiRank$Order;") (by decide +kernel)
  have k7 := hts (.classLink RX2 127 "TaxiRank$Order") (by decide +kernel)
  have k8 := hts (.fieldLink RX2 141 "TaxiRank$Order" "due" "I") (by decide +kernel)
  have hn6 := hX.n6
  have hn7 := hX.n7
  refine lv_null hx hb dX2_makeNextOffer_0 ?_
  refine lv_astore_nN (lv' := [(1, .null), (0, .ref (gad g 0 0))]) hx hb dX2_makeNextOffer_1 rfl hl (by decide) rfl (fun ls hl => ?_)
  refine lv_null hx hb dX2_makeNextOffer_2 ?_
  refine lv_astore_nN (lv' := [(2, .null), (1, .null), (0, .ref (gad g 0 0))]) hx hb dX2_makeNextOffer_3 rfl hl (by decide) rfl (fun ls hl => ?_)
  refine lv_iconst (v := 0) hx hb dX2_makeNextOffer_4 (by decide) ?_
  refine lv_istore_n (lv' := [(3, .int (0)), (2, .null), (1, .null), (0, .ref (gad g 0 0))]) hx hb dX2_makeNextOffer_5 rfl hl (by decide) rfl (fun ls hl => ?_)
  have loop_6 : ∀ (nf : Nat) (r : Nat) (k : Nat) (nx : Int32) (ch : Int32), r < nf → (k + r = gcn g 7) → (nx = -1 ∨ ∃ j, j < gcn g 7 ∧ nx = nI j) → (ch = -1 ∨ ∃ j, j < gcn g 6 ∧ ch = nI j) → (xNxGo σ r k nx ch = xNx σ) → ∀ ls : Array Slot, lv_has ls 6 [(0, .ref (gad g 0 0)), (1, grf (gad g 7) nx), (2, grf (gad g 6) ch), (3, .int (nI k))] → W p l e ({ frames := 4, cells := 0, slots := 0, locals := 90 } : Room) s m ([.ref (gad g 0 0)] : List Value).toArray below meth c0 s.heap [] 0 0 (MQ below (gM g g (xMno σ) w (some (.int (bI (xMnoB σ))))) ([.ref (gad g 0 0)] : List Value).toArray s 0 0 (gA g)) (F0 m 6 ls []) := by
    intro nf
    induction nf with
    | zero => intro r k nx ch hn; exact absurd hn (Nat.not_lt_zero _)
    | succ nf ih =>
      intro r k nx ch hn hk hnx hch hres ls hl
      refine lv_iload_n hx hb dX2_makeNextOffer_6 rfl (lv_at hl 3 rfl) ?_
      refine lv_aload_n hx hb dX2_makeNextOffer_7 rfl (lv_at hl 0 rfl) ?_
      refine gx_get hx hb hown hZ hG 0 0 2 hX.k0 rfl (by decide) k1 (fun _ h => h) (v := .ref (gad g 3 0)) (grf_z hX.r2) dX2_makeNextOffer_8 ?_
      refine gx_cR (gx_runV (As := []) (rest := [.int (nI k)]) ⟨hx, hb, hml, hown, hts⟩ (c_size3 l g σ w hX) (cwV 0 hts gX2_makeNextOffer_Jx4a65c_size_8abf5 rfl rfl rfl (by decide +kernel) ⟨Nat.le_of_ble_eq_true rfl, Nat.le_of_ble_eq_true rfl⟩) (gx_obj hZ hG 3 0 hX.k3 rfl) hZ hG hS rfl hl.1 rfl (Nat.le_of_ble_eq_true rfl) dX2_makeNextOffer_11 ⟨Nat.le_of_ble_eq_true rfl, Nat.le_of_ble_eq_true rfl⟩) ?_
      refine lv_icmp_ge (tgt := 80) hx hb dX2_makeNextOffer_14 (by decide) (fun c_1 => ?_) (fun c_1 => ?_)
      · skip
        have hge := le_of_nIle c_1 (by omega) (by omega)
        obtain rfl : r = 0 := by omega
        have e1 : (xNx σ).1 = nx := by rw [← hres]; rfl
        have e2 : (xNx σ).2 = ch := by rw [← hres]; rfl
        refine gx_aload_nO hx hb dX2_makeNextOffer_80 rfl (lv_at hl 1 rfl) ?_
        refine gx_ifnull (tgt := 88) hx hb dX2_makeNextOffer_81 (by decide) (fun c_2 => ?_) (fun c_2 => ?_)
        · skip
          refine lv_iconst (v := 0) hx hb dX2_makeNextOffer_88 (by decide) ?_
          exact gx_zretM hx hb hr hlocks hG hS (by first | (simp only [xMno, xMnoB, bI, e1, e2, xOffer, c_1, c_2, reduceIte, eq_self, Bool.false_eq_true]; done) | simp [xMno, xMnoB, bI, e1, e2, xOffer, c_1, c_2]) (by first | (simp only [xMno, xMnoB, bI, e1, e2, xOffer, c_1, c_2, reduceIte, eq_self, Bool.false_eq_true]; done) | simp [xMno, xMnoB, bI, e1, e2, xOffer, c_1, c_2]) rfl (Nat.le_of_ble_eq_true rfl) (Nat.le_of_ble_eq_true rfl) dX2_makeNextOffer_89
        · skip
          refine gx_aload_nO hx hb dX2_makeNextOffer_84 rfl (lv_at hl 2 rfl) ?_
          refine gx_ifnonnull (tgt := 90) hx hb dX2_makeNextOffer_85 (by decide) (fun c_3 => ?_) (fun c_3 => ?_)
          · skip
            refine gx_aload_nO hx hb dX2_makeNextOffer_90 rfl (lv_at hl 1 rfl) ?_
            refine lv_iconst (v := 1) hx hb dX2_makeNextOffer_91 (by decide) ?_
            refine gx_topV2 (grf_nn c_2) ?_
            refine gx_put hx hb hown hZ hG hS 7 (ix nx) 5 (1) (nn_lt hnx c_2 (hG.2.2.2 7)) rfl (by decide) k2 (fun _ h => h) rfl rfl trivial rfl rfl dX2_makeNextOffer_92 (fun H locs hG hS => ?_)
            have hX := hX.st (k := 7) (i := ix nx) (f := 5) (v := 1) rfl
            refine gx_aload_nO hx hb dX2_makeNextOffer_95 rfl (lv_at hl 1 rfl) ?_
            refine gx_aload_nO hx hb dX2_makeNextOffer_96 rfl (lv_at hl 2 rfl) ?_
            refine gx_topV2 (grf_nn c_2) ?_
            refine gx_put hx hb hown hZ hG hS 7 (ix nx) 6 (ch) (nn_lt hnx c_2 (hG.2.2.2 7)) rfl (by decide) k3 (fun _ h => h) rfl rfl hch (grf_nar _ _) (grf_fit _ _) dX2_makeNextOffer_97 (fun H locs hG hS => ?_)
            have hX := hX.st (k := 7) (i := ix nx) (f := 6) (v := ch) rfl
            refine gx_aload_nO hx hb dX2_makeNextOffer_100 rfl (lv_at hl 1 rfl) ?_
            refine lv_aload_n hx hb dX2_makeNextOffer_101 rfl (lv_at hl 0 rfl) ?_
            refine gx_get hx hb hown hZ hG 0 0 3 hX.k0 rfl (by decide) k4 (fun _ h => h) (v := .int (σ 0 0 3)) (congrArg Value.int (by simp [gst_app])) dX2_makeNextOffer_102 ?_
            refine gx_topV2 (grf_nn c_2) ?_
            refine gx_put hx hb hown hZ hG hS 7 (ix nx) 7 (σ 0 0 3) (nn_lt hnx c_2 (hG.2.2.2 7)) rfl (by decide) k5 (fun _ h => h) rfl rfl trivial rfl rfl dX2_makeNextOffer_105 (fun H locs hG hS => ?_)
            have hX := hX.st (k := 7) (i := ix nx) (f := 7) (v := σ 0 0 3) rfl
            refine gx_aload_nO hx hb dX2_makeNextOffer_108 rfl (lv_at hl 2 rfl) ?_
            refine gx_aload_nO hx hb dX2_makeNextOffer_109 rfl (lv_at hl 1 rfl) ?_
            refine gx_topV2 (grf_nn c_3) ?_
            refine gx_put hx hb hown hZ hG hS 6 (ix ch) 6 (nx) (nn_lt hch c_3 (hG.2.2.2 6)) rfl (by decide) k6 (fun _ h => h) rfl rfl hnx (grf_nar _ _) (grf_fit _ _) dX2_makeNextOffer_110 (fun H locs hG hS => ?_)
            have hX := hX.st (k := 6) (i := ix ch) (f := 6) (v := nx) rfl
            refine lv_iconst (v := 1) hx hb dX2_makeNextOffer_113 (by decide) ?_
            exact gx_zretM hx hb hr hlocks hG hS (by first | (simp only [xMno, xMnoB, bI, e1, e2, xOffer, c_1, c_2, c_3, reduceIte, eq_self, Bool.false_eq_true]; done) | simp [xMno, xMnoB, bI, e1, e2, xOffer, c_1, c_2, c_3]) (by first | (simp only [xMno, xMnoB, bI, e1, e2, xOffer, c_1, c_2, c_3, reduceIte, eq_self, Bool.false_eq_true]; done) | simp [xMno, xMnoB, bI, e1, e2, xOffer, c_1, c_2, c_3]) rfl (Nat.le_of_ble_eq_true rfl) (Nat.le_of_ble_eq_true rfl) dX2_makeNextOffer_114
          · skip
            refine lv_iconst (v := 0) hx hb dX2_makeNextOffer_88 (by decide) ?_
            exact gx_zretM hx hb hr hlocks hG hS (by first | (simp only [xMno, xMnoB, bI, e1, e2, xOffer, c_1, c_2, c_3, reduceIte, eq_self, Bool.false_eq_true]; done) | simp [xMno, xMnoB, bI, e1, e2, xOffer, c_1, c_2, c_3]) (by first | (simp only [xMno, xMnoB, bI, e1, e2, xOffer, c_1, c_2, c_3, reduceIte, eq_self, Bool.false_eq_true]; done) | simp [xMno, xMnoB, bI, e1, e2, xOffer, c_1, c_2, c_3]) rfl (Nat.le_of_ble_eq_true rfl) (Nat.le_of_ble_eq_true rfl) dX2_makeNextOffer_89
      · skip
        have hkc := lt_of_nle c_1 (by omega)
        obtain ⟨r, rfl⟩ : ∃ q, r = q + 1 := ⟨r - 1, by omega⟩
        refine lv_aload_n hx hb dX2_makeNextOffer_17 rfl (lv_at hl 0 rfl) ?_
        refine gx_get hx hb hown hZ hG 0 0 2 hX.k0 rfl (by decide) k1 (fun _ h => h) (v := .ref (gad g 3 0)) (grf_z hX.r2) dX2_makeNextOffer_18 ?_
        refine lv_iload_n hx hb dX2_makeNextOffer_21 rfl (lv_at hl 3 rfl) ?_
        refine gx_cR (gx_runV (As := [.int (nI k)]) (rest := []) ⟨hx, hb, hml, hown, hts⟩ (c_get3 l g σ w k hX hkc) (cwV 1 hts gX2_makeNextOffer_Jx4a65c_get_915e3 rfl rfl rfl (by decide +kernel) ⟨Nat.le_of_ble_eq_true rfl, Nat.le_of_ble_eq_true rfl⟩) (gx_obj hZ hG 3 0 hX.k3 rfl) hZ hG hS rfl hl.1 rfl (Nat.le_of_ble_eq_true rfl) dX2_makeNextOffer_22 ⟨Nat.le_of_ble_eq_true rfl, Nat.le_of_ble_eq_true rfl⟩) ?_
        refine gx_cast hx hb hown hZ hG 7 k hkc rfl k7 dX2_makeNextOffer_25 ?_
        refine lv_astore (lv' := [(4, .ref (gad g 7 k)), (0, .ref (gad g 0 0)), (1, grf (gad g 7) nx), (2, grf (gad g 6) ch), (3, .int (nI k))]) hx hb dX2_makeNextOffer_28 hl (by decide) rfl (fun ls hl => ?_)
        refine lv_aload_n hx hb dX2_makeNextOffer_30 rfl (lv_at hl 1 rfl) ?_
        refine lv_aload hx hb dX2_makeNextOffer_31 (lv_at hl 0 rfl) ?_
        refine gx_cR (gx_runV (As := [.ref (gad g 7 k)]) (rest := []) ⟨hx, hb, hml, hown, hts⟩ (c_X2_isLookedAt l g σ w k hX hkc) (cwV 1 hts gX2_makeNextOffer_X2_isLookedAt rfl rfl rfl (by decide +kernel) ⟨Nat.le_of_ble_eq_true rfl, Nat.le_of_ble_eq_true rfl⟩) (gx_obj hZ hG 0 0 hX.k0 rfl) hZ hG hS rfl hl.1 rfl (Nat.le_of_ble_eq_true rfl) dX2_makeNextOffer_33 ⟨Nat.le_of_ble_eq_true rfl, Nat.le_of_ble_eq_true rfl⟩) ?_
        refine lv_if_eq (tgt := 74) hx hb dX2_makeNextOffer_36 (by decide) (fun c_4 => ?_) (fun c_4 => ?_)
        · skip
          have c_4 := bI_eq0.mp c_4
          refine lv_iinc (v := nI (k + 1)) (lv' := [(3, .int (nI (k + 1))), (4, .ref (gad g 7 k)), (0, .ref (gad g 0 0)), (1, grf (gad g 7) nx), (2, grf (gad g 6) ch)]) hx hb dX2_makeNextOffer_74 hl (k := 4) rfl (nI_1 _) (by decide) (by simp [grf_cat, List.filter]) (fun ls hl => ?_)
          refine lv_goto (tgt := 6) hx hb dX2_makeNextOffer_77 (by decide) ?_
          exact ih r (k + 1) (nx) (ch) (by omega) (by omega) hnx hch (by rw [← hres]; simp only [xNxGo, c_1, c_4, reduceIte, Bool.false_eq_true]) ls (by have h8 : lv_has ls 6 [(0, .ref (gad g 0 0)), (1, grf (gad g 7) nx), (2, grf (gad g 6) ch), (3, .int (nI (k + 1)))] := lv_sub hl [2, 3, 4, 0] rfl; simpa only [grf_m1, nI_0] using h8)
        · skip
          have c_4 := bI_ne0.mp c_4
          refine gx_aload_nO hx hb dX2_makeNextOffer_39 rfl (lv_at hl 2 rfl) ?_
          refine gx_ifnull (tgt := 55) hx hb dX2_makeNextOffer_40 (by decide) (fun c_5 => ?_) (fun c_5 => ?_)
          · skip
            refine lv_aload_n hx hb dX2_makeNextOffer_55 rfl (lv_at hl 1 rfl) ?_
            refine lv_aload hx hb dX2_makeNextOffer_56 (lv_at hl 0 rfl) ?_
            refine gx_cR (gx_runV (As := [.ref (gad g 7 k)]) (rest := []) ⟨hx, hb, hml, hown, hts⟩ (c_X2_cabFor l g σ w k hX hkc) (cwV 1 hts gX2_makeNextOffer_X2_cabFor rfl rfl rfl (by decide +kernel) ⟨Nat.le_of_ble_eq_true rfl, Nat.le_of_ble_eq_true rfl⟩) (gx_obj hZ hG 0 0 hX.k0 rfl) hZ hG hS rfl hl.1 rfl (Nat.le_of_ble_eq_true rfl) dX2_makeNextOffer_58 ⟨Nat.le_of_ble_eq_true rfl, Nat.le_of_ble_eq_true rfl⟩) ?_
            refine gx_astoreO (lv' := [(5, grf (gad g 6) (xCabFor σ k)), (4, .ref (gad g 7 k)), (0, .ref (gad g 0 0)), (1, grf (gad g 7) nx), (2, grf (gad g 6) ch), (3, .int (nI k))]) hx hb dX2_makeNextOffer_61 hl (by decide) rfl (fun ls hl => ?_)
            refine gx_aloadO hx hb dX2_makeNextOffer_63 (lv_at hl 0 rfl) ?_
            refine gx_ifnull (tgt := 74) hx hb dX2_makeNextOffer_65 (by decide) (fun c_6 => ?_) (fun c_6 => ?_)
            · skip
              refine lv_iinc (v := nI (k + 1)) (lv' := [(3, .int (nI (k + 1))), (5, grf (gad g 6) (xCabFor σ k)), (4, .ref (gad g 7 k)), (0, .ref (gad g 0 0)), (1, grf (gad g 7) nx), (2, grf (gad g 6) ch)]) hx hb dX2_makeNextOffer_74 hl (k := 5) rfl (nI_1 _) (by decide) (by simp [grf_cat, List.filter]) (fun ls hl => ?_)
              refine lv_goto (tgt := 6) hx hb dX2_makeNextOffer_77 (by decide) ?_
              exact ih r (k + 1) (nx) (ch) (by omega) (by omega) hnx hch (by rw [← hres]; simp only [xNxGo, c_1, c_4, c_5, c_6, reduceIte, Bool.false_eq_true]) ls (by have h8 : lv_has ls 6 [(0, .ref (gad g 0 0)), (1, grf (gad g 7) nx), (2, grf (gad g 6) ch), (3, .int (nI (k + 1)))] := lv_sub hl [3, 4, 5, 0] rfl; simpa only [grf_m1, nI_0] using h8)
            · skip
              refine lv_aload hx hb dX2_makeNextOffer_68 (lv_at hl 1 rfl) ?_
              refine lv_astore_n (lv' := [(1, .ref (gad g 7 k)), (5, grf (gad g 6) (xCabFor σ k)), (4, .ref (gad g 7 k)), (0, .ref (gad g 0 0)), (2, grf (gad g 6) ch), (3, .int (nI k))]) hx hb dX2_makeNextOffer_70 rfl hl (by decide) rfl (fun ls hl => ?_)
              refine gx_aloadO hx hb dX2_makeNextOffer_71 (lv_at hl 1 rfl) ?_
              refine gx_astore_nO (lv' := [(2, grf (gad g 6) (xCabFor σ k)), (1, .ref (gad g 7 k)), (5, grf (gad g 6) (xCabFor σ k)), (4, .ref (gad g 7 k)), (0, .ref (gad g 0 0)), (3, .int (nI k))]) hx hb dX2_makeNextOffer_73 rfl hl (by decide) rfl (fun ls hl => ?_)
              refine lv_iinc (v := nI (k + 1)) (lv' := [(3, .int (nI (k + 1))), (2, grf (gad g 6) (xCabFor σ k)), (1, .ref (gad g 7 k)), (5, grf (gad g 6) (xCabFor σ k)), (4, .ref (gad g 7 k)), (0, .ref (gad g 0 0))]) hx hb dX2_makeNextOffer_74 hl (k := 5) rfl (nI_1 _) (by decide) (by simp [grf_cat, List.filter]) (fun ls hl => ?_)
              refine lv_goto (tgt := 6) hx hb dX2_makeNextOffer_77 (by decide) ?_
              exact ih r (k + 1) (nI k) (xCabFor σ k) (by omega) (by omega) (Or.inr ⟨k, hkc, rfl⟩) (hX.cf k) (by rw [← hres]; simp only [xNxGo, c_1, c_4, c_5, c_6, reduceIte, Bool.false_eq_true]) ls (by have h8 : lv_has ls 6 [(0, .ref (gad g 0 0)), (1, .ref (gad g 7 k)), (2, grf (gad g 6) (xCabFor σ k)), (3, .int (nI (k + 1)))] := lv_sub hl [5, 2, 1, 0] rfl; simpa only [grf_m1, nI_0, grf_nI (show k < 2 ^ 31 by omega)] using h8)
          · skip
            refine lv_aload hx hb dX2_makeNextOffer_43 (lv_at hl 0 rfl) ?_
            refine gx_get hx hb hown hZ hG 7 k 4 hkc rfl (by decide) k8 (fun _ h => h) (v := .int (σ 7 k 4)) rfl dX2_makeNextOffer_45 ?_
            refine gx_aload_nO hx hb dX2_makeNextOffer_48 rfl (lv_at hl 2 rfl) ?_
            refine gx_topV (grf_nn c_5) ?_
            refine gx_get hx hb hown hZ hG 7 (ix nx) 4 (nn_lt hnx c_5 (hG.2.2.2 7)) rfl (by decide) k8 (fun _ h => h) (v := .int (σ 7 (ix nx) 4)) rfl dX2_makeNextOffer_49 ?_
            refine lv_icmp_ge (tgt := 74) hx hb dX2_makeNextOffer_52 (by decide) (fun c_7 => ?_) (fun c_7 => ?_)
            · skip
              refine lv_iinc (v := nI (k + 1)) (lv' := [(3, .int (nI (k + 1))), (4, .ref (gad g 7 k)), (0, .ref (gad g 0 0)), (1, grf (gad g 7) nx), (2, grf (gad g 6) ch)]) hx hb dX2_makeNextOffer_74 hl (k := 4) rfl (nI_1 _) (by decide) (by simp [grf_cat, List.filter]) (fun ls hl => ?_)
              refine lv_goto (tgt := 6) hx hb dX2_makeNextOffer_77 (by decide) ?_
              exact ih r (k + 1) (nx) (ch) (by omega) (by omega) hnx hch (by rw [← hres]; simp only [xNxGo, c_1, c_4, c_5, c_7, reduceIte, Bool.false_eq_true]) ls (by have h8 : lv_has ls 6 [(0, .ref (gad g 0 0)), (1, grf (gad g 7) nx), (2, grf (gad g 6) ch), (3, .int (nI (k + 1)))] := lv_sub hl [2, 3, 4, 0] rfl; simpa only [grf_m1, nI_0] using h8)
            · skip
              refine lv_aload_n hx hb dX2_makeNextOffer_55 rfl (lv_at hl 1 rfl) ?_
              refine lv_aload hx hb dX2_makeNextOffer_56 (lv_at hl 0 rfl) ?_
              refine gx_cR (gx_runV (As := [.ref (gad g 7 k)]) (rest := []) ⟨hx, hb, hml, hown, hts⟩ (c_X2_cabFor l g σ w k hX hkc) (cwV 1 hts gX2_makeNextOffer_X2_cabFor rfl rfl rfl (by decide +kernel) ⟨Nat.le_of_ble_eq_true rfl, Nat.le_of_ble_eq_true rfl⟩) (gx_obj hZ hG 0 0 hX.k0 rfl) hZ hG hS rfl hl.1 rfl (Nat.le_of_ble_eq_true rfl) dX2_makeNextOffer_58 ⟨Nat.le_of_ble_eq_true rfl, Nat.le_of_ble_eq_true rfl⟩) ?_
              refine gx_astoreO (lv' := [(5, grf (gad g 6) (xCabFor σ k)), (4, .ref (gad g 7 k)), (0, .ref (gad g 0 0)), (1, grf (gad g 7) nx), (2, grf (gad g 6) ch), (3, .int (nI k))]) hx hb dX2_makeNextOffer_61 hl (by decide) rfl (fun ls hl => ?_)
              refine gx_aloadO hx hb dX2_makeNextOffer_63 (lv_at hl 0 rfl) ?_
              refine gx_ifnull (tgt := 74) hx hb dX2_makeNextOffer_65 (by decide) (fun c_8 => ?_) (fun c_8 => ?_)
              · skip
                refine lv_iinc (v := nI (k + 1)) (lv' := [(3, .int (nI (k + 1))), (5, grf (gad g 6) (xCabFor σ k)), (4, .ref (gad g 7 k)), (0, .ref (gad g 0 0)), (1, grf (gad g 7) nx), (2, grf (gad g 6) ch)]) hx hb dX2_makeNextOffer_74 hl (k := 5) rfl (nI_1 _) (by decide) (by simp [grf_cat, List.filter]) (fun ls hl => ?_)
                refine lv_goto (tgt := 6) hx hb dX2_makeNextOffer_77 (by decide) ?_
                exact ih r (k + 1) (nx) (ch) (by omega) (by omega) hnx hch (by rw [← hres]; simp only [xNxGo, c_1, c_4, c_5, c_7, c_8, reduceIte, Bool.false_eq_true]) ls (by have h8 : lv_has ls 6 [(0, .ref (gad g 0 0)), (1, grf (gad g 7) nx), (2, grf (gad g 6) ch), (3, .int (nI (k + 1)))] := lv_sub hl [3, 4, 5, 0] rfl; simpa only [grf_m1, nI_0] using h8)
              · skip
                refine lv_aload hx hb dX2_makeNextOffer_68 (lv_at hl 1 rfl) ?_
                refine lv_astore_n (lv' := [(1, .ref (gad g 7 k)), (5, grf (gad g 6) (xCabFor σ k)), (4, .ref (gad g 7 k)), (0, .ref (gad g 0 0)), (2, grf (gad g 6) ch), (3, .int (nI k))]) hx hb dX2_makeNextOffer_70 rfl hl (by decide) rfl (fun ls hl => ?_)
                refine gx_aloadO hx hb dX2_makeNextOffer_71 (lv_at hl 1 rfl) ?_
                refine gx_astore_nO (lv' := [(2, grf (gad g 6) (xCabFor σ k)), (1, .ref (gad g 7 k)), (5, grf (gad g 6) (xCabFor σ k)), (4, .ref (gad g 7 k)), (0, .ref (gad g 0 0)), (3, .int (nI k))]) hx hb dX2_makeNextOffer_73 rfl hl (by decide) rfl (fun ls hl => ?_)
                refine lv_iinc (v := nI (k + 1)) (lv' := [(3, .int (nI (k + 1))), (2, grf (gad g 6) (xCabFor σ k)), (1, .ref (gad g 7 k)), (5, grf (gad g 6) (xCabFor σ k)), (4, .ref (gad g 7 k)), (0, .ref (gad g 0 0))]) hx hb dX2_makeNextOffer_74 hl (k := 5) rfl (nI_1 _) (by decide) (by simp [grf_cat, List.filter]) (fun ls hl => ?_)
                refine lv_goto (tgt := 6) hx hb dX2_makeNextOffer_77 (by decide) ?_
                exact ih r (k + 1) (nI k) (xCabFor σ k) (by omega) (by omega) (Or.inr ⟨k, hkc, rfl⟩) (hX.cf k) (by rw [← hres]; simp only [xNxGo, c_1, c_4, c_5, c_7, c_8, reduceIte, Bool.false_eq_true]) ls (by have h8 : lv_has ls 6 [(0, .ref (gad g 0 0)), (1, .ref (gad g 7 k)), (2, grf (gad g 6) (xCabFor σ k)), (3, .int (nI (k + 1)))] := lv_sub hl [5, 2, 1, 0] rfl; simpa only [grf_m1, nI_0, grf_nI (show k < 2 ^ 31 by omega)] using h8)
  exact loop_6 (gcn g 7 + 1) (gcn g 7) 0 (-1) (-1) (by omega) (by omega) (Or.inl rfl) (Or.inl rfl) (by simp only [xNx, hX.eO]) ls (by have h8 : lv_has ls 6 [(0, .ref (gad g 0 0)), (1, .null), (2, .null), (3, .int (0))] := lv_sub hl [3, 2, 1, 0] rfl; simpa only [grf_m1, nI_0] using h8)
def xMoGo : Nat → Mem → Mem
  | 0, σ => σ
  | r + 1, σ => if xMnoB σ = true then xMoGo r (xMno σ) else xMno σ
def xMo (σ : Mem) : Mem := xMoGo (nC σ) σ
theorem Xok.moGo {g : gG} : ∀ (r : Nat) {σ : Mem} (_ : Xok g σ), Xok g (xMoGo r σ)
  | 0, _, h => h
  | r + 1, σ, h => by
    simp only [xMoGo]
    split
    · exact Xok.moGo r h.mno
    · exact h.mno
theorem Xok.mo {g : gG} {σ : Mem} (h : Xok g σ) : Xok g (xMo σ) := Xok.moGo _ h
set_option maxHeartbeats 4000000 in
set_option maxRecDepth 100000 in
theorem c_X2_makeOffers (l : Launch) (g : gG) (σ : Mem) (w : Int64) (hX : Xok g σ) : Met l yX2_makeOffers wsX2_makeOffers ({ frames := 5, cells := 0, slots := 0, locals := 115 } : Room) (gPc g σ w [.ref (gad g 0 0)]) (gM g g (xMo σ) w (none)) 0 0 (gA g) := by
  refine gx_ofW (cc := cX2_makeOffers) (maxL := 3) (ret := none) (by decide) rfl (Nat.le_of_ble_eq_true rfl) ?_
  intro p e s m below meth c0 hx hb hr hml hts hown hlocks hin hG hZ hS ls hl
  have hown : s.vm.findClass RX2 = some m.cls := hown
  have hl : lv_has ls 3 [(0, .ref (gad g 0 0))] := hl
  have k1 := hts (.fieldLink RX2 16 "TaxiRank" "cabs" "Ljava/util/ArrayList;") (by decide +kernel)
  have hn6 := hX.n6
  have hn7 := hX.n7
  refine lv_iconst (v := 1) hx hb dX2_makeOffers_0 (by decide) ?_
  refine lv_istore_n (lv' := [(1, .int (1)), (0, .ref (gad g 0 0))]) hx hb dX2_makeOffers_1 rfl hl (by decide) rfl (fun ls hl => ?_)
  refine lv_iconst (v := 0) hx hb dX2_makeOffers_2 (by decide) ?_
  refine lv_istore_n (lv' := [(2, .int (0)), (1, .int (1)), (0, .ref (gad g 0 0))]) hx hb dX2_makeOffers_3 rfl hl (by decide) rfl (fun ls hl => ?_)
  have loop_4 : ∀ (nf : Nat) (r : Nat) (k : Nat) (b : Bool) (σ1 : Mem), r < nf → (k + r = gcn g 6) → (Xok g σ1) → ((if b = true then xMoGo r σ1 else σ1) = xMo σ) → ∀ (H : Heap) (locs : List Loc), GW g σ1 w H → va_S (gA g) s.heap H locs → ∀ ls : Array Slot, lv_has ls 3 [(0, .ref (gad g 0 0)), (1, .int (bI b)), (2, .int (nI k))] → W p l e ({ frames := 5, cells := 0, slots := 0, locals := 115 } : Room) s m ([.ref (gad g 0 0)] : List Value).toArray below meth c0 H locs 0 0 (MQ below (gM g g (xMo σ) w (none)) ([.ref (gad g 0 0)] : List Value).toArray s 0 0 (gA g)) (F0 m 4 ls []) := by
    intro nf
    induction nf with
    | zero => intro r k b σ1 hn; exact absurd hn (Nat.not_lt_zero _)
    | succ nf ih =>
      intro r k b σ1 hn hk hX hres H locs hG hS ls hl
      refine lv_iload_n hx hb dX2_makeOffers_4 rfl (lv_at hl 1 rfl) ?_
      refine lv_if_eq (tgt := 30) hx hb dX2_makeOffers_5 (by decide) (fun c_1 => ?_) (fun c_1 => ?_)
      · skip
        have c_1 := bI_eq0.mp c_1
        exact gx_vretM hx hb hr hlocks hG hS (by rw [← hres]; simp [c_1, xMoGo]) (Nat.le_of_ble_eq_true rfl) (Nat.le_of_ble_eq_true rfl) dX2_makeOffers_30
      · skip
        have c_1 := bI_ne0.mp c_1
        refine lv_iload_n hx hb dX2_makeOffers_8 rfl (lv_at hl 2 rfl) ?_
        refine lv_aload_n hx hb dX2_makeOffers_9 rfl (lv_at hl 0 rfl) ?_
        refine gx_get hx hb hown hZ hG 0 0 1 hX.k0 rfl (by decide) k1 (fun _ h => h) (v := .ref (gad g 2 0)) (grf_z hX.r1) dX2_makeOffers_10 ?_
        refine gx_cR (gx_runV (As := []) (rest := [.int (nI k)]) ⟨hx, hb, hml, hown, hts⟩ (c_size2 l g σ1 w hX) (cwV 0 hts gX2_makeOffers_Jx4a65c_size_8abf5 rfl rfl rfl (by decide +kernel) ⟨Nat.le_of_ble_eq_true rfl, Nat.le_of_ble_eq_true rfl⟩) (gx_obj hZ hG 2 0 hX.k2 rfl) hZ hG hS rfl hl.1 rfl (Nat.le_of_ble_eq_true rfl) dX2_makeOffers_13 ⟨Nat.le_of_ble_eq_true rfl, Nat.le_of_ble_eq_true rfl⟩) ?_
        refine lv_icmp_ge (tgt := 30) hx hb dX2_makeOffers_16 (by decide) (fun c_2 => ?_) (fun c_2 => ?_)
        · skip
          have hge := le_of_nIle c_2 (by omega) (by omega)
          obtain rfl : r = 0 := by omega
          exact gx_vretM hx hb hr hlocks hG hS (by rw [← hres]; simp [c_1, c_2, xMoGo]) (Nat.le_of_ble_eq_true rfl) (Nat.le_of_ble_eq_true rfl) dX2_makeOffers_30
        · skip
          have hkc := lt_of_nle c_2 (by omega)
          obtain ⟨r, rfl⟩ : ∃ q, r = q + 1 := ⟨r - 1, by omega⟩
          refine lv_aload_n hx hb dX2_makeOffers_19 rfl (lv_at hl 0 rfl) ?_
          refine gx_cM (gx_runV (As := []) (rest := []) ⟨hx, hb, hml, hown, hts⟩ (c_X2_makeNextOffer l g σ1 w hX) (cwV 0 hts gX2_makeOffers_X2_makeNextOffer rfl rfl rfl (by decide +kernel) ⟨Nat.le_of_ble_eq_true rfl, Nat.le_of_ble_eq_true rfl⟩) (gx_obj hZ hG 0 0 hX.k0 rfl) hZ hG hS rfl hl.1 rfl (Nat.le_of_ble_eq_true rfl) dX2_makeOffers_20 ⟨Nat.le_of_ble_eq_true rfl, Nat.le_of_ble_eq_true rfl⟩) hS (fun H locs hG hS hsz => ?_)
          have hX := hX.mno
          refine lv_istore_n (lv' := [(1, .int (bI (xMnoB σ1))), (0, .ref (gad g 0 0)), (2, .int (nI k))]) hx hb dX2_makeOffers_23 rfl hl (by decide) rfl (fun ls hl => ?_)
          refine lv_iinc (v := nI (k + 1)) (lv' := [(2, .int (nI (k + 1))), (1, .int (bI (xMnoB σ1))), (0, .ref (gad g 0 0))]) hx hb dX2_makeOffers_24 hl (k := 2) rfl (nI_1 _) (by decide) rfl (fun ls hl => ?_)
          refine lv_goto (tgt := 4) hx hb dX2_makeOffers_27 (by decide) ?_
          exact ih r (k + 1) (xMnoB σ1) (xMno σ1) (by omega) (by omega) hX (by rw [← hres]; cases hb9 : xMnoB σ1 <;> simp only [xMoGo, hb9, c_1, c_2, reduceIte, Bool.false_eq_true, if_true]) H locs hG hS ls (lv_sub hl [2, 1, 0] rfl)
  exact loop_4 (gcn g 6 + 1) (gcn g 6) 0 true σ (by omega) (by omega) hX (by simp only [xMo, hX.eC, reduceIte]) _ _ hG hS ls (lv_sub hl [2, 1, 0] rfl)
