/-- a list of n elements, ready for one more -/
def LPn (kl ka ke : Nat) (g : gG) (σ : Mem) (n : Nat) : Prop := gTri kl ka ke ∧ gcn g kl = 1 ∧ n < gcn g ke ∧ σ kl 0 2 = nI n ∧ n ≤ 60 ∧
  ((n = 0 ∧ σ kl 0 1 = 0 ∧ gcn g ka = 0) ∨ (σ kl 0 1 = 1 ∧ gcn g ka = 1 ∧ n ≤ gln g ka 0 ∧ gln g ka 0 ≤ 100 ∧ 10 ≤ gln g ka 0))
def gLA (g g' : gG) (ka : Nat) : Prop := g'.1 = g.1 ∧ g'.2.1 = g.2.1 ∧ g'.2.2.1 = g.2.2.1 ∧ ∀ k, k ≠ ka → gad g' k = gad g k ∧ gcn g' k = gcn g k ∧ gln g' k = gln g k
theorem gLA.rf (g : gG) (ka : Nat) : gLA g g ka := ⟨rfl, rfl, rfl, fun _ _ => ⟨rfl, rfl, rfl⟩⟩
theorem gLA.arr (g : gG) (ka q n : Nat) : gLA g (gArr g ka q n) ka := ⟨rfl, rfl, rfl, fun k hk => ⟨by funext i; rw [gArr_ad, if_neg (fun z => hk z.1)], by rw [gArr_cn, if_neg hk], by funext i; rw [gArr_ln, if_neg (fun z => hk z.1)]⟩⟩
/-- what the list is then -/
def LQ (kl ka : Nat) (g : gG) (σ : Mem) (n : Nat) (w : Int64) (H : Heap) : Prop := ∃ (g' : gG) (σ' : Mem), gLA g g' ka ∧ GW g' σ' w H ∧ σ' kl 0 2 = nI (n + 1) ∧ σ' kl 0 1 = 1 ∧ gcn g' ka = 1 ∧ n + 1 ≤ gln g' ka 0 ∧ gln g' ka 0 ≤ 100 ∧ 10 ≤ gln g' ka 0 ∧ (∀ j, j < n → σ' ka 0 j = σ ka 0 j) ∧ σ' ka 0 n = nI n ∧ (∀ k i f, k ≠ kl → k ≠ ka → σ' k i f = σ k i f)
theorem newlen_max {n : Nat} (h : 10 ≤ n) (h2 : n ≤ 100) : (if (1 : Int32) < nI (n / 2) then nI (n / 2) else 1) = nI (n / 2) := by
  by_cases c : 1 < n / 2
  · rw [if_pos (show (1 : Int32) < nI (n / 2) from nI_lt (a := 1) c (by omega))]
  · omega
theorem shr1 {n : Nat} (h : n ≤ 100) : nI n >>> ((1 : Int32) &&& 31) = nI (n / 2) := by
  have k := pk_shrN (n := n) (by omega) ((1 : Int32) &&& 31) 1 (by decide)
  rw [Nat.pow_one] at k
  exact k
theorem sub1 (n : Nat) : nI (n + 1) - nI n = 1 := by
  have k := pk_sub (a := n + 1) (b := n) (by omega)
  rw [Nat.add_sub_cancel_left] at k
  exact k
set_option maxHeartbeats 4000000 in
set_option maxRecDepth 100000 in
theorem c_newLen (l : Launch) (g : gG) (σ : Mem) (w : Int64) (n : Nat) (h1 : 10 ≤ n) (h2 : n ≤ 100) : Met l yJ8_newLength_cabcc wsJ8_newLength_cabcc ({ frames := 1, cells := 0, slots := 0, locals := 21 } : Room) (gPc g σ w [.int (nI n), .int (1), .int (nI (n / 2))]) (gR (.int (nI (n + n / 2)))) 0 0 (fun _ => False) := by
  refine gx_ofW (cc := cJ8_newLength_cabcc) (maxL := 4) (ret := (some .int)) (by decide) rfl (Nat.le_of_ble_eq_true rfl) ?_
  intro p e s m below meth c0 hx hb hr hml hts hown hlocks hin hG hZ hS ls hl
  have hown : s.vm.findClass RJ8 = some m.cls := hown
  have hl : lv_has ls 4 [(0, .int (nI n)), (1, .int (1)), (2, .int (nI (n / 2)))] := hl
  have k1 := hts (.methodLink RJ8 194 Lib.Math.max.name) (by decide +kernel)
  have k2 := hts (.static Lib.Math.max.name) (by decide +kernel)
  have k3 := hts (.initialized "java/lang/Math") (by decide +kernel)
  have k4 := hts (.code Lib.Math.max.name Lib.Math.max.code 2 (some .int)) (by decide +kernel)
  have k5 := hts (.constant RJ8 200 (2147483639)) (by decide +kernel)
  refine lv_iload_n hx hb dJ8_newLength_cabcc_0 rfl (lv_at hl 0 rfl) ?_
  refine lv_iload_n hx hb dJ8_newLength_cabcc_1 rfl (lv_at hl 1 rfl) ?_
  refine lv_iload_n hx hb dJ8_newLength_cabcc_2 rfl (lv_at hl 2 rfl) ?_
  refine va_mmax hx hb (hml.trans hl.1.symm) hown k1 k2 k3 k4 (Nat.le_of_ble_eq_true rfl) (Nat.le_of_ble_eq_true rfl) (Nat.le_of_ble_eq_true rfl) (Nat.le_of_ble_eq_true rfl) dJ8_newLength_cabcc_3 ?_
  refine gx_topN (newlen_max h1 h2) ?_
  refine lv_iadd hx hb dJ8_newLength_cabcc_6 ?_
  refine gx_topN (y := nI (n + (n / 2))) (by rw [nI_add]) ?_
  refine lv_istore_n (lv' := [(3, .int (nI (n + (n / 2)))), (0, .int (nI n)), (1, .int (1)), (2, .int (nI (n / 2)))]) hx hb dJ8_newLength_cabcc_7 rfl hl (by decide) rfl (fun ls hl => ?_)
  refine lv_iconst (v := 0) hx hb dJ8_newLength_cabcc_8 (by decide) ?_
  refine lv_iload_n hx hb dJ8_newLength_cabcc_9 rfl (lv_at hl 0 rfl) ?_
  refine lv_icmp_ge (tgt := 21) hx hb dJ8_newLength_cabcc_10 (by decide) (fun c_1 => ?_) (fun c_1 => ?_)
  · skip
    exact absurd c_1 (nI_nle (by omega) (by omega))
  · skip
    refine lv_iload_n hx hb dJ8_newLength_cabcc_13 rfl (lv_at hl 0 rfl) ?_
    refine lv_ldc hx hb hown k5 dJ8_newLength_cabcc_14 ?_
    refine lv_icmp_gt (tgt := 21) hx hb dJ8_newLength_cabcc_16 (by decide) (fun c_2 => ?_) (fun c_2 => ?_)
    · skip
      exact absurd c_2 (nI_nlt (a := 2147483639) (by omega) (by decide))
    · skip
      refine lv_iload_n hx hb dJ8_newLength_cabcc_19 rfl (lv_at hl 0 rfl) ?_
      exact gx_iretR hx hb hr hlocks rfl (Nat.le_of_ble_eq_true rfl) (Nat.le_of_ble_eq_true rfl) dJ8_newLength_cabcc_20
set_option maxHeartbeats 4000000 in
set_option maxRecDepth 100000 in
theorem c_growA2 (l : Launch) (g : gG) (σ : Mem) (w : Int64) (hl1 : gcn g 2 = 1) (hz1 : σ 2 0 1 = 0) (hca : gcn g 4 = 0) : Met l yJx4a65c_grow_92f84 wsJx4a65c_grow_92f84 ({ frames := 1, cells := 1, slots := 10, locals := 21 } : Room) (gPc g σ w [.ref (gad g 2 0), .int (1)]) (gE g (fun v H => ∃ q, v = some (.ref q) ∧ GW (gArr g 4 q 10) (gElm σ 2 4 (fun _ => -1)) w H)) 1 10 (gA g) := by
  refine gx_ofW (cc := cJx4a65c_grow_92f84) (maxL := 4) (ret := (some (.array (.object "java/lang/Object")))) (by decide) rfl (Nat.le_of_ble_eq_true rfl) ?_
  intro p e s m below meth c0 hx hb hr hml hts hown hlocks hin hG hZ hS ls hl
  have hown : s.vm.findClass RJx4a65c = some m.cls := hown
  have hl : lv_has ls 4 [(0, .ref (gad g 2 0)), (1, .int (1))] := hl
  have k1 := hts (.fieldLink RJx4a65c 9 "java/util/ArrayList" "elementData" "[Ljava/lang/Object;") (by decide +kernel)
  have k2 := hts (.fieldLink RJx4a65c 39 "java/util/ArrayList" "DEFAULTCAPACITY_EMPTY_ELEMENTDATA" "[Ljava/lang/Object;") (by decide +kernel)
  have k3 := hts (.methodLink RJx4a65c 79 Lib.Math.max.name) (by decide +kernel)
  have k4 := hts (.static Lib.Math.max.name) (by decide +kernel)
  have k5 := hts (.initialized "java/lang/Math") (by decide +kernel)
  have k6 := hts (.code Lib.Math.max.name Lib.Math.max.code 2 (some .int)) (by decide +kernel)
  have k7 := hts (.classLink RJx4a65c 7 "java/lang/Object") (by decide +kernel)
  refine lv_aload_n hx hb dJx4a65c_grow_92f84_0 rfl (lv_at hl 0 rfl) ?_
  refine gx_get hx hb hown hZ hG 2 0 1 (by rw [hl1]; decide) rfl (by decide) k1 (fun _ h => h) (v := .ref (gem g)) (gel_0 hz1) dJx4a65c_grow_92f84_1 ?_
  refine va_tlen hx hb hZ.2.2.2.2.2.2.2.2.1 hS (v := 0) rfl dJx4a65c_grow_92f84_4 ?_
  refine lv_istore_n (lv' := [(2, .int (0)), (0, .ref (gad g 2 0)), (1, .int (1))]) hx hb dJx4a65c_grow_92f84_5 rfl hl (by decide) rfl (fun ls hl => ?_)
  refine lv_iload_n hx hb dJx4a65c_grow_92f84_6 rfl (lv_at hl 0 rfl) ?_
  refine lv_if_gt (tgt := 20) hx hb dJx4a65c_grow_92f84_7 (by decide) (fun c_1 => ?_) (fun c_1 => ?_)
  · skip
    exact absurd c_1 (by decide)
  · skip
    refine lv_aload_n hx hb dJx4a65c_grow_92f84_10 rfl (lv_at hl 1 rfl) ?_
    refine gx_get hx hb hown hZ hG 2 0 1 (by rw [hl1]; decide) rfl (by decide) k1 (fun _ h => h) (v := .ref (gem g)) (gel_0 hz1) dJx4a65c_grow_92f84_11 ?_
    refine va_gets hx hb hZ.2.2.2.2.2.2.2.1 hS hown k2 (fun _ h => h) dJx4a65c_grow_92f84_14 ?_
    refine lv_acmp_eq (rx := some (gem g)) (ry := some (gem g)) (tgt := 45) hx hb dJx4a65c_grow_92f84_17 (by decide) (fun c_2 => ?_) (fun c_2 => absurd rfl c_2)
    refine lv_aload_n hx hb dJx4a65c_grow_92f84_45 rfl (lv_at hl 1 rfl) ?_
    refine lv_bipush (v := 10) hx hb dJx4a65c_grow_92f84_46 (by decide) ?_
    refine lv_iload_n hx hb dJx4a65c_grow_92f84_48 rfl (lv_at hl 2 rfl) ?_
    refine va_mmax hx hb (hml.trans hl.1.symm) hown k3 k4 k5 k6 (Nat.le_of_ble_eq_true rfl) (Nat.le_of_ble_eq_true rfl) (Nat.le_of_ble_eq_true rfl) (Nat.le_of_ble_eq_true rfl) dJx4a65c_grow_92f84_49 ?_
    refine gx_topN (y := 10) (by decide) ?_
    refine gx_anew hx hb hown k7 hZ hG hS 10 rfl (by omega) (Nat.le_of_ble_eq_true rfl) (Nat.le_of_ble_eq_true rfl) dJx4a65c_grow_92f84_52 (fun q H hG hS hqc hq hN hsm hqs hsz => ?_)
    refine lv_dup_x1 hx hb dJx4a65c_grow_92f84_55 rfl rfl ?_
    refine gx_putE hx hb hown hZ hG hS 2 4 6 (fun _ => -1) (Or.inl ⟨rfl, rfl, rfl⟩) hl1 (by omega) hq hN (fun _ => Or.inl rfl) hqc k1 (fun _ h => h) dJx4a65c_grow_92f84_56 (fun H locs hG hS => ?_)
    exact gx_aretE hx hb hr (Or.inr ⟨_, rfl⟩) hlocks hS (Or.inr ⟨_, rfl⟩) ⟨q, rfl, hG⟩ (Nat.le_of_ble_eq_true rfl) (Nat.le_of_ble_eq_true rfl) dJx4a65c_grow_92f84_59
set_option maxHeartbeats 4000000 in
set_option maxRecDepth 100000 in
theorem c_grow0A2 (l : Launch) (g : gG) (σ : Mem) (w : Int64) (hl1 : gcn g 2 = 1) (hz1 : σ 2 0 1 = 0) (hca : gcn g 4 = 0) (hz2 : σ 2 0 2 = 0) : Met l yJx4a65c_grow_d5877 wsJx4a65c_grow_d5877 ({ frames := 2, cells := 1, slots := 10, locals := 44 } : Room) (gPc g σ w [.ref (gad g 2 0)]) (gE g (fun v H => ∃ q, v = some (.ref q) ∧ GW (gArr g 4 q 10) (gElm σ 2 4 (fun _ => -1)) w H)) 1 10 (gA g) := by
  refine gx_ofW (cc := cJx4a65c_grow_d5877) (maxL := 1) (ret := (some (.array (.object "java/lang/Object")))) (by decide) rfl (Nat.le_of_ble_eq_true rfl) ?_
  intro p e s m below meth c0 hx hb hr hml hts hown hlocks hin hG hZ hS ls hl
  have hown : s.vm.findClass RJx4a65c = some m.cls := hown
  have hl : lv_has ls 1 [(0, .ref (gad g 2 0))] := hl
  have k1 := hts (.fieldLink RJx4a65c 48 "java/util/ArrayList" "size" "I") (by decide +kernel)
  refine lv_aload_n hx hb dJx4a65c_grow_d5877_0 rfl (lv_at hl 0 rfl) ?_
  refine lv_aload_n hx hb dJx4a65c_grow_d5877_1 rfl (lv_at hl 0 rfl) ?_
  refine gx_get hx hb hown hZ hG 2 0 2 (by rw [hl1]; decide) rfl (by decide) k1 (fun _ h => h) (v := .int (σ 2 0 2)) rfl dJx4a65c_grow_d5877_2 ?_
  refine lv_iconst (v := 1) hx hb dJx4a65c_grow_d5877_5 (by decide) ?_
  refine lv_iadd hx hb dJx4a65c_grow_d5877_6 ?_
  refine gx_topN (y := 1) (by rw [hz2]; rfl) ?_
  refine gx_cE (gx_runV (As := [.int (1)]) (rest := []) ⟨hx, hb, hml, hown, hts⟩ (c_growA2 l g σ w hl1 hz1 hca) (cwV 1 hts gJx4a65c_grow_d5877_Jx4a65c_grow_92f84 rfl rfl rfl (by decide +kernel) ⟨Nat.le_of_ble_eq_true rfl, Nat.le_of_ble_eq_true rfl⟩) (gx_obj hZ hG 2 0 (by rw [hl1]; decide) rfl) hZ hG hS rfl hl.1 rfl (Nat.le_of_ble_eq_true rfl) dJx4a65c_grow_d5877_7 ⟨Nat.le_of_ble_eq_true rfl, Nat.le_of_ble_eq_true rfl⟩) hS (fun vr H1 locs1 hPo hS1 hsz => ?_)
  obtain ⟨q, rfl, hG⟩ := hPo
  have hS := hS1
  exact gx_aretE hx hb hr (Or.inr ⟨_, rfl⟩) hlocks hS (Or.inr ⟨_, rfl⟩) ⟨q, rfl, hG⟩ (Nat.le_of_ble_eq_true rfl) (Nat.le_of_ble_eq_true rfl) dJx4a65c_grow_d5877_10
set_option maxHeartbeats 4000000 in
set_option maxRecDepth 100000 in
theorem c_copy3 (l : Launch) (g : gG) (σ : Mem) (w : Int64) (n n1 : Nat) (hca : 0 < gcn g 5) (hln : gln g 5 0 = n) (hn : n ≤ n1) (h31 : n1 ≤ 200) : Met l yJ7_copyOf_6403c wsJ7_copyOf_6403c ({ frames := 1, cells := 1, slots := 200, locals := 26 } : Room) (gPc g σ w [.ref (gad g 5 0), .int (nI n1), .ref ((gmi g))]) (gE g (fun v H => ∃ q, v = some (.ref q) ∧ GW g σ w H ∧ H[q]? = some (arrV (gO g) n1 (fun j => grf (gad g 7) (if j < n then σ 5 0 j else -1))) ∧ (∀ k i, i < gcn g k → gad g k i ≠ q) ∧ gN0 g ≤ q)) 1 200 (gA g) := by
  refine gx_ofW (cc := cJ7_copyOf_6403c) (maxL := 4) (ret := (some (.array (.object "java/lang/Object")))) (by decide) rfl (Nat.le_of_ble_eq_true rfl) ?_
  intro p e s m below meth c0 hx hb hr hml hts hown hlocks hin hG hZ hS ls hl
  have hown : s.vm.findClass RJ7 = some m.cls := hown
  have hl : lv_has ls 4 [(0, .ref (gad g 5 0)), (1, .int (nI n1)), (2, .ref ((gmi g)))] := hl
  have k1 := hts (.classLink RJ7 110 "[Ljava/lang/Object;") (by decide +kernel)
  have k2 := hts (.classLink RJ7 2 "java/lang/Object") (by decide +kernel)
  have k3 := hts (.methodLink RJ7 304 Lib.Math.min.name) (by decide +kernel)
  have k4 := hts (.static Lib.Math.min.name) (by decide +kernel)
  have k5 := hts (.initialized "java/lang/Math") (by decide +kernel)
  have k6 := hts (.code Lib.Math.min.name Lib.Math.min.code 2 (some .int)) (by decide +kernel)
  have k7 := hts (.methodLink RJ7 150 arraycopyName) (by decide +kernel)
  have k8 := hts (.native arraycopyName) (by decide +kernel)
  have k9 := hts (.static arraycopyName) (by decide +kernel)
  have k10 := hts (.initialized "java/lang/System") (by decide +kernel)
  refine lv_aload_n hx hb dJ7_copyOf_6403c_0 rfl (lv_at hl 2 rfl) ?_
  refine va_ldcM hx hb hown k1 hZ.2.2.2.2.2.2.2.2.2.1 dJ7_copyOf_6403c_1 ?_
  refine lv_acmp_ne (rx := some (gmi g)) (ry := some (gmi g)) (tgt := 13) hx hb dJ7_copyOf_6403c_3 (by decide) (fun c_1 => absurd rfl c_1) (fun c_1 => ?_)
  refine lv_iload_n hx hb dJ7_copyOf_6403c_6 rfl (lv_at hl 1 rfl) ?_
  refine gx_anew hx hb hown k2 hZ hG hS n1 rfl (by omega) (Nat.le_of_ble_eq_true rfl) (show 0 + n1 ≤ 200 by omega) dJ7_copyOf_6403c_7 (fun q H hG hS hqc hq hN hsm hqs hsz => ?_)
  refine W.widen (k := 1) (n := 200) (by omega) (by omega) ?_
  refine lv_goto (tgt := 24) hx hb dJ7_copyOf_6403c_10 (by decide) ?_
  refine lv_astore_n (lv' := [(3, .ref q), (0, .ref (gad g 5 0)), (1, .int (nI n1)), (2, .ref ((gmi g)))]) hx hb dJ7_copyOf_6403c_24 rfl hl (by decide) rfl (fun ls hl => ?_)
  refine lv_aload_n hx hb dJ7_copyOf_6403c_25 rfl (lv_at hl 1 rfl) ?_
  refine lv_iconst (v := 0) hx hb dJ7_copyOf_6403c_26 (by decide) ?_
  refine lv_aload_n hx hb dJ7_copyOf_6403c_27 rfl (lv_at hl 0 rfl) ?_
  refine lv_iconst (v := 0) hx hb dJ7_copyOf_6403c_28 (by decide) ?_
  refine lv_aload_n hx hb dJ7_copyOf_6403c_29 rfl (lv_at hl 1 rfl) ?_
  refine gx_len hx hb hZ hG 5 0 hca rfl (gx_KO hZ).1 (v := nI n) (by rw [hln]; rfl) dJ7_copyOf_6403c_30 ?_
  refine lv_iload_n hx hb dJ7_copyOf_6403c_31 rfl (lv_at hl 2 rfl) ?_
  refine va_mmin hx hb (hml.trans hl.1.symm) hown k3 k4 k5 k6 (Nat.le_of_ble_eq_true rfl) (Nat.le_of_ble_eq_true rfl) (Nat.le_of_ble_eq_true rfl) (Nat.le_of_ble_eq_true rfl) dJ7_copyOf_6403c_32 ?_
  refine gx_topN (if_neg (nI_nlt hn (by omega))) ?_
  refine gx_copy hx hb (hml.trans hl.1.symm) hown k7 k8 k9 k10 hZ hG hS 3 5 7 (Or.inr ⟨rfl, rfl, rfl⟩) hca rfl (by omega) hn (by omega) hqc hq hN (Nat.le_of_ble_eq_true rfl) (Nat.le_of_ble_eq_true rfl) dJ7_copyOf_6403c_35 (fun H locs hG hqc hS => ?_)
  refine lv_aload_n hx hb dJ7_copyOf_6403c_38 rfl (lv_at hl 0 rfl) ?_
  exact gx_aretE hx hb hr (Or.inr ⟨_, rfl⟩) hlocks hS (Or.inr ⟨_, rfl⟩) ⟨q, rfl, hG, hqc, hq, hN⟩ (Nat.le_of_ble_eq_true rfl) (Nat.le_of_ble_eq_true rfl) dJ7_copyOf_6403c_39
set_option maxHeartbeats 4000000 in
set_option maxRecDepth 100000 in
theorem c_copy2 (l : Launch) (g : gG) (σ : Mem) (w : Int64) (n n1 : Nat) (hca : 0 < gcn g 5) (hln : gln g 5 0 = n) (hn : n ≤ n1) (h31 : n1 ≤ 200) : Met l yJ7_copyOf_1904c wsJ7_copyOf_1904c ({ frames := 2, cells := 1, slots := 200, locals := 49 } : Room) (gPc g σ w [.ref (gad g 5 0), .int (nI n1)]) (gE g (fun v H => ∃ q, v = some (.ref q) ∧ GW g σ w H ∧ H[q]? = some (arrV (gO g) n1 (fun j => grf (gad g 7) (if j < n then σ 5 0 j else -1))) ∧ (∀ k i, i < gcn g k → gad g k i ≠ q) ∧ gN0 g ≤ q)) 1 200 (gA g) := by
  refine gx_ofW (cc := cJ7_copyOf_1904c) (maxL := 2) (ret := (some (.array (.object "java/lang/Object")))) (by decide) rfl (Nat.le_of_ble_eq_true rfl) ?_
  intro p e s m below meth c0 hx hb hr hml hts hown hlocks hin hG hZ hS ls hl
  have hown : s.vm.findClass RJ7 = some m.cls := hown
  have hl : lv_has ls 2 [(0, .ref (gad g 5 0)), (1, .int (nI n1))] := hl
  have k1 := hts (.methodLink RJ7 86 ⟨"java/lang/Object", "getClass", "()Ljava/lang/Class;"⟩) (by decide +kernel)
  have k2 := hts (.selects "[Ljava/lang/Object;" ⟨"java/lang/Object", "getClass", "()Ljava/lang/Class;"⟩ ⟨"java/lang/Object", "getClass", "()Ljava/lang/Class;"⟩) (by decide +kernel)
  have k3 := hts (.instanceMethod ⟨"java/lang/Object", "getClass", "()Ljava/lang/Class;"⟩) (by decide +kernel)
  have k4 := hts (.native ⟨"java/lang/Object", "getClass", "()Ljava/lang/Class;"⟩) (by decide +kernel)
  refine lv_aload_n hx hb dJ7_copyOf_1904c_0 rfl (lv_at hl 0 rfl) ?_
  refine lv_iload_n hx hb dJ7_copyOf_1904c_1 rfl (lv_at hl 1 rfl) ?_
  refine lv_aload_n hx hb dJ7_copyOf_1904c_2 rfl (lv_at hl 0 rfl) ?_
  refine va_getC hx hb (hml.trans hl.1.symm) hown k1 (va_Dc.use hZ.2.2.2.2.2.2.2.2.2.2.1) k2 k3 k4 hZ.2.2.2.2.2.2.2.2.2.1 (gx_arrcls hZ hG 5 0 hca rfl rfl) (Nat.le_of_ble_eq_true rfl) (Nat.le_of_ble_eq_true rfl) dJ7_copyOf_1904c_3 ?_
  refine gx_cE (gx_runS (As := [.ref (gad g 5 0), .int (nI n1), .ref ((gmi g))]) (rest := []) ⟨hx, hb, hml, hown, hts⟩ (c_copy3 l g σ w n n1 hca hln hn h31) (va_cwS 3 hts gJ7_copyOf_1904c_J7_copyOf_6403c rfl rfl rfl (by decide +kernel) ⟨Nat.le_of_ble_eq_true rfl, Nat.le_of_ble_eq_true rfl⟩) hZ hG hS rfl hl.1 rfl (Nat.le_of_ble_eq_true rfl) dJ7_copyOf_1904c_6 ⟨Nat.le_of_ble_eq_true rfl, Nat.le_of_ble_eq_true rfl⟩) hS (fun vr H1 locs1 hPo hS1 hsz => ?_)
  obtain ⟨q, rfl, hG, hqc, hq, hN⟩ := hPo
  have hS := hS1
  exact gx_aretE hx hb hr (Or.inr ⟨_, rfl⟩) hlocks hS (Or.inr ⟨_, rfl⟩) ⟨q, rfl, hG, hqc, hq, hN⟩ (Nat.le_of_ble_eq_true rfl) (Nat.le_of_ble_eq_true rfl) dJ7_copyOf_1904c_9
set_option maxHeartbeats 4000000 in
set_option maxRecDepth 100000 in
theorem c_growA3 (l : Launch) (g : gG) (σ : Mem) (w : Int64) (hl1 : gcn g 3 = 1) (hz1 : σ 3 0 1 = 0) (hca : gcn g 5 = 0) : Met l yJx4a65c_grow_92f84 wsJx4a65c_grow_92f84 ({ frames := 1, cells := 1, slots := 10, locals := 21 } : Room) (gPc g σ w [.ref (gad g 3 0), .int (1)]) (gE g (fun v H => ∃ q, v = some (.ref q) ∧ GW (gArr g 5 q 10) (gElm σ 3 5 (fun _ => -1)) w H)) 1 10 (gA g) := by
  refine gx_ofW (cc := cJx4a65c_grow_92f84) (maxL := 4) (ret := (some (.array (.object "java/lang/Object")))) (by decide) rfl (Nat.le_of_ble_eq_true rfl) ?_
  intro p e s m below meth c0 hx hb hr hml hts hown hlocks hin hG hZ hS ls hl
  have hown : s.vm.findClass RJx4a65c = some m.cls := hown
  have hl : lv_has ls 4 [(0, .ref (gad g 3 0)), (1, .int (1))] := hl
  have k1 := hts (.fieldLink RJx4a65c 9 "java/util/ArrayList" "elementData" "[Ljava/lang/Object;") (by decide +kernel)
  have k2 := hts (.fieldLink RJx4a65c 39 "java/util/ArrayList" "DEFAULTCAPACITY_EMPTY_ELEMENTDATA" "[Ljava/lang/Object;") (by decide +kernel)
  have k3 := hts (.methodLink RJx4a65c 79 Lib.Math.max.name) (by decide +kernel)
  have k4 := hts (.static Lib.Math.max.name) (by decide +kernel)
  have k5 := hts (.initialized "java/lang/Math") (by decide +kernel)
  have k6 := hts (.code Lib.Math.max.name Lib.Math.max.code 2 (some .int)) (by decide +kernel)
  have k7 := hts (.classLink RJx4a65c 7 "java/lang/Object") (by decide +kernel)
  refine lv_aload_n hx hb dJx4a65c_grow_92f84_0 rfl (lv_at hl 0 rfl) ?_
  refine gx_get hx hb hown hZ hG 3 0 1 (by rw [hl1]; decide) rfl (by decide) k1 (fun _ h => h) (v := .ref (gem g)) (gel_0 hz1) dJx4a65c_grow_92f84_1 ?_
  refine va_tlen hx hb hZ.2.2.2.2.2.2.2.2.1 hS (v := 0) rfl dJx4a65c_grow_92f84_4 ?_
  refine lv_istore_n (lv' := [(2, .int (0)), (0, .ref (gad g 3 0)), (1, .int (1))]) hx hb dJx4a65c_grow_92f84_5 rfl hl (by decide) rfl (fun ls hl => ?_)
  refine lv_iload_n hx hb dJx4a65c_grow_92f84_6 rfl (lv_at hl 0 rfl) ?_
  refine lv_if_gt (tgt := 20) hx hb dJx4a65c_grow_92f84_7 (by decide) (fun c_1 => ?_) (fun c_1 => ?_)
  · skip
    exact absurd c_1 (by decide)
  · skip
    refine lv_aload_n hx hb dJx4a65c_grow_92f84_10 rfl (lv_at hl 1 rfl) ?_
    refine gx_get hx hb hown hZ hG 3 0 1 (by rw [hl1]; decide) rfl (by decide) k1 (fun _ h => h) (v := .ref (gem g)) (gel_0 hz1) dJx4a65c_grow_92f84_11 ?_
    refine va_gets hx hb hZ.2.2.2.2.2.2.2.1 hS hown k2 (fun _ h => h) dJx4a65c_grow_92f84_14 ?_
    refine lv_acmp_eq (rx := some (gem g)) (ry := some (gem g)) (tgt := 45) hx hb dJx4a65c_grow_92f84_17 (by decide) (fun c_2 => ?_) (fun c_2 => absurd rfl c_2)
    refine lv_aload_n hx hb dJx4a65c_grow_92f84_45 rfl (lv_at hl 1 rfl) ?_
    refine lv_bipush (v := 10) hx hb dJx4a65c_grow_92f84_46 (by decide) ?_
    refine lv_iload_n hx hb dJx4a65c_grow_92f84_48 rfl (lv_at hl 2 rfl) ?_
    refine va_mmax hx hb (hml.trans hl.1.symm) hown k3 k4 k5 k6 (Nat.le_of_ble_eq_true rfl) (Nat.le_of_ble_eq_true rfl) (Nat.le_of_ble_eq_true rfl) (Nat.le_of_ble_eq_true rfl) dJx4a65c_grow_92f84_49 ?_
    refine gx_topN (y := 10) (by decide) ?_
    refine gx_anew hx hb hown k7 hZ hG hS 10 rfl (by omega) (Nat.le_of_ble_eq_true rfl) (Nat.le_of_ble_eq_true rfl) dJx4a65c_grow_92f84_52 (fun q H hG hS hqc hq hN hsm hqs hsz => ?_)
    refine lv_dup_x1 hx hb dJx4a65c_grow_92f84_55 rfl rfl ?_
    refine gx_putE hx hb hown hZ hG hS 3 5 7 (fun _ => -1) (Or.inr ⟨rfl, rfl, rfl⟩) hl1 (by omega) hq hN (fun _ => Or.inl rfl) hqc k1 (fun _ h => h) dJx4a65c_grow_92f84_56 (fun H locs hG hS => ?_)
    exact gx_aretE hx hb hr (Or.inr ⟨_, rfl⟩) hlocks hS (Or.inr ⟨_, rfl⟩) ⟨q, rfl, hG⟩ (Nat.le_of_ble_eq_true rfl) (Nat.le_of_ble_eq_true rfl) dJx4a65c_grow_92f84_59
set_option maxHeartbeats 4000000 in
set_option maxRecDepth 100000 in
theorem c_grow0A3 (l : Launch) (g : gG) (σ : Mem) (w : Int64) (hl1 : gcn g 3 = 1) (hz1 : σ 3 0 1 = 0) (hca : gcn g 5 = 0) (hz2 : σ 3 0 2 = 0) : Met l yJx4a65c_grow_d5877 wsJx4a65c_grow_d5877 ({ frames := 2, cells := 1, slots := 10, locals := 44 } : Room) (gPc g σ w [.ref (gad g 3 0)]) (gE g (fun v H => ∃ q, v = some (.ref q) ∧ GW (gArr g 5 q 10) (gElm σ 3 5 (fun _ => -1)) w H)) 1 10 (gA g) := by
  refine gx_ofW (cc := cJx4a65c_grow_d5877) (maxL := 1) (ret := (some (.array (.object "java/lang/Object")))) (by decide) rfl (Nat.le_of_ble_eq_true rfl) ?_
  intro p e s m below meth c0 hx hb hr hml hts hown hlocks hin hG hZ hS ls hl
  have hown : s.vm.findClass RJx4a65c = some m.cls := hown
  have hl : lv_has ls 1 [(0, .ref (gad g 3 0))] := hl
  have k1 := hts (.fieldLink RJx4a65c 48 "java/util/ArrayList" "size" "I") (by decide +kernel)
  refine lv_aload_n hx hb dJx4a65c_grow_d5877_0 rfl (lv_at hl 0 rfl) ?_
  refine lv_aload_n hx hb dJx4a65c_grow_d5877_1 rfl (lv_at hl 0 rfl) ?_
  refine gx_get hx hb hown hZ hG 3 0 2 (by rw [hl1]; decide) rfl (by decide) k1 (fun _ h => h) (v := .int (σ 3 0 2)) rfl dJx4a65c_grow_d5877_2 ?_
  refine lv_iconst (v := 1) hx hb dJx4a65c_grow_d5877_5 (by decide) ?_
  refine lv_iadd hx hb dJx4a65c_grow_d5877_6 ?_
  refine gx_topN (y := 1) (by rw [hz2]; rfl) ?_
  refine gx_cE (gx_runV (As := [.int (1)]) (rest := []) ⟨hx, hb, hml, hown, hts⟩ (c_growA3 l g σ w hl1 hz1 hca) (cwV 1 hts gJx4a65c_grow_d5877_Jx4a65c_grow_92f84 rfl rfl rfl (by decide +kernel) ⟨Nat.le_of_ble_eq_true rfl, Nat.le_of_ble_eq_true rfl⟩) (gx_obj hZ hG 3 0 (by rw [hl1]; decide) rfl) hZ hG hS rfl hl.1 rfl (Nat.le_of_ble_eq_true rfl) dJx4a65c_grow_d5877_7 ⟨Nat.le_of_ble_eq_true rfl, Nat.le_of_ble_eq_true rfl⟩) hS (fun vr H1 locs1 hPo hS1 hsz => ?_)
  obtain ⟨q, rfl, hG⟩ := hPo
  have hS := hS1
  exact gx_aretE hx hb hr (Or.inr ⟨_, rfl⟩) hlocks hS (Or.inr ⟨_, rfl⟩) ⟨q, rfl, hG⟩ (Nat.le_of_ble_eq_true rfl) (Nat.le_of_ble_eq_true rfl) dJx4a65c_grow_d5877_10
set_option maxHeartbeats 4000000 in
set_option maxRecDepth 100000 in
theorem c_growC3 (l : Launch) (g : gG) (σ : Mem) (w : Int64) (n : Nat) (hl1 : gcn g 3 = 1) (hz1 : σ 3 0 1 = 1) (hca : gcn g 5 = 1) (hln : gln g 5 0 = n) (h10 : 10 ≤ n) (h60 : n ≤ 60) : Met l yJx4a65c_grow_92f84 wsJx4a65c_grow_92f84 ({ frames := 3, cells := 1, slots := 200, locals := 71 } : Room) (gPc g σ w [.ref (gad g 3 0), .int (nI (n + 1))]) (gE g (fun v H => ∃ q, v = some (.ref q) ∧ GW (gArr g 5 q (n + n / 2)) (gElm σ 3 5 (fun j => if j < n then σ 5 0 j else -1)) w H)) 1 200 (gA g) := by
  refine gx_ofW (cc := cJx4a65c_grow_92f84) (maxL := 4) (ret := (some (.array (.object "java/lang/Object")))) (by decide) rfl (Nat.le_of_ble_eq_true rfl) ?_
  intro p e s m below meth c0 hx hb hr hml hts hown hlocks hin hG hZ hS ls hl
  have hown : s.vm.findClass RJx4a65c = some m.cls := hown
  have hl : lv_has ls 4 [(0, .ref (gad g 3 0)), (1, .int (nI (n + 1)))] := hl
  have k1 := hts (.fieldLink RJx4a65c 9 "java/util/ArrayList" "elementData" "[Ljava/lang/Object;") (by decide +kernel)
  refine lv_aload_n hx hb dJx4a65c_grow_92f84_0 rfl (lv_at hl 0 rfl) ?_
  refine gx_get hx hb hown hZ hG 3 0 1 (by rw [hl1]; decide) rfl (by decide) k1 (fun _ h => h) (v := .ref (gad g 5 0)) (gel_1 hz1) dJx4a65c_grow_92f84_1 ?_
  refine gx_len hx hb hZ hG 5 0 (by rw [hca]; decide) rfl (gx_KO hZ).1 (v := nI n) (by rw [hln]; rfl) dJx4a65c_grow_92f84_4 ?_
  refine lv_istore_n (lv' := [(2, .int (nI n)), (0, .ref (gad g 3 0)), (1, .int (nI (n + 1)))]) hx hb dJx4a65c_grow_92f84_5 rfl hl (by decide) rfl (fun ls hl => ?_)
  refine lv_iload_n hx hb dJx4a65c_grow_92f84_6 rfl (lv_at hl 0 rfl) ?_
  refine lv_if_gt (tgt := 20) hx hb dJx4a65c_grow_92f84_7 (by decide) (fun c_1 => ?_) (fun c_1 => ?_)
  · skip
    refine lv_iload_n hx hb dJx4a65c_grow_92f84_20 rfl (lv_at hl 0 rfl) ?_
    refine lv_iload_n hx hb dJx4a65c_grow_92f84_21 rfl (lv_at hl 2 rfl) ?_
    refine lv_iload_n hx hb dJx4a65c_grow_92f84_22 rfl (lv_at hl 0 rfl) ?_
    refine lv_isub hx hb dJx4a65c_grow_92f84_23 ?_
    refine gx_topN (sub1 n) ?_
    refine lv_iload_n hx hb dJx4a65c_grow_92f84_24 rfl (lv_at hl 0 rfl) ?_
    refine lv_iconst (v := 1) hx hb dJx4a65c_grow_92f84_25 (by decide) ?_
    refine lv_ishr hx hb dJx4a65c_grow_92f84_26 ?_
    refine gx_topN (shr1 (by omega)) ?_
    refine gx_cR (gx_runS (As := [.int (nI n), .int (1), .int (nI (n / 2))]) (rest := []) ⟨hx, hb, hml, hown, hts⟩ (c_newLen l g σ w n (by omega) (by omega)) (va_cwS 3 hts gJx4a65c_grow_92f84_J8_newLength_cabcc rfl rfl rfl (by decide +kernel) ⟨Nat.le_of_ble_eq_true rfl, Nat.le_of_ble_eq_true rfl⟩) hZ hG hS rfl hl.1 rfl (Nat.le_of_ble_eq_true rfl) dJx4a65c_grow_92f84_27 ⟨Nat.le_of_ble_eq_true rfl, Nat.le_of_ble_eq_true rfl⟩) ?_
    refine lv_istore_n (lv' := [(3, .int (nI (n + n / 2))), (2, .int (nI n)), (0, .ref (gad g 3 0)), (1, .int (nI (n + 1)))]) hx hb dJx4a65c_grow_92f84_30 rfl hl (by decide) rfl (fun ls hl => ?_)
    refine lv_aload_n hx hb dJx4a65c_grow_92f84_31 rfl (lv_at hl 2 rfl) ?_
    refine lv_aload_n hx hb dJx4a65c_grow_92f84_32 rfl (lv_at hl 2 rfl) ?_
    refine gx_get hx hb hown hZ hG 3 0 1 (by rw [hl1]; decide) rfl (by decide) k1 (fun _ h => h) (v := .ref (gad g 5 0)) (gel_1 hz1) dJx4a65c_grow_92f84_33 ?_
    refine lv_iload_n hx hb dJx4a65c_grow_92f84_36 rfl (lv_at hl 0 rfl) ?_
    refine gx_cE (gx_runS (As := [.ref (gad g 5 0), .int (nI (n + n / 2))]) (rest := [.ref (gad g 3 0)]) ⟨hx, hb, hml, hown, hts⟩ (c_copy2 l g σ w n (n + n / 2) (by omega) hln (by omega) (by omega)) (va_cwS 2 hts gJx4a65c_grow_92f84_J7_copyOf_1904c rfl rfl rfl (by decide +kernel) ⟨Nat.le_of_ble_eq_true rfl, Nat.le_of_ble_eq_true rfl⟩) hZ hG hS rfl hl.1 rfl (Nat.le_of_ble_eq_true rfl) dJx4a65c_grow_92f84_37 ⟨Nat.le_of_ble_eq_true rfl, Nat.le_of_ble_eq_true rfl⟩) hS (fun vr H1 locs1 hPo hS1 hsz => ?_)
    obtain ⟨q, rfl, hG, hqc, hq, hN⟩ := hPo
    have hS := hS1
    refine lv_dup_x1 hx hb dJx4a65c_grow_92f84_40 rfl rfl ?_
    refine gx_putE hx hb hown hZ hG hS 3 5 7 (fun j => if j < n then σ 5 0 j else -1) (Or.inr ⟨rfl, rfl, rfl⟩) hl1 (by omega) hq hN (fun j => ?_) hqc k1 (fun _ h => h) dJx4a65c_grow_92f84_41 (fun H locs hG hS => ?_)
    · split
      · exact hG.2.2.1 5 0 j (by omega)
      · exact Or.inl rfl
    exact gx_aretE hx hb hr (Or.inr ⟨_, rfl⟩) hlocks hS (Or.inr ⟨_, rfl⟩) ⟨q, rfl, hG⟩ (Nat.le_of_ble_eq_true rfl) (Nat.le_of_ble_eq_true rfl) dJx4a65c_grow_92f84_44
  · skip
    exact absurd (nI_lt (a := 0) (by omega) (by omega)) c_1
set_option maxHeartbeats 4000000 in
set_option maxRecDepth 100000 in
theorem c_grow0C3 (l : Launch) (g : gG) (σ : Mem) (w : Int64) (n : Nat) (hl1 : gcn g 3 = 1) (hz1 : σ 3 0 1 = 1) (hca : gcn g 5 = 1) (hln : gln g 5 0 = n) (h10 : 10 ≤ n) (h60 : n ≤ 60) (hz2 : σ 3 0 2 = nI n) : Met l yJx4a65c_grow_d5877 wsJx4a65c_grow_d5877 ({ frames := 4, cells := 1, slots := 200, locals := 94 } : Room) (gPc g σ w [.ref (gad g 3 0)]) (gE g (fun v H => ∃ q, v = some (.ref q) ∧ GW (gArr g 5 q (n + n / 2)) (gElm σ 3 5 (fun j => if j < n then σ 5 0 j else -1)) w H)) 1 200 (gA g) := by
  refine gx_ofW (cc := cJx4a65c_grow_d5877) (maxL := 1) (ret := (some (.array (.object "java/lang/Object")))) (by decide) rfl (Nat.le_of_ble_eq_true rfl) ?_
  intro p e s m below meth c0 hx hb hr hml hts hown hlocks hin hG hZ hS ls hl
  have hown : s.vm.findClass RJx4a65c = some m.cls := hown
  have hl : lv_has ls 1 [(0, .ref (gad g 3 0))] := hl
  have k1 := hts (.fieldLink RJx4a65c 48 "java/util/ArrayList" "size" "I") (by decide +kernel)
  refine lv_aload_n hx hb dJx4a65c_grow_d5877_0 rfl (lv_at hl 0 rfl) ?_
  refine lv_aload_n hx hb dJx4a65c_grow_d5877_1 rfl (lv_at hl 0 rfl) ?_
  refine gx_get hx hb hown hZ hG 3 0 2 (by rw [hl1]; decide) rfl (by decide) k1 (fun _ h => h) (v := .int (σ 3 0 2)) rfl dJx4a65c_grow_d5877_2 ?_
  refine lv_iconst (v := 1) hx hb dJx4a65c_grow_d5877_5 (by decide) ?_
  refine lv_iadd hx hb dJx4a65c_grow_d5877_6 ?_
  refine gx_topN (y := nI (n + 1)) (by rw [hz2]; exact nI_1 n) ?_
  refine gx_cE (gx_runV (As := [.int (nI (n + 1))]) (rest := []) ⟨hx, hb, hml, hown, hts⟩ (c_growC3 l g σ w n hl1 hz1 hca hln h10 h60) (cwV 1 hts gJx4a65c_grow_d5877_Jx4a65c_grow_92f84 rfl rfl rfl (by decide +kernel) ⟨Nat.le_of_ble_eq_true rfl, Nat.le_of_ble_eq_true rfl⟩) (gx_obj hZ hG 3 0 (by rw [hl1]; decide) rfl) hZ hG hS rfl hl.1 rfl (Nat.le_of_ble_eq_true rfl) dJx4a65c_grow_d5877_7 ⟨Nat.le_of_ble_eq_true rfl, Nat.le_of_ble_eq_true rfl⟩) hS (fun vr H1 locs1 hPo hS1 hsz => ?_)
  obtain ⟨q, rfl, hG⟩ := hPo
  have hS := hS1
  exact gx_aretE hx hb hr (Or.inr ⟨_, rfl⟩) hlocks hS (Or.inr ⟨_, rfl⟩) ⟨q, rfl, hG⟩ (Nat.le_of_ble_eq_true rfl) (Nat.le_of_ble_eq_true rfl) dJx4a65c_grow_d5877_10
