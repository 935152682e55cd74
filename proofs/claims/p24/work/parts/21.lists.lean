def nC (σ : Mem) : Nat := ix (σ 2 0 2)
def nO (σ : Mem) : Nat := ix (σ 3 0 2)
theorem Xok.eC {g : gG} {σ : Mem} (h : Xok g σ) : nC σ = gcn g 6 := by
  have := h.n6
  unfold nC
  rw [h.z2, ix_nI (by omega)]
theorem Xok.eO {g : gG} {σ : Mem} (h : Xok g σ) : nO σ = gcn g 7 := by
  have := h.n7
  unfold nO
  rw [h.z3, ix_nI (by omega)]
def xOkC (σ : Mem) (n : Int32) : Bool := decide (¬ n < 0 ∧ n < nI (nC σ))
def xOkO (σ : Mem) (n : Int32) : Bool := decide (¬ n < 0 ∧ n < nI (nO σ))
theorem Xok.okC {g : gG} {σ : Mem} {n : Int32} (h : Xok g σ) (hn : xOkC σ n = true) : ix n < gcn g 6 ∧ n = nI (ix n) := by
  have h6 := h.n6
  have h1 := of_decide_eq_true hn
  rw [h.eC] at h1
  rcases pk_ix n (n := gcn g 6) (by omega) with z | z | ⟨j, hj, rfl⟩
  · exact absurd z h1.1
  · exact absurd h1.2 (Int32.not_lt.mpr z)
  · rw [ix_nI (by omega)]
    exact ⟨hj, rfl⟩
theorem Xok.okO {g : gG} {σ : Mem} {n : Int32} (h : Xok g σ) (hn : xOkO σ n = true) : ix n < gcn g 7 ∧ n = nI (ix n) := by
  have h6 := h.n7
  have h1 := of_decide_eq_true hn
  rw [h.eO] at h1
  rcases pk_ix n (n := gcn g 7) (by omega) with z | z | ⟨j, hj, rfl⟩
  · exact absurd z h1.1
  · exact absurd h1.2 (Int32.not_lt.mpr z)
  · rw [ix_nI (by omega)]
    exact ⟨hj, rfl⟩
set_option maxHeartbeats 4000000 in
set_option maxRecDepth 100000 in
theorem c_size2 (l : Launch) (g : gG) (σ : Mem) (w : Int64) (hX : Xok g σ) : Met l yJx4a65c_size_8abf5 wsJx4a65c_size_8abf5 ({ frames := 0, cells := 0, slots := 0, locals := 0 } : Room) (gPc g σ w [.ref (gad g 2 0)]) (gR (.int (nI (gcn g 6)))) 0 0 (fun _ => False) := by
  refine gx_ofW (cc := cJx4a65c_size_8abf5) (maxL := 1) (ret := (some .int)) (by decide) rfl (Nat.le_of_ble_eq_true rfl) ?_
  intro p e s m below meth c0 hx hb hr hml hts hown hlocks hin hG hZ hS ls hl
  have hown : s.vm.findClass RJx4a65c = some m.cls := hown
  have hl : lv_has ls 1 [(0, .ref (gad g 2 0))] := hl
  have k1 := hts (.fieldLink RJx4a65c 48 "java/util/ArrayList" "size" "I") (by decide +kernel)
  refine lv_aload_n hx hb dJx4a65c_size_8abf5_0 rfl (lv_at hl 0 rfl) ?_
  refine gx_get hx hb hown hZ hG 2 0 2 hX.k2 rfl (by decide) k1 (fun _ h => h) (v := .int (σ 2 0 2)) rfl dJx4a65c_size_8abf5_1 ?_
  exact gx_iretR hx hb hr hlocks hX.z2 (Nat.le_of_ble_eq_true rfl) (Nat.le_of_ble_eq_true rfl) dJx4a65c_size_8abf5_4
set_option maxHeartbeats 4000000 in
set_option maxRecDepth 100000 in
theorem c_elem2 (l : Launch) (g : gG) (σ : Mem) (w : Int64) (i : Nat) (hX : Xok g σ) (hi : i < gcn g 6) : Met l yJx4a65c_elementData_915e3 wsJx4a65c_elementData_915e3 ({ frames := 0, cells := 0, slots := 0, locals := 0 } : Room) (gPc g σ w [.ref (gad g 2 0), .int (nI i)]) (gR (.ref (gad g 6 i))) 0 0 (fun _ => False) := by
  refine gx_ofW (cc := cJx4a65c_elementData_915e3) (maxL := 2) (ret := (some (.object "java/lang/Object"))) (by decide) rfl (Nat.le_of_ble_eq_true rfl) ?_
  intro p e s m below meth c0 hx hb hr hml hts hown hlocks hin hG hZ hS ls hl
  have hown : s.vm.findClass RJx4a65c = some m.cls := hown
  have hl : lv_has ls 2 [(0, .ref (gad g 2 0)), (1, .int (nI i))] := hl
  have k1 := hts (.fieldLink RJx4a65c 9 "java/util/ArrayList" "elementData" "[Ljava/lang/Object;") (by decide +kernel)
  have hn := hX.n6
  refine lv_aload_n hx hb dJx4a65c_elementData_915e3_0 rfl (lv_at hl 0 rfl) ?_
  refine gx_get hx hb hown hZ hG 2 0 1 hX.k2 rfl (by decide) k1 (fun _ h => h) (v := .ref (gad g 4 0)) (gel_1 (hX.e2 hi).1) dJx4a65c_elementData_915e3_1 ?_
  refine lv_iload_n hx hb dJx4a65c_elementData_915e3_4 rfl (lv_at hl 1 rfl) ?_
  have h4 := hX.e2 hi
  refine gx_aald hx hb hZ hG 4 0 (by rw [(hX.e2 hi).2.1]; decide) rfl rfl (vp_in_nI (by omega) (by omega)) (v := .ref (gad g 6 i)) (by rw [ix_nI (by omega)]; exact grf_j (hX.q4 hi) (by omega)) dJx4a65c_elementData_915e3_5 ?_
  exact gx_aretR hx hb hr (Or.inl ⟨_, rfl⟩) hlocks (Or.inr ⟨_, rfl⟩) rfl (Nat.le_of_ble_eq_true rfl) (Nat.le_of_ble_eq_true rfl) dJx4a65c_elementData_915e3_6
set_option maxHeartbeats 4000000 in
set_option maxRecDepth 100000 in
theorem c_size3 (l : Launch) (g : gG) (σ : Mem) (w : Int64) (hX : Xok g σ) : Met l yJx4a65c_size_8abf5 wsJx4a65c_size_8abf5 ({ frames := 0, cells := 0, slots := 0, locals := 0 } : Room) (gPc g σ w [.ref (gad g 3 0)]) (gR (.int (nI (gcn g 7)))) 0 0 (fun _ => False) := by
  refine gx_ofW (cc := cJx4a65c_size_8abf5) (maxL := 1) (ret := (some .int)) (by decide) rfl (Nat.le_of_ble_eq_true rfl) ?_
  intro p e s m below meth c0 hx hb hr hml hts hown hlocks hin hG hZ hS ls hl
  have hown : s.vm.findClass RJx4a65c = some m.cls := hown
  have hl : lv_has ls 1 [(0, .ref (gad g 3 0))] := hl
  have k1 := hts (.fieldLink RJx4a65c 48 "java/util/ArrayList" "size" "I") (by decide +kernel)
  refine lv_aload_n hx hb dJx4a65c_size_8abf5_0 rfl (lv_at hl 0 rfl) ?_
  refine gx_get hx hb hown hZ hG 3 0 2 hX.k3 rfl (by decide) k1 (fun _ h => h) (v := .int (σ 3 0 2)) rfl dJx4a65c_size_8abf5_1 ?_
  exact gx_iretR hx hb hr hlocks hX.z3 (Nat.le_of_ble_eq_true rfl) (Nat.le_of_ble_eq_true rfl) dJx4a65c_size_8abf5_4
set_option maxHeartbeats 4000000 in
set_option maxRecDepth 100000 in
theorem c_elem3 (l : Launch) (g : gG) (σ : Mem) (w : Int64) (i : Nat) (hX : Xok g σ) (hi : i < gcn g 7) : Met l yJx4a65c_elementData_915e3 wsJx4a65c_elementData_915e3 ({ frames := 0, cells := 0, slots := 0, locals := 0 } : Room) (gPc g σ w [.ref (gad g 3 0), .int (nI i)]) (gR (.ref (gad g 7 i))) 0 0 (fun _ => False) := by
  refine gx_ofW (cc := cJx4a65c_elementData_915e3) (maxL := 2) (ret := (some (.object "java/lang/Object"))) (by decide) rfl (Nat.le_of_ble_eq_true rfl) ?_
  intro p e s m below meth c0 hx hb hr hml hts hown hlocks hin hG hZ hS ls hl
  have hown : s.vm.findClass RJx4a65c = some m.cls := hown
  have hl : lv_has ls 2 [(0, .ref (gad g 3 0)), (1, .int (nI i))] := hl
  have k1 := hts (.fieldLink RJx4a65c 9 "java/util/ArrayList" "elementData" "[Ljava/lang/Object;") (by decide +kernel)
  have hn := hX.n7
  refine lv_aload_n hx hb dJx4a65c_elementData_915e3_0 rfl (lv_at hl 0 rfl) ?_
  refine gx_get hx hb hown hZ hG 3 0 1 hX.k3 rfl (by decide) k1 (fun _ h => h) (v := .ref (gad g 5 0)) (gel_1 (hX.e3 hi).1) dJx4a65c_elementData_915e3_1 ?_
  refine lv_iload_n hx hb dJx4a65c_elementData_915e3_4 rfl (lv_at hl 1 rfl) ?_
  have h4 := hX.e3 hi
  refine gx_aald hx hb hZ hG 5 0 (by rw [(hX.e3 hi).2.1]; decide) rfl rfl (vp_in_nI (by omega) (by omega)) (v := .ref (gad g 7 i)) (by rw [ix_nI (by omega)]; exact grf_j (hX.q5 hi) (by omega)) dJx4a65c_elementData_915e3_5 ?_
  exact gx_aretR hx hb hr (Or.inl ⟨_, rfl⟩) hlocks (Or.inr ⟨_, rfl⟩) rfl (Nat.le_of_ble_eq_true rfl) (Nat.le_of_ble_eq_true rfl) dJx4a65c_elementData_915e3_6
set_option maxHeartbeats 4000000 in
set_option maxRecDepth 100000 in
theorem c_check3 (l : Launch) (g : gG) (σ : Mem) (w : Int64) (i n : Nat) (hi : i < n) (hn : n < 2 ^ 31) : Met l yJ3_checkIndex_8e157 wsJ3_checkIndex_8e157 ({ frames := 0, cells := 0, slots := 0, locals := 0 } : Room) (gPc g σ w [.int (nI i), .int (nI n), .null]) (gR (.int (nI i))) 0 0 (fun _ => False) := by
  refine gx_ofW (cc := cJ3_checkIndex_8e157) (maxL := 3) (ret := (some .int)) (by decide) rfl (Nat.le_of_ble_eq_true rfl) ?_
  intro p e s m below meth c0 hx hb hr hml hts hown hlocks hin hG hZ hS ls hl
  have hown : s.vm.findClass RJ3 = some m.cls := hown
  have hl : lv_has ls 3 [(0, .int (nI i)), (1, .int (nI n)), (2, .null)] := hl
  refine lv_iload_n hx hb dJ3_checkIndex_8e157_0 rfl (lv_at hl 0 rfl) ?_
  refine lv_if_lt (tgt := 9) hx hb dJ3_checkIndex_8e157_1 (by decide) (fun c_1 => ?_) (fun c_1 => ?_)
  · skip
    exact absurd c_1 (nI_pos (by omega))
  · skip
    refine lv_iload_n hx hb dJ3_checkIndex_8e157_4 rfl (lv_at hl 0 rfl) ?_
    refine lv_iload_n hx hb dJ3_checkIndex_8e157_5 rfl (lv_at hl 1 rfl) ?_
    refine lv_icmp_lt (tgt := 16) hx hb dJ3_checkIndex_8e157_6 (by decide) (fun c_2 => ?_) (fun c_2 => ?_)
    · skip
      refine lv_iload_n hx hb dJ3_checkIndex_8e157_16 rfl (lv_at hl 0 rfl) ?_
      exact gx_iretR hx hb hr hlocks rfl (Nat.le_of_ble_eq_true rfl) (Nat.le_of_ble_eq_true rfl) dJ3_checkIndex_8e157_17
    · skip
      exact absurd (nI_lt hi hn) c_2
set_option maxHeartbeats 4000000 in
set_option maxRecDepth 100000 in
theorem c_check2 (l : Launch) (g : gG) (σ : Mem) (w : Int64) (i n : Nat) (hi : i < n) (hn : n < 2 ^ 31) : Met l yJ15_checkIndex_7cf53 wsJ15_checkIndex_7cf53 ({ frames := 1, cells := 0, slots := 0, locals := 22 } : Room) (gPc g σ w [.int (nI i), .int (nI n)]) (gR (.int (nI i))) 0 0 (fun _ => False) := by
  refine gx_ofW (cc := cJ15_checkIndex_7cf53) (maxL := 2) (ret := (some .int)) (by decide) rfl (Nat.le_of_ble_eq_true rfl) ?_
  intro p e s m below meth c0 hx hb hr hml hts hown hlocks hin hG hZ hS ls hl
  have hown : s.vm.findClass RJ15 = some m.cls := hown
  have hl : lv_has ls 2 [(0, .int (nI i)), (1, .int (nI n))] := hl
  refine lv_iload_n hx hb dJ15_checkIndex_7cf53_0 rfl (lv_at hl 0 rfl) ?_
  refine lv_iload_n hx hb dJ15_checkIndex_7cf53_1 rfl (lv_at hl 1 rfl) ?_
  refine lv_null hx hb dJ15_checkIndex_7cf53_2 ?_
  refine gx_cR (gx_runS (As := [.int (nI i), .int (nI n), .null]) (rest := []) ⟨hx, hb, hml, hown, hts⟩ (c_check3 l g σ w i n hi hn) (va_cwS 3 hts gJ15_checkIndex_7cf53_J3_checkIndex_8e157 rfl rfl rfl (by decide +kernel) ⟨Nat.le_of_ble_eq_true rfl, Nat.le_of_ble_eq_true rfl⟩) hZ hG hS rfl hl.1 rfl (Nat.le_of_ble_eq_true rfl) dJ15_checkIndex_7cf53_3 ⟨Nat.le_of_ble_eq_true rfl, Nat.le_of_ble_eq_true rfl⟩) ?_
  exact gx_iretR hx hb hr hlocks rfl (Nat.le_of_ble_eq_true rfl) (Nat.le_of_ble_eq_true rfl) dJ15_checkIndex_7cf53_6
set_option maxHeartbeats 4000000 in
set_option maxRecDepth 100000 in
theorem c_get2 (l : Launch) (g : gG) (σ : Mem) (w : Int64) (i : Nat) (hX : Xok g σ) (hi : i < gcn g 6) : Met l yJx4a65c_get_915e3 wsJx4a65c_get_915e3 ({ frames := 2, cells := 0, slots := 0, locals := 43 } : Room) (gPc g σ w [.ref (gad g 2 0), .int (nI i)]) (gR (.ref (gad g 6 i))) 0 0 (fun _ => False) := by
  refine gx_ofW (cc := cJx4a65c_get_915e3) (maxL := 2) (ret := (some (.object "java/lang/Object"))) (by decide) rfl (Nat.le_of_ble_eq_true rfl) ?_
  intro p e s m below meth c0 hx hb hr hml hts hown hlocks hin hG hZ hS ls hl
  have hown : s.vm.findClass RJx4a65c = some m.cls := hown
  have hl : lv_has ls 2 [(0, .ref (gad g 2 0)), (1, .int (nI i))] := hl
  have k1 := hts (.fieldLink RJx4a65c 48 "java/util/ArrayList" "size" "I") (by decide +kernel)
  have hn := hX.n6
  refine lv_iload_n hx hb dJx4a65c_get_915e3_0 rfl (lv_at hl 1 rfl) ?_
  refine lv_aload_n hx hb dJx4a65c_get_915e3_1 rfl (lv_at hl 0 rfl) ?_
  refine gx_get hx hb hown hZ hG 2 0 2 hX.k2 rfl (by decide) k1 (fun _ h => h) (v := .int (nI (gcn g 6))) (congrArg Value.int hX.z2) dJx4a65c_get_915e3_2 ?_
  refine gx_cR (gx_runS (As := [.int (nI i), .int (nI (gcn g 6))]) (rest := []) ⟨hx, hb, hml, hown, hts⟩ (c_check2 l g σ w i (gcn g 6) hi (by omega)) (va_cwS 2 hts gJx4a65c_get_915e3_J15_checkIndex_7cf53 rfl rfl rfl (by decide +kernel) ⟨Nat.le_of_ble_eq_true rfl, Nat.le_of_ble_eq_true rfl⟩) hZ hG hS rfl hl.1 rfl (Nat.le_of_ble_eq_true rfl) dJx4a65c_get_915e3_5 ⟨Nat.le_of_ble_eq_true rfl, Nat.le_of_ble_eq_true rfl⟩) ?_
  refine lv_pop hx hb dJx4a65c_get_915e3_8 rfl ?_
  refine lv_aload_n hx hb dJx4a65c_get_915e3_9 rfl (lv_at hl 0 rfl) ?_
  refine lv_iload_n hx hb dJx4a65c_get_915e3_10 rfl (lv_at hl 1 rfl) ?_
  refine gx_cR (gx_runV (As := [.int (nI i)]) (rest := []) ⟨hx, hb, hml, hown, hts⟩ (c_elem2 l g σ w i hX hi) (cwV 1 hts gJx4a65c_get_915e3_Jx4a65c_elementData_915e3 rfl rfl rfl (by decide +kernel) ⟨Nat.le_of_ble_eq_true rfl, Nat.le_of_ble_eq_true rfl⟩) (gx_obj hZ hG 2 0 hX.k2 rfl) hZ hG hS rfl hl.1 rfl (Nat.le_of_ble_eq_true rfl) dJx4a65c_get_915e3_11 ⟨Nat.le_of_ble_eq_true rfl, Nat.le_of_ble_eq_true rfl⟩) ?_
  exact gx_aretR hx hb hr (Or.inl ⟨_, rfl⟩) hlocks (Or.inr ⟨_, rfl⟩) rfl (Nat.le_of_ble_eq_true rfl) (Nat.le_of_ble_eq_true rfl) dJx4a65c_get_915e3_14
set_option maxHeartbeats 4000000 in
set_option maxRecDepth 100000 in
theorem c_get3 (l : Launch) (g : gG) (σ : Mem) (w : Int64) (i : Nat) (hX : Xok g σ) (hi : i < gcn g 7) : Met l yJx4a65c_get_915e3 wsJx4a65c_get_915e3 ({ frames := 2, cells := 0, slots := 0, locals := 43 } : Room) (gPc g σ w [.ref (gad g 3 0), .int (nI i)]) (gR (.ref (gad g 7 i))) 0 0 (fun _ => False) := by
  refine gx_ofW (cc := cJx4a65c_get_915e3) (maxL := 2) (ret := (some (.object "java/lang/Object"))) (by decide) rfl (Nat.le_of_ble_eq_true rfl) ?_
  intro p e s m below meth c0 hx hb hr hml hts hown hlocks hin hG hZ hS ls hl
  have hown : s.vm.findClass RJx4a65c = some m.cls := hown
  have hl : lv_has ls 2 [(0, .ref (gad g 3 0)), (1, .int (nI i))] := hl
  have k1 := hts (.fieldLink RJx4a65c 48 "java/util/ArrayList" "size" "I") (by decide +kernel)
  have hn := hX.n7
  refine lv_iload_n hx hb dJx4a65c_get_915e3_0 rfl (lv_at hl 1 rfl) ?_
  refine lv_aload_n hx hb dJx4a65c_get_915e3_1 rfl (lv_at hl 0 rfl) ?_
  refine gx_get hx hb hown hZ hG 3 0 2 hX.k3 rfl (by decide) k1 (fun _ h => h) (v := .int (nI (gcn g 7))) (congrArg Value.int hX.z3) dJx4a65c_get_915e3_2 ?_
  refine gx_cR (gx_runS (As := [.int (nI i), .int (nI (gcn g 7))]) (rest := []) ⟨hx, hb, hml, hown, hts⟩ (c_check2 l g σ w i (gcn g 7) hi (by omega)) (va_cwS 2 hts gJx4a65c_get_915e3_J15_checkIndex_7cf53 rfl rfl rfl (by decide +kernel) ⟨Nat.le_of_ble_eq_true rfl, Nat.le_of_ble_eq_true rfl⟩) hZ hG hS rfl hl.1 rfl (Nat.le_of_ble_eq_true rfl) dJx4a65c_get_915e3_5 ⟨Nat.le_of_ble_eq_true rfl, Nat.le_of_ble_eq_true rfl⟩) ?_
  refine lv_pop hx hb dJx4a65c_get_915e3_8 rfl ?_
  refine lv_aload_n hx hb dJx4a65c_get_915e3_9 rfl (lv_at hl 0 rfl) ?_
  refine lv_iload_n hx hb dJx4a65c_get_915e3_10 rfl (lv_at hl 1 rfl) ?_
  refine gx_cR (gx_runV (As := [.int (nI i)]) (rest := []) ⟨hx, hb, hml, hown, hts⟩ (c_elem3 l g σ w i hX hi) (cwV 1 hts gJx4a65c_get_915e3_Jx4a65c_elementData_915e3 rfl rfl rfl (by decide +kernel) ⟨Nat.le_of_ble_eq_true rfl, Nat.le_of_ble_eq_true rfl⟩) (gx_obj hZ hG 3 0 hX.k3 rfl) hZ hG hS rfl hl.1 rfl (Nat.le_of_ble_eq_true rfl) dJx4a65c_get_915e3_11 ⟨Nat.le_of_ble_eq_true rfl, Nat.le_of_ble_eq_true rfl⟩) ?_
  exact gx_aretR hx hb hr (Or.inl ⟨_, rfl⟩) hlocks (Or.inr ⟨_, rfl⟩) rfl (Nat.le_of_ble_eq_true rfl) (Nat.le_of_ble_eq_true rfl) dJx4a65c_get_915e3_14
set_option maxHeartbeats 4000000 in
set_option maxRecDepth 100000 in
theorem c_X2_cabNumbered (l : Launch) (hl0 : l.stackTraces = false) (g : gG) (σ : Mem) (w : Int64) (n : Int32) (hX : Xok g σ) : vx_Met l yX2_cabNumbered wsX2_cabNumbered ({ frames := 6, cells := 1, slots := 6, locals := 92 } : Room) (gPc g σ w [.ref (gad g 0 0), .int (n)]) (gRx (.ref (gad g 6 (ix n))) (xOkC σ n = true)) (gX (fun E => E = "java/lang/IndexOutOfBoundsException" ∧ xOkC σ n = false)) 1 6 (fun _ => False) := by
  refine gx_xofW (cc := cX2_cabNumbered) (maxL := 2) (ret := (some (.object "TaxiRank$Cab"))) (by decide) rfl (Nat.le_of_ble_eq_true rfl) ?_
  intro p e s m below meth c0 hx hb hr hml hts hown hlocks hin hnt hG hZ hS ls hl
  have hown : s.vm.findClass RX2 = some m.cls := hown
  have hl : lv_has ls 2 [(0, .ref (gad g 0 0)), (1, .int (n))] := hl
  have k1 := hts (.fieldLink RX2 16 "TaxiRank" "cabs" "Ljava/util/ArrayList;") (by decide +kernel)
  have k2 := hts (.classLink RX2 68 "TaxiRank$Cab") (by decide +kernel)
  have hn6 := hX.n6
  have hn7 := hX.n7
  refine lv_iload_n hx hb dX2_cabNumbered_0 rfl (lv_at hl 1 rfl) ?_
  refine lv_if_lt (tgt := 15) hx hb dX2_cabNumbered_1 (by decide) (fun c_1 => ?_) (fun c_1 => ?_)
  · skip
    exact gx_throw (text := "no such cab") hx hb hl0 hown hlocks hZ hS (hl.1.trans hml.symm) hnt hts (by decide +kernel) (by decide +kernel) (by decide +kernel) (by decide +kernel) (by decide +kernel) (by first | exact fun _ h => List.mem_cons_of_mem _ (List.mem_append_right _ h) | exact fun _ h => List.mem_cons_of_mem _ (List.mem_append_left _ (List.mem_append_right _ h)) | decide +kernel) zb_io zo_io dX2_cabNumbered_15 dX2_cabNumbered_18 dX2_cabNumbered_19 dX2_cabNumbered_21 dX2_cabNumbered_24 (Nat.le_of_ble_eq_true rfl) (Nat.le_of_ble_eq_true rfl) (Nat.le_of_ble_eq_true rfl) (Nat.le_of_ble_eq_true rfl) (fun _ _ => rfl) (Nat.le_refl _) (⟨rfl, decide_eq_false (fun z => by first | exact z.1 c_1 | exact c_2 (by rw [← hX.eC]; exact z.2))⟩) (fun _ h => nomatch h) (Nat.le_of_ble_eq_true rfl) (Nat.le_of_ble_eq_true rfl)
  · skip
    refine lv_iload_n hx hb dX2_cabNumbered_4 rfl (lv_at hl 1 rfl) ?_
    refine lv_aload_n hx hb dX2_cabNumbered_5 rfl (lv_at hl 0 rfl) ?_
    refine gx_get hx hb hown hZ hG 0 0 1 hX.k0 rfl (by decide) k1 (fun _ h => h) (v := .ref (gad g 2 0)) (grf_z hX.r1) dX2_cabNumbered_6 ?_
    refine gx_cR (gx_runV (As := []) (rest := [.int (n)]) ⟨hx, hb, hml, hown, hts⟩ (c_size2 l g σ w hX) (cwV 0 hts gX2_cabNumbered_Jx4a65c_size_8abf5 rfl rfl rfl (by decide +kernel) ⟨Nat.le_of_ble_eq_true rfl, Nat.le_of_ble_eq_true rfl⟩) (gx_obj hZ hG 2 0 hX.k2 rfl) hZ hG hS rfl hl.1 rfl (Nat.le_of_ble_eq_true rfl) dX2_cabNumbered_9 ⟨Nat.le_of_ble_eq_true rfl, Nat.le_of_ble_eq_true rfl⟩) ?_
    refine lv_icmp_lt (tgt := 25) hx hb dX2_cabNumbered_12 (by decide) (fun c_2 => ?_) (fun c_2 => ?_)
    · skip
      obtain ⟨j, hj, rfl⟩ : ∃ j, j < gcn g 6 ∧ n = nI j := by
        rcases pk_ix n (n := gcn g 6) (by omega) with z | z | z
        · exact absurd z c_1
        · exact absurd c_2 (Int32.not_lt.mpr z)
        · exact z
      refine lv_aload_n hx hb dX2_cabNumbered_25 rfl (lv_at hl 0 rfl) ?_
      refine gx_get hx hb hown hZ hG 0 0 1 hX.k0 rfl (by decide) k1 (fun _ h => h) (v := .ref (gad g 2 0)) (grf_z hX.r1) dX2_cabNumbered_26 ?_
      refine lv_iload_n hx hb dX2_cabNumbered_29 rfl (lv_at hl 1 rfl) ?_
      refine gx_cR (gx_runV (As := [.int (nI j)]) (rest := []) ⟨hx, hb, hml, hown, hts⟩ (c_get2 l g σ w j hX hj) (cwV 1 hts gX2_cabNumbered_Jx4a65c_get_915e3 rfl rfl rfl (by decide +kernel) ⟨Nat.le_of_ble_eq_true rfl, Nat.le_of_ble_eq_true rfl⟩) (gx_obj hZ hG 2 0 hX.k2 rfl) hZ hG hS rfl hl.1 rfl (Nat.le_of_ble_eq_true rfl) dX2_cabNumbered_30 ⟨Nat.le_of_ble_eq_true rfl, Nat.le_of_ble_eq_true rfl⟩) ?_
      refine gx_cast hx hb hown hZ hG 6 j hj rfl k2 dX2_cabNumbered_33 ?_
      exact gx_aretRx hx hb hr (Or.inl ⟨_, rfl⟩) hlocks (Or.inr ⟨_, rfl⟩) (by rw [ix_nI (by omega)]) (decide_eq_true ⟨c_1, by rw [hX.eC]; exact c_2⟩) (Nat.le_of_ble_eq_true rfl) (Nat.le_of_ble_eq_true rfl) dX2_cabNumbered_36
    · skip
      exact gx_throw (text := "no such cab") hx hb hl0 hown hlocks hZ hS (hl.1.trans hml.symm) hnt hts (by decide +kernel) (by decide +kernel) (by decide +kernel) (by decide +kernel) (by decide +kernel) (by first | exact fun _ h => List.mem_cons_of_mem _ (List.mem_append_right _ h) | exact fun _ h => List.mem_cons_of_mem _ (List.mem_append_left _ (List.mem_append_right _ h)) | decide +kernel) zb_io zo_io dX2_cabNumbered_15 dX2_cabNumbered_18 dX2_cabNumbered_19 dX2_cabNumbered_21 dX2_cabNumbered_24 (Nat.le_of_ble_eq_true rfl) (Nat.le_of_ble_eq_true rfl) (Nat.le_of_ble_eq_true rfl) (Nat.le_of_ble_eq_true rfl) (fun _ _ => rfl) (Nat.le_refl _) (⟨rfl, decide_eq_false (fun z => by first | exact z.1 c_1 | exact c_2 (by rw [← hX.eC]; exact z.2))⟩) (fun _ h => nomatch h) (Nat.le_of_ble_eq_true rfl) (Nat.le_of_ble_eq_true rfl)
set_option maxHeartbeats 4000000 in
set_option maxRecDepth 100000 in
theorem c_X2_orderNumbered (l : Launch) (hl0 : l.stackTraces = false) (g : gG) (σ : Mem) (w : Int64) (n : Int32) (hX : Xok g σ) : vx_Met l yX2_orderNumbered wsX2_orderNumbered ({ frames := 6, cells := 1, slots := 6, locals := 92 } : Room) (gPc g σ w [.ref (gad g 0 0), .int (n)]) (gRx (.ref (gad g 7 (ix n))) (xOkO σ n = true)) (gX (fun E => E = "java/lang/IndexOutOfBoundsException" ∧ xOkO σ n = false)) 1 6 (fun _ => False) := by
  refine gx_xofW (cc := cX2_orderNumbered) (maxL := 2) (ret := (some (.object "TaxiRank$Order"))) (by decide) rfl (Nat.le_of_ble_eq_true rfl) ?_
  intro p e s m below meth c0 hx hb hr hml hts hown hlocks hin hnt hG hZ hS ls hl
  have hown : s.vm.findClass RX2 = some m.cls := hown
  have hl : lv_has ls 2 [(0, .ref (gad g 0 0)), (1, .int (n))] := hl
  have k1 := hts (.fieldLink RX2 20 "TaxiRank" "orders" "Ljava/util/ArrayList;") (by decide +kernel)
  have k2 := hts (.classLink RX2 127 "TaxiRank$Order") (by decide +kernel)
  have hn6 := hX.n6
  have hn7 := hX.n7
  refine lv_iload_n hx hb dX2_orderNumbered_0 rfl (lv_at hl 1 rfl) ?_
  refine lv_if_lt (tgt := 15) hx hb dX2_orderNumbered_1 (by decide) (fun c_1 => ?_) (fun c_1 => ?_)
  · skip
    exact gx_throw (text := "no such order") hx hb hl0 hown hlocks hZ hS (hl.1.trans hml.symm) hnt hts (by decide +kernel) (by decide +kernel) (by decide +kernel) (by decide +kernel) (by decide +kernel) (by first | exact fun _ h => List.mem_cons_of_mem _ (List.mem_append_right _ h) | exact fun _ h => List.mem_cons_of_mem _ (List.mem_append_left _ (List.mem_append_right _ h)) | decide +kernel) zb_io zo_io dX2_orderNumbered_15 dX2_orderNumbered_18 dX2_orderNumbered_19 dX2_orderNumbered_21 dX2_orderNumbered_24 (Nat.le_of_ble_eq_true rfl) (Nat.le_of_ble_eq_true rfl) (Nat.le_of_ble_eq_true rfl) (Nat.le_of_ble_eq_true rfl) (fun _ _ => rfl) (Nat.le_refl _) (⟨rfl, decide_eq_false (fun z => by first | exact z.1 c_1 | exact c_2 (by rw [← hX.eO]; exact z.2))⟩) (fun _ h => nomatch h) (Nat.le_of_ble_eq_true rfl) (Nat.le_of_ble_eq_true rfl)
  · skip
    refine lv_iload_n hx hb dX2_orderNumbered_4 rfl (lv_at hl 1 rfl) ?_
    refine lv_aload_n hx hb dX2_orderNumbered_5 rfl (lv_at hl 0 rfl) ?_
    refine gx_get hx hb hown hZ hG 0 0 2 hX.k0 rfl (by decide) k1 (fun _ h => h) (v := .ref (gad g 3 0)) (grf_z hX.r2) dX2_orderNumbered_6 ?_
    refine gx_cR (gx_runV (As := []) (rest := [.int (n)]) ⟨hx, hb, hml, hown, hts⟩ (c_size3 l g σ w hX) (cwV 0 hts gX2_orderNumbered_Jx4a65c_size_8abf5 rfl rfl rfl (by decide +kernel) ⟨Nat.le_of_ble_eq_true rfl, Nat.le_of_ble_eq_true rfl⟩) (gx_obj hZ hG 3 0 hX.k3 rfl) hZ hG hS rfl hl.1 rfl (Nat.le_of_ble_eq_true rfl) dX2_orderNumbered_9 ⟨Nat.le_of_ble_eq_true rfl, Nat.le_of_ble_eq_true rfl⟩) ?_
    refine lv_icmp_lt (tgt := 25) hx hb dX2_orderNumbered_12 (by decide) (fun c_2 => ?_) (fun c_2 => ?_)
    · skip
      obtain ⟨j, hj, rfl⟩ : ∃ j, j < gcn g 7 ∧ n = nI j := by
        rcases pk_ix n (n := gcn g 7) (by omega) with z | z | z
        · exact absurd z c_1
        · exact absurd c_2 (Int32.not_lt.mpr z)
        · exact z
      refine lv_aload_n hx hb dX2_orderNumbered_25 rfl (lv_at hl 0 rfl) ?_
      refine gx_get hx hb hown hZ hG 0 0 2 hX.k0 rfl (by decide) k1 (fun _ h => h) (v := .ref (gad g 3 0)) (grf_z hX.r2) dX2_orderNumbered_26 ?_
      refine lv_iload_n hx hb dX2_orderNumbered_29 rfl (lv_at hl 1 rfl) ?_
      refine gx_cR (gx_runV (As := [.int (nI j)]) (rest := []) ⟨hx, hb, hml, hown, hts⟩ (c_get3 l g σ w j hX hj) (cwV 1 hts gX2_orderNumbered_Jx4a65c_get_915e3 rfl rfl rfl (by decide +kernel) ⟨Nat.le_of_ble_eq_true rfl, Nat.le_of_ble_eq_true rfl⟩) (gx_obj hZ hG 3 0 hX.k3 rfl) hZ hG hS rfl hl.1 rfl (Nat.le_of_ble_eq_true rfl) dX2_orderNumbered_30 ⟨Nat.le_of_ble_eq_true rfl, Nat.le_of_ble_eq_true rfl⟩) ?_
      refine gx_cast hx hb hown hZ hG 7 j hj rfl k2 dX2_orderNumbered_33 ?_
      exact gx_aretRx hx hb hr (Or.inl ⟨_, rfl⟩) hlocks (Or.inr ⟨_, rfl⟩) (by rw [ix_nI (by omega)]) (decide_eq_true ⟨c_1, by rw [hX.eO]; exact c_2⟩) (Nat.le_of_ble_eq_true rfl) (Nat.le_of_ble_eq_true rfl) dX2_orderNumbered_36
    · skip
      exact gx_throw (text := "no such order") hx hb hl0 hown hlocks hZ hS (hl.1.trans hml.symm) hnt hts (by decide +kernel) (by decide +kernel) (by decide +kernel) (by decide +kernel) (by decide +kernel) (by first | exact fun _ h => List.mem_cons_of_mem _ (List.mem_append_right _ h) | exact fun _ h => List.mem_cons_of_mem _ (List.mem_append_left _ (List.mem_append_right _ h)) | decide +kernel) zb_io zo_io dX2_orderNumbered_15 dX2_orderNumbered_18 dX2_orderNumbered_19 dX2_orderNumbered_21 dX2_orderNumbered_24 (Nat.le_of_ble_eq_true rfl) (Nat.le_of_ble_eq_true rfl) (Nat.le_of_ble_eq_true rfl) (Nat.le_of_ble_eq_true rfl) (fun _ _ => rfl) (Nat.le_refl _) (⟨rfl, decide_eq_false (fun z => by first | exact z.1 c_1 | exact c_2 (by rw [← hX.eO]; exact z.2))⟩) (fun _ h => nomatch h) (Nat.le_of_ble_eq_true rfl) (Nat.le_of_ble_eq_true rfl)
