set_option maxHeartbeats 4000000 in
set_option maxRecDepth 100000 in
theorem c_abc2 (l : Launch) (g : gG) (σ : Mem) (w : Int64) (hl1 : 0 < gcn g 2) : Met l yJxa1e45_init_da8c8 wsJxa1e45_init_da8c8 ({ frames := 1, cells := 0, slots := 0, locals := 12 } : Room) (gPc g σ w [.ref (gad g 2 0)]) (gM g g σ w (none)) 0 0 (gA g) := by
  refine gx_ofW (cc := cJxa1e45_init_da8c8) (maxL := 1) (ret := none) (by decide) rfl (Nat.le_of_ble_eq_true rfl) ?_
  intro p e s m below meth c0 hx hb hr hml hts hown hlocks hin hG hZ hS ls hl
  have hown : s.vm.findClass RJxa1e45 = some m.cls := hown
  have hl : lv_has ls 1 [(0, .ref (gad g 2 0))] := hl
  have k1 := hts (.methodLink RJxa1e45 1 objectInit) (by decide +kernel)
  have k2 := hts (.instanceMethod objectInit) (by decide +kernel)
  have k3 := hts (.code objectInit ⟨#[0xb1]⟩ 1 none) (by decide +kernel)
  refine lv_aload_n hx hb dJxa1e45_init_da8c8_0 rfl (lv_at hl 0 rfl) ?_
  refine W.objInit hx hb hown k1 k2 k3 rfl (hl.1.trans hml.symm) rfl dJxa1e45_init_da8c8_1 (Nat.le_of_ble_eq_true rfl) (Nat.le_of_ble_eq_true rfl) ?_
  refine W.eq (g2 := F0 m 4 ls []) rfl ?_
  exact gx_vretM hx hb hr hlocks hG hS rfl (Nat.le_of_ble_eq_true rfl) (Nat.le_of_ble_eq_true rfl) dJxa1e45_init_da8c8_4
set_option maxHeartbeats 4000000 in
set_option maxRecDepth 100000 in
theorem c_abl2 (l : Launch) (g : gG) (σ : Mem) (w : Int64) (hl1 : 0 < gcn g 2) : Met l yJxc12de_init_da8c8 wsJxc12de_init_da8c8 ({ frames := 2, cells := 0, slots := 0, locals := 40 } : Room) (gPc g σ w [.ref (gad g 2 0)]) (gM g g (gst σ 2 0 0 0) w (none)) 0 0 (gA g) := by
  refine gx_ofW (cc := cJxc12de_init_da8c8) (maxL := 1) (ret := none) (by decide) rfl (Nat.le_of_ble_eq_true rfl) ?_
  intro p e s m below meth c0 hx hb hr hml hts hown hlocks hin hG hZ hS ls hl
  have hown : s.vm.findClass RJxc12de = some m.cls := hown
  have hl : lv_has ls 1 [(0, .ref (gad g 2 0))] := hl
  have k1 := hts (.initialized RJxa1e45) (by decide +kernel)
  have k2 := hts (.methodLink RJxc12de 1 yJxa1e45_init_da8c8) (by decide +kernel)
  have k3 := hts (.instanceMethod yJxa1e45_init_da8c8) (by decide +kernel)
  have k4 := hts (.fieldLink RJxc12de 7 "java/util/AbstractList" "modCount" "I") (by decide +kernel)
  refine lv_aload_n hx hb dJxc12de_init_da8c8_0 rfl (lv_at hl 0 rfl) ?_
  refine gx_cM (gx_runI (As := []) (rest := []) ⟨hx, hb, hml, hown, hts⟩ (c_abc2 l g σ w hl1) (cwI 0 hts gJxc12de_init_da8c8_Jxa1e45_init_da8c8 rfl rfl rfl k1 k2 k3 rfl (by decide +kernel) ⟨Nat.le_of_ble_eq_true rfl, Nat.le_of_ble_eq_true rfl⟩) hZ hG hS rfl hl.1 rfl (Nat.le_of_ble_eq_true rfl) dJxc12de_init_da8c8_1 ⟨Nat.le_of_ble_eq_true rfl, Nat.le_of_ble_eq_true rfl⟩) hS (fun H locs hG hS hsz => ?_)
  refine lv_aload_n hx hb dJxc12de_init_da8c8_4 rfl (lv_at hl 0 rfl) ?_
  refine lv_iconst (v := 0) hx hb dJxc12de_init_da8c8_5 (by decide) ?_
  refine gx_put hx hb hown hZ hG hS 2 0 0 (0) hl1 rfl (by decide) k4 (fun _ h => h) rfl rfl trivial rfl rfl dJxc12de_init_da8c8_6 (fun H locs hG hS => ?_)
  exact gx_vretM hx hb hr hlocks hG hS rfl (Nat.le_of_ble_eq_true rfl) (Nat.le_of_ble_eq_true rfl) dJxc12de_init_da8c8_9
set_option maxHeartbeats 4000000 in
set_option maxRecDepth 100000 in
theorem c_ali2 (l : Launch) (g : gG) (σ : Mem) (w : Int64) (hl1 : 0 < gcn g 2) : Met l yJx4a65c_init_da8c8 wsJx4a65c_init_da8c8 ({ frames := 3, cells := 0, slots := 0, locals := 70 } : Room) (gPc g σ w [.ref (gad g 2 0)]) (gM g g (gst (gst σ 2 0 0 0) 2 0 1 0) w (none)) 0 0 (gA g) := by
  refine gx_ofW (cc := cJx4a65c_init_da8c8) (maxL := 1) (ret := none) (by decide) rfl (Nat.le_of_ble_eq_true rfl) ?_
  intro p e s m below meth c0 hx hb hr hml hts hown hlocks hin hG hZ hS ls hl
  have hown : s.vm.findClass RJx4a65c = some m.cls := hown
  have hl : lv_has ls 1 [(0, .ref (gad g 2 0))] := hl
  have k1 := hts (.initialized RJxc12de) (by decide +kernel)
  have k2 := hts (.methodLink RJx4a65c 1 yJxc12de_init_da8c8) (by decide +kernel)
  have k3 := hts (.instanceMethod yJxc12de_init_da8c8) (by decide +kernel)
  have k4 := hts (.fieldLink RJx4a65c 39 "java/util/ArrayList" "DEFAULTCAPACITY_EMPTY_ELEMENTDATA" "[Ljava/lang/Object;") (by decide +kernel)
  have k5 := hts (.fieldLink RJx4a65c 9 "java/util/ArrayList" "elementData" "[Ljava/lang/Object;") (by decide +kernel)
  refine lv_aload_n hx hb dJx4a65c_init_da8c8_0 rfl (lv_at hl 0 rfl) ?_
  refine gx_cM (gx_runI (As := []) (rest := []) ⟨hx, hb, hml, hown, hts⟩ (c_abl2 l g σ w hl1) (cwI 0 hts gJx4a65c_init_da8c8_Jxc12de_init_da8c8 rfl rfl rfl k1 k2 k3 rfl (by decide +kernel) ⟨Nat.le_of_ble_eq_true rfl, Nat.le_of_ble_eq_true rfl⟩) hZ hG hS rfl hl.1 rfl (Nat.le_of_ble_eq_true rfl) dJx4a65c_init_da8c8_1 ⟨Nat.le_of_ble_eq_true rfl, Nat.le_of_ble_eq_true rfl⟩) hS (fun H locs hG hS hsz => ?_)
  refine lv_aload_n hx hb dJx4a65c_init_da8c8_4 rfl (lv_at hl 0 rfl) ?_
  refine va_gets hx hb hZ.2.2.2.2.2.2.2.1 hS hown k4 (fun _ h => h) dJx4a65c_init_da8c8_5 ?_
  refine gx_put hx hb hown hZ hG hS 2 0 1 (0) hl1 rfl (by decide) k5 (fun _ h => h) rfl (gel_0 (a := gad g 4 0) rfl) (Or.inr (Or.inl rfl)) rfl rfl dJx4a65c_init_da8c8_8 (fun H locs hG hS => ?_)
  exact gx_vretM hx hb hr hlocks hG hS rfl (Nat.le_of_ble_eq_true rfl) (Nat.le_of_ble_eq_true rfl) dJx4a65c_init_da8c8_11
set_option maxHeartbeats 4000000 in
set_option maxRecDepth 100000 in
theorem c_abc3 (l : Launch) (g : gG) (σ : Mem) (w : Int64) (hl1 : 0 < gcn g 3) : Met l yJxa1e45_init_da8c8 wsJxa1e45_init_da8c8 ({ frames := 1, cells := 0, slots := 0, locals := 12 } : Room) (gPc g σ w [.ref (gad g 3 0)]) (gM g g σ w (none)) 0 0 (gA g) := by
  refine gx_ofW (cc := cJxa1e45_init_da8c8) (maxL := 1) (ret := none) (by decide) rfl (Nat.le_of_ble_eq_true rfl) ?_
  intro p e s m below meth c0 hx hb hr hml hts hown hlocks hin hG hZ hS ls hl
  have hown : s.vm.findClass RJxa1e45 = some m.cls := hown
  have hl : lv_has ls 1 [(0, .ref (gad g 3 0))] := hl
  have k1 := hts (.methodLink RJxa1e45 1 objectInit) (by decide +kernel)
  have k2 := hts (.instanceMethod objectInit) (by decide +kernel)
  have k3 := hts (.code objectInit ⟨#[0xb1]⟩ 1 none) (by decide +kernel)
  refine lv_aload_n hx hb dJxa1e45_init_da8c8_0 rfl (lv_at hl 0 rfl) ?_
  refine W.objInit hx hb hown k1 k2 k3 rfl (hl.1.trans hml.symm) rfl dJxa1e45_init_da8c8_1 (Nat.le_of_ble_eq_true rfl) (Nat.le_of_ble_eq_true rfl) ?_
  refine W.eq (g2 := F0 m 4 ls []) rfl ?_
  exact gx_vretM hx hb hr hlocks hG hS rfl (Nat.le_of_ble_eq_true rfl) (Nat.le_of_ble_eq_true rfl) dJxa1e45_init_da8c8_4
set_option maxHeartbeats 4000000 in
set_option maxRecDepth 100000 in
theorem c_abl3 (l : Launch) (g : gG) (σ : Mem) (w : Int64) (hl1 : 0 < gcn g 3) : Met l yJxc12de_init_da8c8 wsJxc12de_init_da8c8 ({ frames := 2, cells := 0, slots := 0, locals := 40 } : Room) (gPc g σ w [.ref (gad g 3 0)]) (gM g g (gst σ 3 0 0 0) w (none)) 0 0 (gA g) := by
  refine gx_ofW (cc := cJxc12de_init_da8c8) (maxL := 1) (ret := none) (by decide) rfl (Nat.le_of_ble_eq_true rfl) ?_
  intro p e s m below meth c0 hx hb hr hml hts hown hlocks hin hG hZ hS ls hl
  have hown : s.vm.findClass RJxc12de = some m.cls := hown
  have hl : lv_has ls 1 [(0, .ref (gad g 3 0))] := hl
  have k1 := hts (.initialized RJxa1e45) (by decide +kernel)
  have k2 := hts (.methodLink RJxc12de 1 yJxa1e45_init_da8c8) (by decide +kernel)
  have k3 := hts (.instanceMethod yJxa1e45_init_da8c8) (by decide +kernel)
  have k4 := hts (.fieldLink RJxc12de 7 "java/util/AbstractList" "modCount" "I") (by decide +kernel)
  refine lv_aload_n hx hb dJxc12de_init_da8c8_0 rfl (lv_at hl 0 rfl) ?_
  refine gx_cM (gx_runI (As := []) (rest := []) ⟨hx, hb, hml, hown, hts⟩ (c_abc3 l g σ w hl1) (cwI 0 hts gJxc12de_init_da8c8_Jxa1e45_init_da8c8 rfl rfl rfl k1 k2 k3 rfl (by decide +kernel) ⟨Nat.le_of_ble_eq_true rfl, Nat.le_of_ble_eq_true rfl⟩) hZ hG hS rfl hl.1 rfl (Nat.le_of_ble_eq_true rfl) dJxc12de_init_da8c8_1 ⟨Nat.le_of_ble_eq_true rfl, Nat.le_of_ble_eq_true rfl⟩) hS (fun H locs hG hS hsz => ?_)
  refine lv_aload_n hx hb dJxc12de_init_da8c8_4 rfl (lv_at hl 0 rfl) ?_
  refine lv_iconst (v := 0) hx hb dJxc12de_init_da8c8_5 (by decide) ?_
  refine gx_put hx hb hown hZ hG hS 3 0 0 (0) hl1 rfl (by decide) k4 (fun _ h => h) rfl rfl trivial rfl rfl dJxc12de_init_da8c8_6 (fun H locs hG hS => ?_)
  exact gx_vretM hx hb hr hlocks hG hS rfl (Nat.le_of_ble_eq_true rfl) (Nat.le_of_ble_eq_true rfl) dJxc12de_init_da8c8_9
set_option maxHeartbeats 4000000 in
set_option maxRecDepth 100000 in
theorem c_ali3 (l : Launch) (g : gG) (σ : Mem) (w : Int64) (hl1 : 0 < gcn g 3) : Met l yJx4a65c_init_da8c8 wsJx4a65c_init_da8c8 ({ frames := 3, cells := 0, slots := 0, locals := 70 } : Room) (gPc g σ w [.ref (gad g 3 0)]) (gM g g (gst (gst σ 3 0 0 0) 3 0 1 0) w (none)) 0 0 (gA g) := by
  refine gx_ofW (cc := cJx4a65c_init_da8c8) (maxL := 1) (ret := none) (by decide) rfl (Nat.le_of_ble_eq_true rfl) ?_
  intro p e s m below meth c0 hx hb hr hml hts hown hlocks hin hG hZ hS ls hl
  have hown : s.vm.findClass RJx4a65c = some m.cls := hown
  have hl : lv_has ls 1 [(0, .ref (gad g 3 0))] := hl
  have k1 := hts (.initialized RJxc12de) (by decide +kernel)
  have k2 := hts (.methodLink RJx4a65c 1 yJxc12de_init_da8c8) (by decide +kernel)
  have k3 := hts (.instanceMethod yJxc12de_init_da8c8) (by decide +kernel)
  have k4 := hts (.fieldLink RJx4a65c 39 "java/util/ArrayList" "DEFAULTCAPACITY_EMPTY_ELEMENTDATA" "[Ljava/lang/Object;") (by decide +kernel)
  have k5 := hts (.fieldLink RJx4a65c 9 "java/util/ArrayList" "elementData" "[Ljava/lang/Object;") (by decide +kernel)
  refine lv_aload_n hx hb dJx4a65c_init_da8c8_0 rfl (lv_at hl 0 rfl) ?_
  refine gx_cM (gx_runI (As := []) (rest := []) ⟨hx, hb, hml, hown, hts⟩ (c_abl3 l g σ w hl1) (cwI 0 hts gJx4a65c_init_da8c8_Jxc12de_init_da8c8 rfl rfl rfl k1 k2 k3 rfl (by decide +kernel) ⟨Nat.le_of_ble_eq_true rfl, Nat.le_of_ble_eq_true rfl⟩) hZ hG hS rfl hl.1 rfl (Nat.le_of_ble_eq_true rfl) dJx4a65c_init_da8c8_1 ⟨Nat.le_of_ble_eq_true rfl, Nat.le_of_ble_eq_true rfl⟩) hS (fun H locs hG hS hsz => ?_)
  refine lv_aload_n hx hb dJx4a65c_init_da8c8_4 rfl (lv_at hl 0 rfl) ?_
  refine va_gets hx hb hZ.2.2.2.2.2.2.2.1 hS hown k4 (fun _ h => h) dJx4a65c_init_da8c8_5 ?_
  refine gx_put hx hb hown hZ hG hS 3 0 1 (0) hl1 rfl (by decide) k5 (fun _ h => h) rfl (gel_0 (a := gad g 5 0) rfl) (Or.inr (Or.inl rfl)) rfl rfl dJx4a65c_init_da8c8_8 (fun H locs hG hS => ?_)
  exact gx_vretM hx hb hr hlocks hG hS rfl (Nat.le_of_ble_eq_true rfl) (Nat.le_of_ble_eq_true rfl) dJx4a65c_init_da8c8_11
theorem gFre_app (σ : Mem) (k i k' i' f' : Nat) : gFre σ k i k' i' f' = if k' = k ∧ i' = i then gDef k f' else σ k' i' f' := rfl
def xWv (k : Nat) : Int32 := if nI k / 6 = nI k - nI k / 6 * 6 then 5 else 10
/-- a row filled from k on -/
def xFil (K I : Nat) (v : Nat → Int32) : Nat → Nat → Mem → Mem
  | 0, _, σ => σ
  | r + 1, k, σ => xFil K I v r (k + 1) (gst σ K I k (v k))
theorem xFil_o {K I : Nat} {v : Nat → Int32} {k' i' f' : Nat} : ∀ (r k : Nat) (σ : Mem), (k' ≠ K ∨ i' ≠ I) → xFil K I v r k σ k' i' f' = σ k' i' f'
  | 0, _, _, _ => rfl
  | r + 1, k, σ, h => by
    rw [xFil, xFil_o r (k + 1) _ h]
    rcases h with h | h
    · exact gst_nk h
    · exact gst_ni h
theorem xFil_b {K I : Nat} {v : Nat → Int32} {j : Nat} : ∀ (r k : Nat) (σ : Mem), j < k → xFil K I v r k σ K I j = σ K I j
  | 0, _, _, _ => rfl
  | r + 1, k, σ, h => by
    rw [xFil, xFil_b r (k + 1) _ (by omega)]
    exact gst_nf (by omega)
theorem xFil_v {K I : Nat} {v : Nat → Int32} {j : Nat} : ∀ (r k : Nat) (σ : Mem), k ≤ j → j < k + r → xFil K I v r k σ K I j = v j
  | 0, _, _, _, h => absurd h (by omega)
  | r + 1, k, σ, h1, h2 => by
    rw [xFil]
    by_cases c : j = k
    · subst c
      rw [xFil_b r (j + 1) _ (by omega), gst_eq]
    · exact xFil_v r (k + 1) _ (by omega) (by omega)
/-- a new rank's world -/
def gIni (g g' : gG) : Prop := (g'.1 = g.1 ∧ g'.2.1 = g.2.1 ∧ g'.2.2.1 = g.2.2.1) ∧ (∀ k, k ≠ 1 → k ≠ 2 → k ≠ 3 → gad g' k = gad g k ∧ gcn g' k = gcn g k ∧ gln g' k = gln g k)
theorem gIni.of {g g1 g2 g3 : gG} {q1 q2 q3 n : Nat} (h1 : g1 = gAdd g 1 q1 n) (h2 : g2 = gAdd g1 2 q2 0) (h3 : g3 = gAdd g2 3 q3 0) : gIni g g3 := by
  subst h1 h2 h3
  refine ⟨⟨rfl, rfl, rfl⟩, fun k a b c => ⟨?_, ?_, ?_⟩⟩
  · funext i; rw [gAdd_ad, if_neg (fun z => c z.1), gAdd_ad, if_neg (fun z => b z.1), gAdd_ad, if_neg (fun z => a z.1)]
  · rw [gAdd_cn, if_neg c, gAdd_cn, if_neg b, gAdd_cn, if_neg a]
  · funext i; rw [gAdd_ln, if_neg (fun z => c z.1), gAdd_ln, if_neg (fun z => b z.1), gAdd_ln, if_neg (fun z => a z.1)]
theorem ini_end {g : gG} {σ σ1 : Mem} (hc0 : gcn g 0 = 1) (hc1 : gcn g 1 = 1) (hc2 : gcn g 2 = 1) (hc3 : gcn g 3 = 1) (hc4 : gcn g 4 = 0) (hc5 : gcn g 5 = 0) (hc6 : gcn g 6 = 0) (hc7 : gcn g 7 = 0) (hln : gln g 1 0 = 36) (hσ : σ1 = xFil 1 0 xWv 36 0 (gst (gFre σ 1 0) 0 0 0 (nI 0))) (hz3 : σ 0 0 3 = 0) (hz6 : σ 0 0 6 = 0) :
    Xok g (gst (gst (gst (gst (gst (gFre (gst (gst (gst (gFre σ1 2 0) 2 0 0 0) 2 0 1 0) 0 0 1 (nI 0)) 3 0) 3 0 0 0) 3 0 1 0) 0 0 2 (nI 0)) 0 0 4 4) 0 0 5 2) ∧
    (∀ j, j < 36 → (gst (gst (gst (gst (gst (gFre (gst (gst (gst (gFre σ1 2 0) 2 0 0 0) 2 0 1 0) 0 0 1 (nI 0)) 3 0) 3 0 0 0) 3 0 1 0) 0 0 2 (nI 0)) 0 0 4 4) 0 0 5 2) 1 0 j = xWv j) ∧
    ((gst (gst (gst (gst (gst (gFre (gst (gst (gst (gFre σ1 2 0) 2 0 0 0) 2 0 1 0) 0 0 1 (nI 0)) 3 0) 3 0 0 0) 3 0 1 0) 0 0 2 (nI 0)) 0 0 4 4) 0 0 5 2) 0 0 3 = 0 ∧ (gst (gst (gst (gst (gst (gFre (gst (gst (gst (gFre σ1 2 0) 2 0 0 0) 2 0 1 0) 0 0 1 (nI 0)) 3 0) 3 0 0 0) 3 0 1 0) 0 0 2 (nI 0)) 0 0 4 4) 0 0 5 2) 0 0 4 = 4 ∧
     (gst (gst (gst (gst (gst (gFre (gst (gst (gst (gFre σ1 2 0) 2 0 0 0) 2 0 1 0) 0 0 1 (nI 0)) 3 0) 3 0 0 0) 3 0 1 0) 0 0 2 (nI 0)) 0 0 4 4) 0 0 5 2) 0 0 5 = 2 ∧ (gst (gst (gst (gst (gst (gFre (gst (gst (gst (gFre σ1 2 0) 2 0 0 0) 2 0 1 0) 0 0 1 (nI 0)) 3 0) 3 0 0 0) 3 0 1 0) 0 0 2 (nI 0)) 0 0 4 4) 0 0 5 2) 0 0 6 = 0) := by
  have e0 : ∀ f, σ1 0 0 f = gst (gFre σ 1 0) 0 0 0 (nI 0) 0 0 f := fun f => by rw [hσ]; exact xFil_o 36 0 _ (Or.inl (by decide))
  have e1 : ∀ j, j < 36 → σ1 1 0 j = xWv j := fun j hj => by rw [hσ]; exact xFil_v 36 0 _ (Nat.zero_le j) (by omega)
  refine ⟨⟨⟨⟨hc0, hc1, hc2, hc3⟩, hln, by omega, by omega⟩, ⟨?_, ?_, ?_⟩, ⟨?_, ?_⟩, Or.inl ⟨hc6, ?_, hc4⟩, Or.inl ⟨hc7, ?_, hc5⟩, fun j hj => absurd hj (by omega), fun j hj => absurd hj (by omega), fun j hj => absurd hj (by omega), fun j hj => absurd hj (by omega)⟩, fun j hj => ?_, ?_, ?_, ?_, ?_⟩
  · simp [gst_app, gFre_app, e0, nI_0]
  · simp [gst_app, gFre_app, nI_0]
  · simp [gst_app, nI_0]
  · simp [gst_app, gFre_app, hc6, nI_0, gDef, gtg]
  · simp [gst_app, gFre_app, hc7, nI_0, gDef, gtg]
  · simp [gst_app, gFre_app]
  · simp [gst_app, gFre_app]
  · simp [gst_app, gFre_app, e1 j hj]
  · simp [gst_app, gFre_app, e0, hz3]
  · simp [gst_app]
  · simp [gst_app]
  · simp [gst_app, gFre_app, e0, hz6]
set_option maxHeartbeats 4000000 in
set_option maxRecDepth 100000 in
theorem c_X2_init (l : Launch) (gw : gG) (σ : Mem) (w : Int64) (hc0 : gcn gw 0 = 1) (hc1 : gcn gw 1 = 0) (hc2 : gcn gw 2 = 0) (hc3 : gcn gw 3 = 0) (hc4 : gcn gw 4 = 0) (hc5 : gcn gw 5 = 0) (hc6 : gcn gw 6 = 0) (hc7 : gcn gw 7 = 0) (hz3 : σ 0 0 3 = 0) (hz6 : σ 0 0 6 = 0) : Met l yX2_init wsX2_init ({ frames := 4, cells := 3, slots := 42, locals := 90 } : Room) (gPc gw σ w [.ref (gad gw 0 0)]) (gE gw (fun v H => v = none ∧ ∃ (g2 : gG) (σ2 : Mem), gIni gw g2 ∧ Xok g2 σ2 ∧ (∀ j, j < 36 → σ2 1 0 j = xWv j) ∧ (σ2 0 0 3 = 0 ∧ σ2 0 0 4 = 4 ∧ σ2 0 0 5 = 2 ∧ σ2 0 0 6 = 0) ∧ GW g2 σ2 w H)) 3 42 (gA gw) := by
  refine gx_ofW (cc := cX2_init) (maxL := 2) (ret := none) (by decide) rfl (Nat.le_of_ble_eq_true rfl) ?_
  intro p e s m below meth c0 hx hb hr hml hts hown hlocks hin hG hZ hS ls hl
  have hown : s.vm.findClass RX2 = some m.cls := hown
  have hl : lv_has ls 2 [(0, .ref (gad gw 0 0))] := hl
  have k1 := hts (.methodLink RX2 1 objectInit) (by decide +kernel)
  have k2 := hts (.instanceMethod objectInit) (by decide +kernel)
  have k3 := hts (.code objectInit ⟨#[0xb1]⟩ 1 none) (by decide +kernel)
  have k4 := hts (.arrayClass .int) (by decide +kernel)
  have k5 := hts (.fieldLink RX2 9 "TaxiRank" "ways" "[I") (by decide +kernel)
  have k6 := hts (.classLink RX2 13 RJx4a65c) (by decide +kernel)
  have k7 := hts (.instantiable RJx4a65c 3) (by decide +kernel)
  have k8 := hts (.initialized RJx4a65c) (by decide +kernel)
  have k9 := hts (.methodLink RX2 15 yJx4a65c_init_da8c8) (by decide +kernel)
  have k10 := hts (.instanceMethod yJx4a65c_init_da8c8) (by decide +kernel)
  have k11 := hts (.fieldLink RX2 16 "TaxiRank" "cabs" "Ljava/util/ArrayList;") (by decide +kernel)
  have k12 := hts (.fieldLink RX2 20 "TaxiRank" "orders" "Ljava/util/ArrayList;") (by decide +kernel)
  have k13 := hts (.fieldLink RX2 23 "TaxiRank" "baseRate" "I") (by decide +kernel)
  have k14 := hts (.fieldLink RX2 27 "TaxiRank" "wayRate" "I") (by decide +kernel)
  obtain ⟨g, hgw⟩ : ∃ z : gG, z = gw := ⟨_, rfl⟩
  rw [← hgw] at hG hZ hS hl hc0 hc1 hc2 hc3 hc4 hc5 hc6 hc7
  refine lv_aload_n hx hb dX2_init_0 rfl (lv_at hl 0 rfl) ?_
  refine W.objInit hx hb hown k1 k2 k3 rfl (hl.1.trans hml.symm) rfl dX2_init_1 (Nat.le_of_ble_eq_true rfl) (Nat.le_of_ble_eq_true rfl) ?_
  refine W.eq (g2 := F0 m 4 ls []) rfl ?_
  refine lv_aload_n hx hb dX2_init_4 rfl (lv_at hl 0 rfl) ?_
  refine lv_bipush (v := 36) hx hb dX2_init_5 (by decide) ?_
  refine gx_newI hx hb k4 hZ hG hS 1 36 (by decide) (by rw [hc1]; decide) rfl (by decide) (Nat.le_of_ble_eq_true rfl) (Nat.le_of_ble_eq_true rfl) dX2_init_7 (fun q H hG hS1 hsz => ?_)
  rw [hc1] at hG
  have hold0 := hc1
  have hAA0 := gx_stA (g := g) (g' := gAdd g 1 q 36) rfl
  obtain ⟨g, hg0⟩ : ∃ z : gG, z = gAdd g 1 q 36 := ⟨_, rfl⟩
  rw [← hg0] at hG hAA0
  have hZ : ZZ g s := by rw [hg0]; exact gx_stZ rfl rfl rfl hZ
  rw [← hAA0] at hS1
  have hS := hS1
  have hc0 : gcn g 0 = 1 := by rw [hg0, gAdd_cn, if_neg (by decide)]; exact hc0
  have hc1 : gcn g 1 = 1 := by rw [hg0, gAdd_cn, if_pos rfl, hc1]
  have hc2 : gcn g 2 = 0 := by rw [hg0, gAdd_cn, if_neg (by decide)]; exact hc2
  have hc3 : gcn g 3 = 0 := by rw [hg0, gAdd_cn, if_neg (by decide)]; exact hc3
  have hc4 : gcn g 4 = 0 := by rw [hg0, gAdd_cn, if_neg (by decide)]; exact hc4
  have hc5 : gcn g 5 = 0 := by rw [hg0, gAdd_cn, if_neg (by decide)]; exact hc5
  have hc6 : gcn g 6 = 0 := by rw [hg0, gAdd_cn, if_neg (by decide)]; exact hc6
  have hc7 : gcn g 7 = 0 := by rw [hg0, gAdd_cn, if_neg (by decide)]; exact hc7
  have hln1_0 : gln g 1 0 = 36 := by rw [hg0, gAdd_ln, if_pos ⟨rfl, hold0.symm⟩]
  have hq : gad g 1 0 = q := by rw [hg0, gAdd_ad, if_pos ⟨rfl, hold0.symm⟩]
  have hl : lv_has ls 2 [(0, .ref (gad g 0 0))] := by subst hg0; exact hl
  refine gx_topV (congrArg Value.ref hq.symm) ?_
  refine gx_topV2 (v := (Value.ref (gad g 0 0))) (by subst hg0; rfl) ?_
  refine gx_putF hx hb hown hZ hG hS 0 0 0 (nI 0) (by rw [hc0]; decide) rfl (by decide) k5 (fun _ h => h) rfl hin rfl (grf_nI (a := gad g 1) (j := 0) (by decide)) (Or.inr ⟨_, (by rw [hc1]; decide), rfl⟩) rfl rfl dX2_init_9 (fun H locs hG hS => ?_)
  refine lv_iconst (v := 0) hx hb dX2_init_12 (by decide) ?_
  refine lv_istore_n (lv' := [(1, .int (0)), (0, .ref (gad g 0 0))]) hx hb dX2_init_13 rfl hl (by decide) rfl (fun ls hl => ?_)
  have loop_14 : ∀ (nf : Nat) (r : Nat) (k : Nat) (σ1 : Mem), r < nf → (k + r = 36) → (σ1 0 0 0 = nI 0) → (xFil 1 0 xWv r k σ1 = xFil 1 0 xWv 36 0 (gst (gFre σ 1 0) 0 0 0 (nI 0))) → ∀ (H : Heap) (locs : List Loc), GW g σ1 w H → va_S (gA g) s.heap H locs → ∀ ls : Array Slot, lv_has ls 2 [(0, .ref (gad g 0 0)), (1, .int (nI k))] → W p l e ({ frames := 4, cells := 3, slots := 42, locals := 90 } : Room) s m ([.ref (gad gw 0 0)] : List Value).toArray below meth c0 H locs 1 36 (MQ below (gE gw (fun v H => v = none ∧ ∃ (g2 : gG) (σ2 : Mem), gIni gw g2 ∧ Xok g2 σ2 ∧ (∀ j, j < 36 → σ2 1 0 j = xWv j) ∧ (σ2 0 0 3 = 0 ∧ σ2 0 0 4 = 4 ∧ σ2 0 0 5 = 2 ∧ σ2 0 0 6 = 0) ∧ GW g2 σ2 w H)) ([.ref (gad gw 0 0)] : List Value).toArray s 3 42 (gA gw)) (F0 m 14 ls []) := by
    intro nf
    induction nf with
    | zero => intro r k σ1 hn; exact absurd hn (Nat.not_lt_zero _)
    | succ nf ih =>
      intro r k σ1 hn hk hr0 hres H locs hG hS ls hl
      refine lv_iload_n hx hb dX2_init_14 rfl (lv_at hl 1 rfl) ?_
      refine lv_aload_n hx hb dX2_init_15 rfl (lv_at hl 0 rfl) ?_
      refine gx_get hx hb hown hZ hG 0 0 0 (by rw [hc0]; decide) rfl (by decide) k5 (fun _ h => h) (v := .ref (gad g 1 0)) (grf_j (by first | assumption | simp [gst_app, gFre_app]) (by decide)) dX2_init_16 ?_
      refine gx_len hx hb hZ hG 1 0 (by rw [hc1]; decide) rfl (gx_KI hZ).1 (v := 36) (by rw [hln1_0]; rfl) dX2_init_19 ?_
      refine lv_icmp_ge (tgt := 52) hx hb dX2_init_20 (by decide) (fun c_1 => ?_) (fun c_1 => ?_)
      · skip
        have hge := le_of_nIle (n := 36) c_1 (by omega) (by omega)
        obtain rfl : r = 0 := by omega
        have hσ1 : σ1 = xFil 1 0 xWv 36 0 (gst (gFre σ 1 0) 0 0 0 (nI 0)) := hres
        refine lv_aload_n hx hb dX2_init_52 rfl (lv_at hl 0 rfl) ?_
        refine gx_newo hx hb hown hZ hG hS 2 rfl (by rw [hc2]; decide) k6 k7 k8 (Nat.le_of_ble_eq_true rfl) (Nat.le_of_ble_eq_true rfl) dX2_init_53 (fun q H hG hS1 hsz => ?_)
        rw [hc2] at hG
        have hold1 := hc2
        have hAA1 := gx_stA (g := g) (g' := gAdd g 2 q 0) rfl
        obtain ⟨g, hg1⟩ : ∃ z : gG, z = gAdd g 2 q 0 := ⟨_, rfl⟩
        rw [← hg1] at hG hAA1
        have hZ : ZZ g s := by rw [hg1]; exact gx_stZ rfl rfl rfl hZ
        rw [← hAA1] at hS1
        have hS := hS1
        have hc0 : gcn g 0 = 1 := by rw [hg1, gAdd_cn, if_neg (by decide)]; exact hc0
        have hc1 : gcn g 1 = 1 := by rw [hg1, gAdd_cn, if_neg (by decide)]; exact hc1
        have hc2 : gcn g 2 = 1 := by rw [hg1, gAdd_cn, if_pos rfl, hc2]
        have hc3 : gcn g 3 = 0 := by rw [hg1, gAdd_cn, if_neg (by decide)]; exact hc3
        have hc4 : gcn g 4 = 0 := by rw [hg1, gAdd_cn, if_neg (by decide)]; exact hc4
        have hc5 : gcn g 5 = 0 := by rw [hg1, gAdd_cn, if_neg (by decide)]; exact hc5
        have hc6 : gcn g 6 = 0 := by rw [hg1, gAdd_cn, if_neg (by decide)]; exact hc6
        have hc7 : gcn g 7 = 0 := by rw [hg1, gAdd_cn, if_neg (by decide)]; exact hc7
        have hln1_0 : gln g 1 0 = 36 := by rw [hg1, gAdd_ln, if_neg (fun z => absurd z.1 (by decide))]; exact hln1_0
        have hq : gad g 2 0 = q := by rw [hg1, gAdd_ad, if_pos ⟨rfl, hold1.symm⟩]
        have hl : lv_has ls 2 [(0, .ref (gad g 0 0)), (1, .int (nI k))] := by subst hg1; exact hl
        refine gx_topV (congrArg Value.ref hq.symm) ?_
        refine gx_topV2 (v := (Value.ref (gad g 0 0))) (by subst hg1; rfl) ?_
        refine lv_dup hx hb dX2_init_56 rfl ?_
        refine gx_cM (gx_runI (As := []) (rest := [.ref (gad g 2 0), .ref (gad g 0 0)]) ⟨hx, hb, hml, hown, hts⟩ (c_ali2 l g (gFre (σ1) 2 0) w (by rw [hc2]; decide)) (cwI 0 hts gX2_init_Jx4a65c_init_da8c8 rfl rfl rfl k8 k9 k10 rfl (by decide +kernel) ⟨Nat.le_of_ble_eq_true rfl, Nat.le_of_ble_eq_true rfl⟩) hZ hG hS rfl hl.1 rfl (Nat.le_of_ble_eq_true rfl) dX2_init_57 ⟨Nat.le_of_ble_eq_true rfl, Nat.le_of_ble_eq_true rfl⟩) hS (fun H locs hG hS hsz => ?_)
        refine gx_putF hx hb hown hZ hG hS 0 0 1 (nI 0) (by rw [hc0]; decide) rfl (by decide) k11 (fun _ h => h) rfl hin rfl (grf_nI (a := gad g 2) (j := 0) (by decide)) (Or.inr ⟨_, (by rw [hc2]; decide), rfl⟩) rfl rfl dX2_init_60 (fun H locs hG hS => ?_)
        refine lv_aload_n hx hb dX2_init_63 rfl (lv_at hl 0 rfl) ?_
        refine gx_newo hx hb hown hZ hG hS 3 rfl (by rw [hc3]; decide) k6 k7 k8 (Nat.le_of_ble_eq_true rfl) (Nat.le_of_ble_eq_true rfl) dX2_init_64 (fun q H hG hS1 hsz => ?_)
        rw [hc3] at hG
        have hold2 := hc3
        have hAA2 := gx_stA (g := g) (g' := gAdd g 3 q 0) rfl
        obtain ⟨g, hg2⟩ : ∃ z : gG, z = gAdd g 3 q 0 := ⟨_, rfl⟩
        rw [← hg2] at hG hAA2
        have hZ : ZZ g s := by rw [hg2]; exact gx_stZ rfl rfl rfl hZ
        rw [← hAA2] at hS1
        have hS := hS1
        have hc0 : gcn g 0 = 1 := by rw [hg2, gAdd_cn, if_neg (by decide)]; exact hc0
        have hc1 : gcn g 1 = 1 := by rw [hg2, gAdd_cn, if_neg (by decide)]; exact hc1
        have hc2 : gcn g 2 = 1 := by rw [hg2, gAdd_cn, if_neg (by decide)]; exact hc2
        have hc3 : gcn g 3 = 1 := by rw [hg2, gAdd_cn, if_pos rfl, hc3]
        have hc4 : gcn g 4 = 0 := by rw [hg2, gAdd_cn, if_neg (by decide)]; exact hc4
        have hc5 : gcn g 5 = 0 := by rw [hg2, gAdd_cn, if_neg (by decide)]; exact hc5
        have hc6 : gcn g 6 = 0 := by rw [hg2, gAdd_cn, if_neg (by decide)]; exact hc6
        have hc7 : gcn g 7 = 0 := by rw [hg2, gAdd_cn, if_neg (by decide)]; exact hc7
        have hln1_0 : gln g 1 0 = 36 := by rw [hg2, gAdd_ln, if_neg (fun z => absurd z.1 (by decide))]; exact hln1_0
        have hq : gad g 3 0 = q := by rw [hg2, gAdd_ad, if_pos ⟨rfl, hold2.symm⟩]
        have hl : lv_has ls 2 [(0, .ref (gad g 0 0)), (1, .int (nI k))] := by subst hg2; exact hl
        refine gx_topV (congrArg Value.ref hq.symm) ?_
        refine gx_topV2 (v := (Value.ref (gad g 0 0))) (by subst hg2; rfl) ?_
        refine lv_dup hx hb dX2_init_67 rfl ?_
        refine gx_cM (gx_runI (As := []) (rest := [.ref (gad g 3 0), .ref (gad g 0 0)]) ⟨hx, hb, hml, hown, hts⟩ (c_ali3 l g (gFre (gst (gst (gst (gFre (σ1) 2 0) 2 0 0 0) 2 0 1 0) 0 0 1 (nI 0)) 3 0) w (by rw [hc3]; decide)) (cwI 0 hts gX2_init_Jx4a65c_init_da8c8 rfl rfl rfl k8 k9 k10 rfl (by decide +kernel) ⟨Nat.le_of_ble_eq_true rfl, Nat.le_of_ble_eq_true rfl⟩) hZ hG hS rfl hl.1 rfl (Nat.le_of_ble_eq_true rfl) dX2_init_68 ⟨Nat.le_of_ble_eq_true rfl, Nat.le_of_ble_eq_true rfl⟩) hS (fun H locs hG hS hsz => ?_)
        refine gx_putF hx hb hown hZ hG hS 0 0 2 (nI 0) (by rw [hc0]; decide) rfl (by decide) k12 (fun _ h => h) rfl hin rfl (grf_nI (a := gad g 3) (j := 0) (by decide)) (Or.inr ⟨_, (by rw [hc3]; decide), rfl⟩) rfl rfl dX2_init_71 (fun H locs hG hS => ?_)
        refine lv_aload_n hx hb dX2_init_74 rfl (lv_at hl 0 rfl) ?_
        refine lv_iconst (v := 4) hx hb dX2_init_75 (by decide) ?_
        refine gx_put hx hb hown hZ hG hS 0 0 4 (4) (by rw [hc0]; decide) rfl (by decide) k13 (fun _ h => h) rfl rfl trivial rfl rfl dX2_init_76 (fun H locs hG hS => ?_)
        refine lv_aload_n hx hb dX2_init_79 rfl (lv_at hl 0 rfl) ?_
        refine lv_iconst (v := 2) hx hb dX2_init_80 (by decide) ?_
        refine gx_put hx hb hown hZ hG hS 0 0 5 (2) (by rw [hc0]; decide) rfl (by decide) k14 (fun _ h => h) rfl rfl trivial rfl rfl dX2_init_81 (fun H locs hG hS => ?_)
        rw [hAA2, hAA1, hAA0, hgw] at hS
        exact gx_vretE hx hb hr hlocks hS ⟨rfl, _, _, hgw ▸ gIni.of hg0 hg1 hg2, (ini_end hc0 hc1 hc2 hc3 hc4 hc5 hc6 hc7 hln1_0 hσ1 hz3 hz6).1, (ini_end hc0 hc1 hc2 hc3 hc4 hc5 hc6 hc7 hln1_0 hσ1 hz3 hz6).2.1, (ini_end hc0 hc1 hc2 hc3 hc4 hc5 hc6 hc7 hln1_0 hσ1 hz3 hz6).2.2, hG⟩ (Nat.le_of_ble_eq_true rfl) (Nat.le_of_ble_eq_true rfl) dX2_init_84
      · skip
        have hkc := lt_of_nle (n := 36) c_1 (by omega)
        obtain ⟨r, rfl⟩ : ∃ q, r = q + 1 := ⟨r - 1, by omega⟩
        refine lv_aload_n hx hb dX2_init_23 rfl (lv_at hl 0 rfl) ?_
        refine gx_get hx hb hown hZ hG 0 0 0 (by rw [hc0]; decide) rfl (by decide) k5 (fun _ h => h) (v := .ref (gad g 1 0)) (grf_j (by first | assumption | simp [gst_app, gFre_app]) (by decide)) dX2_init_24 ?_
        refine lv_iload_n hx hb dX2_init_27 rfl (lv_at hl 1 rfl) ?_
        refine lv_iload_n hx hb dX2_init_28 rfl (lv_at hl 1 rfl) ?_
        refine lv_bipush (v := 6) hx hb dX2_init_29 (by decide) ?_
        refine lv_idiv hx hb dX2_init_31 (by decide) ?_
        refine lv_iload_n hx hb dX2_init_32 rfl (lv_at hl 1 rfl) ?_
        refine lv_bipush (v := 6) hx hb dX2_init_33 (by decide) ?_
        refine lv_irem hx hb dX2_init_35 (by decide) ?_
        refine lv_icmp_ne (tgt := 43) hx hb dX2_init_36 (by decide) (fun c_2 => ?_) (fun c_2 => ?_)
        · skip
          refine lv_bipush (v := 10) hx hb dX2_init_43 (by decide) ?_
          refine gx_astN hx hb hZ hG hS 1 0 k (by rfl) (by rw [hc1]; decide) rfl rfl ⟨by omega, by omega⟩ rfl trivial dX2_init_45 (fun H locs hG hS => ?_)
          refine lv_iinc (v := nI (k + 1)) (lv' := [(1, .int (nI (k + 1))), (0, .ref (gad g 0 0))]) hx hb dX2_init_46 hl (k := 1) rfl (nI_1 _) (by decide) rfl (fun ls hl => ?_)
          refine lv_goto (tgt := 14) hx hb dX2_init_49 (by decide) ?_
          exact ih r (k + 1) (gst σ1 1 0 k 10) (by omega) (by omega) (by rw [gst_nk (by decide)]; exact hr0) (by rw [← hres, xFil, xWv]; first | rw [if_pos c_2] | rw [if_neg c_2]) H locs hG hS ls (lv_sub hl [1, 0] rfl)
        · skip
          refine lv_iconst (v := 5) hx hb dX2_init_39 (by decide) ?_
          refine lv_goto (tgt := 45) hx hb dX2_init_40 (by decide) ?_
          refine gx_astN hx hb hZ hG hS 1 0 k (by rfl) (by rw [hc1]; decide) rfl rfl ⟨by omega, by omega⟩ rfl trivial dX2_init_45 (fun H locs hG hS => ?_)
          refine lv_iinc (v := nI (k + 1)) (lv' := [(1, .int (nI (k + 1))), (0, .ref (gad g 0 0))]) hx hb dX2_init_46 hl (k := 1) rfl (nI_1 _) (by decide) rfl (fun ls hl => ?_)
          refine lv_goto (tgt := 14) hx hb dX2_init_49 (by decide) ?_
          exact ih r (k + 1) (gst σ1 1 0 k 5) (by omega) (by omega) (by rw [gst_nk (by decide)]; exact hr0) (by rw [← hres, xFil, xWv]; first | rw [if_pos c_2] | rw [if_neg c_2]) H locs hG hS ls (lv_sub hl [1, 0] rfl)
  exact loop_14 37 36 0 (gst (gFre (σ) 1 0) 0 0 0 (nI 0)) (by omega) (by omega) (by simp [gst_app, gFre_app]) rfl _ _ hG hS ls (lv_sub hl [1, 0] rfl)
