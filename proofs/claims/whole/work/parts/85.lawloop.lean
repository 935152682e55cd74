theorem rc1 {x : Nat} (h : x ≤ 601024) : x ≤ room_1.cells := h
theorem rs1 {x : Nat} (h : x ≤ 7293034) : x ≤ room_1.slots := h
abbrev lwl (b : Nat) (g : gG) (i : Nat) : List (Nat × Value) := [(0, .ref b), (1, .ref (gad g 0 0)), (2, .ref (gad g 8 0)), (3, .ref (gad g 10 0)), (4, .int (nI i))]
/-- what the law's body stands on -/
def LW (p : Program) (s : State) (m : MethodId) (c : Code) (args : Array Value) (b L : Nat) (xs : Nat → Int32) : Prop :=
  p.tables.exec = Jvm.exec ∧ c.code = code ∧ c.maxLocals = 9 ∧ s.vm.findClass RL = some m.cls ∧ (∀ w ∈ wsL_law, w.before args s = true) ∧ va_X b L xs s s.heap ∧ b < s.heap.size
def LG (g : gG) (s : State) (σ : Mem) (w : Int64) (H : Heap) (locs : List Loc) (B : Nat) : Prop := ZZ g s ∧ GW g σ w H ∧ va_S (gA g) s.heap H locs ∧ LI g σ B ∧ gN0 g = s.heap.size
section LAWR
variable {p : Program} {l : Launch} {e : Env} {s : State} {m : MethodId} {args : Array Value} {below : List Frame} {meth : Method} {c : Code} {H : Heap} {locs : List Loc} {cells slots : Nat} {Q : State → Prop}
variable {ls : Array Slot} {rest : List Value} {g : gG} {σ : Mem} {w : Int64} {b L : Nat} {xs : Nat → Int32}
/-- a cell of the script -/
theorem lw_cell (hx : p.tables.exec = Jvm.exec) (hb : c.code = code) (hX : va_X b L xs s s.heap) (hbl : b < s.heap.size) (hbA : ¬ gA g b) (hS : va_S (gA g) s.heap H locs) {i pc : Nat} (k : Nat) {kc : Int} (h0 : ls[0]? = some (.val (.ref b))) (h4 : ls[4]? = some (.val (.int (nI i)))) (hk : Int32.ofInt kc = nI k) (hi : i + k < L) (hL : L ≤ 2560)
    (d0 : decode code pc = .ok (.aload_n 0, 1)) (d1 : decode code (pc + 1) = .ok (.iload 4, 2)) (d3 : decode code (pc + 3) = .ok (.iconst kc, 1)) (d4 : decode code (pc + 4) = .ok (.iadd, 1)) (d5 : decode code (pc + 5) = .ok (.iaload, 1))
    (kk : W p l e room_1 s m args below meth c H locs cells slots Q (F0 m (pc + 6) ls (.int (xs (i + k)) :: rest))) : W p l e room_1 s m args below meth c H locs cells slots Q (F0 m pc ls rest) := by
  refine lv_aload_n hx hb d0 rfl h0 ?_
  refine lv_iload hx hb d1 h4 ?_
  refine lv_iconst (v := nI k) hx hb d3 hk ?_
  refine lv_iadd hx hb d4 ?_
  rw [nI_add]
  refine va_sld hx hb hX hbl hbA hS (vp_in_nI hi (by omega)) d5 ?_
  rw [nI_clamp (by omega)]
  exact kk
/-- the model's answer is in: 'thrown' and the answer are compared -/
theorem lw_tail (hx : p.tables.exec = Jvm.exec) (hb : c.code = code) (hml : c.maxLocals = 9) (hown : s.vm.findClass RL = some m.cls) (hts : ∀ w ∈ wsL_law, w.before args s = true) (hZ : ZZ g s) (hG : GW g σ w H) (hS : va_S (gA g) s.heap H locs) (hM : Mok g σ) (h10 : gcn g 10 = 1 ∧ gln g 10 0 = 1) {i T : Nat} {kv bv : Int32} (hk : σ 8 0 0 = kv) (hw : kv = 0 → w = bv.toInt64)
    (hl : lv_has ls 9 [(5, .int kv), (0, .ref b), (1, .ref (gad g 0 0)), (2, .ref (gad g 8 0)), (3, .ref (gad g 10 0)), (4, .int (nI i))]) (hroom : cells ≤ 601024 ∧ slots ≤ 7293034) {off : Int}
    (d0 : decode code T = .ok (.istore 6, 2)) (d2 : decode code (T + 2) = .ok (.aload_n 2, 1)) (d3 : decode code (T + 3) = .ok (.invokevirtual 84, 3)) (d6 : decode code (T + 6) = .ok (.iload 5, 2)) (d8 : decode code (T + 8) = .ok (.if_icmp .eq 5, 3)) (d13 : decode code (T + 13) = .ok (.iload 5, 2)) (d15 : decode code (T + 15) = .ok (.ifCond .ne 15, 3))
    (d18 : decode code (T + 18) = .ok (.aload_n 3, 1)) (d19 : decode code (T + 19) = .ok (.iconst 0, 1)) (d20 : decode code (T + 20) = .ok (.laload, 1)) (d21 : decode code (T + 21) = .ok (.iload 6, 2)) (d23 : decode code (T + 23) = .ok (.i2l, 1)) (d24 : decode code (T + 24) = .ok (.lcmp, 1)) (d25 : decode code (T + 25) = .ok (.ifCond .eq 5, 3)) (d30 : decode code (T + 30) = .ok (.goto off, 3)) (ht : ((T + 30 : Nat) : Int) + off = ((1384 : Nat) : Int))
    (kk : ∀ ls' : Array Slot, lv_has ls' 9 (lwl b g i) → W p l e room_1 s m args below meth c H locs cells slots Q (F0 m 1384 ls' [])) : W p l e room_1 s m args below meth c H locs cells slots Q (F0 m T ls [.int bv]) := by
  refine lv_istore (lv' := [(6, .int bv), (5, .int kv), (0, .ref b), (1, .ref (gad g 0 0)), (2, .ref (gad g 8 0)), (3, .ref (gad g 10 0)), (4, .int (nI i))]) hx hb d0 hl (by decide) rfl (fun ls hl => ?_)
  refine lv_aload_n hx hb d2 rfl (lv_at hl 4 rfl) ?_
  refine gx_cR (gx_runV (As := []) (rest := []) ⟨hx, hb, hml, hown, hts⟩ (c_X3_thrown l g σ w hM) (cwV 0 hts gL_law_X3_thrown rfl rfl rfl (by decide +kernel) ⟨Nat.le_of_ble_eq_true rfl, Nat.le_of_ble_eq_true rfl⟩) (gx_obj hZ hG 8 0 hM.b8 rfl) hZ hG hS rfl hl.1 rfl (Nat.le_of_ble_eq_true rfl) d3 ⟨rc1 (by omega), rs1 (by omega)⟩) ?_
  rw [hk]
  refine lv_iload hx hb d6 (lv_at hl 1 rfl) ?_
  refine lv_icmp_eq (tgt := T + 13) hx hb d8 (by omega) (fun c1 => ?_) (fun c1 => absurd rfl c1)
  refine lv_iload hx hb d13 (lv_at hl 1 rfl) ?_
  have fin : W p l e room_1 s m args below meth c H locs cells slots Q (F0 m (T + 30) ls []) := lv_goto (tgt := 1384) hx hb d30 ht (kk ls (lv_sub hl [2, 3, 4, 5, 6] rfl))
  refine lv_if_ne (tgt := T + 30) hx hb d15 (by omega) (fun _ => fin) (fun c2 => ?_)
  refine lv_aload_n hx hb d18 rfl (lv_at hl 5 rfl) ?_
  refine lv_iconst (v := 0) hx hb d19 (by decide) ?_
  refine gx_lald hx hb hZ hG (by rw [h10.1]; decide) (vp_in_nI (by rw [h10.2]; decide) (by rw [h10.2]; decide)) d20 ?_
  refine lv_iload hx hb d21 (lv_at hl 0 rfl) ?_
  refine lv_i2l hx hb d23 rfl ?_
  refine W.lcmp hx hb d24 ?_
  have e0 : lg_cmp w bv.toInt64 = 0 := by rw [hw c2]; simp [lg_cmp]
  rw [e0]
  exact lv_if_eq (tgt := T + 30) hx hb d25 (by omega) (fun _ => fin) (fun q => absurd rfl q)
end LAWR
