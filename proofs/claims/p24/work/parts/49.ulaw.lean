/-- nothing but cabs, orders and the count of turns is another -/
def Un (σ σ' : Mem) : Prop := ∀ k i f, k ≠ 6 → k ≠ 7 → ¬ (k = 0 ∧ f = 6) → σ' k i f = σ k i f
theorem Un.rf (σ : Mem) : Un σ σ := fun _ _ _ _ _ _ => rfl
theorem Un.tr {a b c : Mem} (h : Un a b) (h2 : Un b c) : Un a c := fun k i f h6 h7 h0 => (h2 k i f h6 h7 h0).trans (h k i f h6 h7 h0)
theorem Un.g6 {σ σ' : Mem} {i f : Nat} {v : Int32} (h : Un σ σ') : Un σ (gst σ' 6 i f v) := fun k j q h6 h7 h0 => (gst_nk h6).trans (h k j q h6 h7 h0)
theorem Un.g7 {σ σ' : Mem} {i f : Nat} {v : Int32} (h : Un σ σ') : Un σ (gst σ' 7 i f v) := fun k j q h6 h7 h0 => (gst_nk h7).trans (h k j q h6 h7 h0)
theorem Un.g0 {σ σ' : Mem} {v : Int32} (h : Un σ σ') : Un σ (gst σ' 0 0 6 v) := fun k j q h6 h7 h0 => by
  rw [gst_app, if_neg (fun z => h0 ⟨z.1, z.2.2⟩)]
  exact h k j q h6 h7 h0
theorem Un.join {σ σ' : Mem} {c : Nat} (h : Un σ σ') : Un σ (xJoin σ' c) := h.g6.g6.g0
theorem Un.turn {σ σ' : Mem} {c : Nat} (h : Un σ σ') : Un σ (xTurn σ' c) := by
  unfold xTurn
  split
  · exact h
  · exact h.g7.g7.g7.g6.join
theorem Un.rel {σ σ' : Mem} {o : Nat} (h : Un σ σ') : Un σ (xRel σ' o) := by
  unfold xRel
  split
  · exact h
  · split
    · exact h.g7.g6.join
    · exact h.g7.g6
theorem Un.roGo {σ : Mem} : ∀ (r k : Nat) {σ' : Mem}, Un σ σ' → Un σ (xRoGo r k σ')
  | 0, _, _, h => h
  | r + 1, k, σ', h => by
    simp only [xRoGo]
    repeat' split
    all_goals first | exact Un.roGo r (k + 1) h | exact Un.roGo r (k + 1) h.turn
theorem Un.beg {σ σ' : Mem} {c o : Nat} (h : Un σ σ') : Un σ (xBegin σ' c o) := h.g6.g6.g6.g7.g7.g7.g7.g7.g7
theorem Un.fin {σ σ' : Mem} {c o : Nat} (h : Un σ σ') : Un σ (xEnd σ' c o) := h.g6.g6.g6.g6.join.g7.g7
theorem Un.bcGo {σ : Mem} : ∀ (r k : Nat) (acc : Int32) {σ' : Mem}, Un σ σ' → Un σ (xBcGo r k acc σ').2
  | 0, _, _, _, h => h
  | r + 1, k, acc, σ', h => by
    simp only [xBcGo]
    repeat' split
    all_goals first | exact Un.bcGo r (k + 1) _ h | exact Un.bcGo r (k + 1) _ h.beg | exact Un.bcGo r (k + 1) _ h.fin
theorem Un.mno {σ σ' : Mem} (h : Un σ σ') : Un σ (xMno σ') := by
  unfold xMno
  split
  · exact h
  · split
    · exact h
    · exact h.g7.g7.g7.g6
theorem Un.moGo {σ : Mem} : ∀ (r : Nat) {σ' : Mem}, Un σ σ' → Un σ (xMoGo r σ')
  | 0, _, h => h
  | r + 1, σ', h => by
    simp only [xMoGo]
    split
    · exact Un.moGo r h.mno
    · exact h.mno
theorem Un.mo {σ σ' : Mem} (h : Un σ σ') : Un σ (xMo σ') := Un.moGo _ h
theorem Un.pm (σ : Mem) : Un (gst σ 0 0 3 (σ 0 0 3 + 1)) (xPm σ).2 := (Un.bcGo _ 0 0 (Un.roGo _ 0 (Un.rf _))).mo
theorem Xok.cong {g : gG} {σ σ' : Mem} (h : Xok g σ) (e : ∀ k i f, k < 8 → σ' k i f = σ k i f) : Xok g σ' := by
  obtain ⟨h1, ⟨a1, a2, a3⟩, ⟨b1, b2⟩, h4, h5, h6, h7, h8, h9⟩ := h
  refine ⟨h1, ⟨?_, ?_, ?_⟩, ⟨?_, ?_⟩, ?_, ?_, fun j hj => ?_, fun j hj => ?_, fun j hj => ?_, fun j hj => ?_⟩
  · rw [e 0 0 0 (by decide)]; exact a1
  · rw [e 0 0 1 (by decide)]; exact a2
  · rw [e 0 0 2 (by decide)]; exact a3
  · rw [e 2 0 2 (by decide)]; exact b1
  · rw [e 3 0 2 (by decide)]; exact b2
  · rw [e 2 0 1 (by decide)]; exact h4
  · rw [e 3 0 1 (by decide)]; exact h5
  · rw [e 4 0 j (by decide)]; exact h6 j hj
  · rw [e 5 0 j (by decide)]; exact h7 j hj
  · rw [e 6 j 0 (by decide)]; exact h8 j hj
  · rw [e 7 j 0 (by decide)]; exact h9 j hj
section LIS
variable {σ : Mem}
theorem xPutWay_8 {a b v : Int32} {k i f : Nat} (hk : k ≠ 1) : xPutWay σ a b v k i f = σ k i f := by
  unfold xPutWay
  repeat' split
  all_goals first | rfl | exact gst_nk hk
theorem xTick_8 : ∀ (r : Nat) (acc : Int32) (σ : Mem) {k : Nat} (i f : Nat), k ≠ 0 → k ≠ 6 → k ≠ 7 → (xTickGo r acc σ).2 k i f = σ k i f
  | 0, _, _, _, _, _, _, _, _ => rfl
  | r + 1, acc, σ, k, i, f, h0, h6, h7 => by
    simp only [xTickGo]
    rw [xTick_8 r _ _ i f h0 h6 h7, (Un.pm σ) k i f h6 h7 (fun z => h0 z.1), gst_nk h0]
theorem xAcc_n (c o : Nat) : Un σ (xAcc σ c o) := (Un.rf σ).g6.g6.g7
end LIS
/-! the law's small methods -/
def xBl (x n : Int32) : Int32 := (x &&& 2147483647) - (x &&& 2147483647) / n * n
theorem xBl_in (x : Int32) {n : Nat} (h0 : 0 < n) (hn : n < 1000) : ∃ j, j < n ∧ xBl x (nI n) = nI j := by
  obtain ⟨j, hj, e⟩ := pk_andE x (m := 2147483647) 31 (by decide)
  refine ⟨j % n, Nat.mod_lt _ h0, ?_⟩
  unfold xBl
  rw [e]
  exact pk_rem hj h0 (by omega)
theorem c_L_below (l : Launch) (g : gG) (σ : Mem) (w : Int64) (x n : Int32) (hn : ¬ n = 0) : Met l yL_below wsL_below ({ frames := 0, cells := 0, slots := 0, locals := 0 } : Room) (gPc g σ w [.int x, .int n]) (gR (.int (xBl x n))) 0 0 (fun _ => False) := by
  refine gx_ofW (cc := cL_below) (maxL := 2) (ret := (some .int)) (by decide) rfl (Nat.le_of_ble_eq_true rfl) ?_
  intro p e s m below meth c0 hx hb hr hml hts hown hlocks hin hG hZ hS ls hl
  have hown : s.vm.findClass RL = some m.cls := hown
  have hl : lv_has ls 2 [(0, .int x), (1, .int n)] := hl
  have k1 := hts (.constant RL 7 (2147483647)) (by decide +kernel)
  refine lv_iload_n hx hb dL_below_0 rfl (lv_at hl 0 rfl) ?_
  refine lv_ldc hx hb hown k1 dL_below_1 ?_
  refine lv_iand hx hb dL_below_3 ?_
  refine lv_iload_n hx hb dL_below_4 rfl (lv_at hl 1 rfl) ?_
  refine lv_irem hx hb dL_below_5 hn ?_
  exact gx_iretR hx hb hr hlocks rfl (Nat.le_of_ble_eq_true rfl) (Nat.le_of_ble_eq_true rfl) dL_below_6
/-! the Rank's steps touch nothing of the class -/
/-- nothing below kind 8, nothing above 20 -/
def Ur (σ ρ : Mem) : Prop := ∀ k i f, k < 8 ∨ 20 < k → ρ k i f = σ k i f
theorem Ur.rf (σ : Mem) : Ur σ σ := fun _ _ _ _ => rfl
theorem Ur.tr {a b c : Mem} (h : Ur a b) (h2 : Ur b c) : Ur a c := fun k i f q => (h2 k i f q).trans (h k i f q)
theorem Ur.g {σ ρ : Mem} {k i f : Nat} {v : Int32} (h : Ur σ ρ) (hk : 8 ≤ k) (hk2 : k ≤ 20) : Ur σ (gst ρ k i f v) := fun k' j q hk' => (gst_nk (by omega)).trans (h k' j q hk')
theorem Ur.sh {σ : Mem} {z : Nat} : ∀ (r k : Nat) {ρ : Mem}, Ur σ ρ → Ur σ (rSh z r k ρ)
  | 0, _, _, h => h
  | r + 1, k, _, h => Ur.sh r (k + 1) (h.g (by decide) (by decide))
theorem Ur.lv {σ ρ : Mem} {z c : Nat} (h : Ur σ ρ) : Ur σ (rLv ρ z c) := (Ur.sh _ _ h).g (by decide) (by decide)
theorem Ur.join {σ ρ : Mem} {z c : Nat} (h : Ur σ ρ) : Ur σ (rJoin ρ z c) := (h.g (by decide) (by decide)).g (by decide) (by decide)
theorem Ur.off1 {σ ρ : Mem} (h : Ur σ ρ) : Ur σ (rOff1 ρ) := (((h.g (by decide) (by decide)).g (by decide) (by decide)).g (by decide) (by decide)).g (by decide) (by decide)
theorem Ur.offN {σ ρ : Mem} (h : Ur σ ρ) : ∀ n, Ur σ (rOffN n ρ)
  | 0 => h
  | n + 1 => (Ur.offN h n).off1
theorem Ur.rfd {σ ρ : Mem} {c : Nat} (h : Ur σ ρ) : Ur σ (rRfd ρ c) := ((((h.g (by decide) (by decide)).g (by decide) (by decide)).g (by decide) (by decide)).g (by decide) (by decide)).g (by decide) (by decide)
theorem Ur.back {σ ρ : Mem} {c : Nat} (h : Ur σ ρ) : Ur σ (rBack ρ c) := Ur.join (Ur.lv h)
theorem Ur.acc {σ ρ : Mem} {c : Nat} (h : Ur σ ρ) : Ur σ (rAcc ρ c) := (((Ur.lv h).g (by decide) (by decide)).g (by decide) (by decide)).g (by decide) (by decide)
