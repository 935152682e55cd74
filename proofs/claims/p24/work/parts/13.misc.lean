theorem zb_io : ∀ w ∈ (vx_atS "TaxiRank" 112 "java/lang/IndexOutOfBoundsException" ["java/lang/RuntimeException", "java/lang/Exception"]).filter (fun w => !goodWord w), w ∈ gBad "java/lang/IndexOutOfBoundsException" := by decide +kernel
theorem zb_ia : ∀ w ∈ (vx_atS "TaxiRank" 38 "java/lang/IllegalArgumentException" ["java/lang/RuntimeException", "java/lang/Exception"]).filter (fun w => !goodWord w), w ∈ gBad "java/lang/IllegalArgumentException" := by decide +kernel
theorem zb_is : ∀ w ∈ (vx_atS "TaxiRank" 67 "java/lang/IllegalStateException" ["java/lang/RuntimeException", "java/lang/Exception"]).filter (fun w => !goodWord w), w ∈ gBad "java/lang/IllegalStateException" := by decide +kernel
theorem zo_io : ∀ w ∈ vx_atS "TaxiRank" 112 "java/lang/IndexOutOfBoundsException" ["java/lang/RuntimeException", "java/lang/Exception"], vx_ot w = true := by decide +kernel
theorem zo_ia : ∀ w ∈ vx_atS "TaxiRank" 38 "java/lang/IllegalArgumentException" ["java/lang/RuntimeException", "java/lang/Exception"], vx_ot w = true := by decide +kernel
theorem zo_is : ∀ w ∈ vx_atS "TaxiRank" 67 "java/lang/IllegalStateException" ["java/lang/RuntimeException", "java/lang/Exception"], vx_ot w = true := by decide +kernel
theorem bI_ne0 {b : Bool} : ¬ bI b = 0 ↔ b = true := by cases b <;> decide
theorem nI_inj {a b : Nat} (ha : a < 2 ^ 31) (hb : b < 2 ^ 31) (h : nI a = nI b) : a = b := (nI_eq ha hb).mp h
theorem grf_0 {a : Nat → Nat} {x : Int32} (h : x = -1) : grf a x = .null := by simp [grf, h]
theorem nI_nm {j : Nat} (h : j < 2 ^ 31) : nI j ≠ -1 := by
  intro z
  have h1 := nI_toInt h
  rw [z] at h1
  have h2 : (-1 : Int32).toInt = -1 := by decide
  omega
theorem grf_j {a : Nat → Nat} {x : Int32} {j : Nat} (h : x = nI j) (hj : j < 2 ^ 31) : grf a x = .ref (a j) := by
  subst h
  unfold grf
  rw [if_neg (nI_nm hj), ix_nI hj]
theorem grf_nI {a : Nat → Nat} {j : Nat} (hj : j < 2 ^ 31) : grf a (nI j) = .ref (a j) := grf_j rfl hj
theorem grf_z {a : Nat → Nat} {x : Int32} (h : x = 0) : grf a x = .ref (a 0) := grf_j (h.trans nI_0.symm) (by decide)
theorem vp_in_c {x M : Int32} {n : Nat} (h0 : ¬ x < 0) (h1 : ¬ M ≤ x) (hM : M = nI n) (hn : n < 2 ^ 31) : vp_in x n := by
  subst hM
  rcases pk_ix x hn with h | h | ⟨j, h, rfl⟩
  · exact absurd h h0
  · exact absurd h h1
  · exact vp_in_nI h hn
section GNAT
variable {p : Program} {l : Launch} {e : Env} {R : Room} {s : State} {m : MethodId} {args : Array Value} {below : List Frame} {meth : Method} {c : Code} {H : Heap} {locs : List Loc} {cells slots : Nat} {Q : State → Prop}
variable {cc : ByteArray} {pc : Nat} {ls : Array Slot} {rest : List Value} {g : gG} {σ : Mem} {w : Int64}
theorem gx_topN {x y : Int32} (h : x = y) (k : W p l e R s m args below meth c H locs cells slots Q (F0 m pc ls (.int y :: rest))) : W p l e R s m args below meth c H locs cells slots Q (F0 m pc ls (.int x :: rest)) := by rw [h]; exact k
theorem gx_aldN (hexec : p.tables.exec = Jvm.exec) (hb : c.code = cc) (hZ : ZZ g s) (hG : GW g σ w H) (k i n : Nat) {j : Int32} (ej : j = nI n) (hi : i < gcn g k) (hk : gob k = false) (hI : gca g k = gI g) (hin : n < gln g k i ∧ n < 2 ^ 31) {v : Value} (hv : gv g w k n (σ k i n) = v) (hdg : decode cc pc = .ok (.iaload, 1))
    (kk : W p l e R s m args below meth c H locs cells slots Q (F0 m (pc + 1) ls (v :: rest))) : W p l e R s m args below meth c H locs cells slots Q (F0 m pc ls (.int j :: .ref (gad g k i) :: rest)) := by
  subst ej
  have h31 := hin.2
  refine gx_ald hexec hb hZ hG k i hi hk hI (fun z => ?_) (by rw [ix_nI h31]; exact hv) hdg kk
  rcases z with z | z
  · exact absurd z (nI_pos h31)
  · rw [nI_clamp h31] at z
    omega
theorem gx_astN (hexec : p.tables.exec = Jvm.exec) (hb : c.code = cc) (hZ : ZZ g s) (hG : GW g σ w H) (hS0 : va_S (gA g) s.heap H locs) (k i n : Nat) {j x : Int32} (ej : j = nI n) (hi : i < gcn g k) (hk : gob k = false) (hI : gca g k = gI g) (hin : n < gln g k i ∧ n < 2 ^ 31) (hv : gv g w k n x = .int x) (hok : gok g k n x) (hdg : decode cc pc = .ok (.iastore, 1))
    (kk : ∀ (H1 : Heap) (locs1 : List Loc), GW g (gst σ k i n x) w H1 → va_S (gA g) s.heap H1 locs1 → W p l e R s m args below meth c H1 locs1 cells slots Q (F0 m (pc + 1) ls rest)) : W p l e R s m args below meth c H locs cells slots Q (F0 m pc ls (.int x :: .int j :: .ref (gad g k i) :: rest)) := by
  subst ej
  have h31 := hin.2
  refine gx_ast hexec hb hZ hG hS0 k i hi hk hI (fun z => ?_) (by rw [ix_nI h31]; exact hv) (by rw [ix_nI h31]; exact hok) hdg (fun H1 locs1 h1 h2 => kk H1 locs1 (by rw [ix_nI h31] at h1; exact h1) h2)
  rcases z with z | z
  · exact absurd z (nI_pos h31)
  · rw [nI_clamp h31] at z
    omega
end GNAT
/-! what every memory of the class keeps -/
def Xsens : Nat → Nat → Bool
  | 0, 0 => true | 0, 1 => true | 0, 2 => true | 2, _ => true | 3, _ => true | 4, _ => true | 5, _ => true | 6, 0 => true | 7, 0 => true | _, _ => false
theorem gst_sens {σ : Mem} {k i f : Nat} {v : Int32} (h : Xsens k f = false) {k' i' f' : Nat} (h' : Xsens k' f' = true) : gst σ k i f v k' i' f' = σ k' i' f' := by
  unfold gst
  rw [if_neg]
  rintro ⟨rfl, -, rfl⟩
  rw [h] at h'
  cases h'
def XokG (g : gG) : Prop := (gcn g 0 = 1 ∧ gcn g 1 = 1 ∧ gcn g 2 = 1 ∧ gcn g 3 = 1) ∧ gln g 1 0 = 36 ∧ gcn g 6 ≤ 10 ∧ gcn g 7 ≤ 60
def Xok (g : gG) (σ : Mem) : Prop := XokG g ∧ (σ 0 0 0 = 0 ∧ σ 0 0 1 = 0 ∧ σ 0 0 2 = 0) ∧ (σ 2 0 2 = nI (gcn g 6) ∧ σ 3 0 2 = nI (gcn g 7)) ∧
  ((gcn g 6 = 0 ∧ σ 2 0 1 = 0 ∧ gcn g 4 = 0) ∨ (σ 2 0 1 = 1 ∧ gcn g 4 = 1 ∧ gcn g 6 ≤ gln g 4 0 ∧ gln g 4 0 ≤ 100 ∧ 10 ≤ gln g 4 0)) ∧
  ((gcn g 7 = 0 ∧ σ 3 0 1 = 0 ∧ gcn g 5 = 0) ∨ (σ 3 0 1 = 1 ∧ gcn g 5 = 1 ∧ gcn g 7 ≤ gln g 5 0 ∧ gln g 5 0 ≤ 100 ∧ 10 ≤ gln g 5 0)) ∧
  (∀ j, j < gcn g 6 → σ 4 0 j = nI j) ∧ (∀ j, j < gcn g 7 → σ 5 0 j = nI j) ∧ (∀ j, j < gcn g 6 → σ 6 j 0 = nI j) ∧ (∀ j, j < gcn g 7 → σ 7 j 0 = nI j)
theorem Xok.st {g : gG} {σ : Mem} {k i f : Nat} {v : Int32} (h : Xok g σ) (hs : Xsens k f = false) : Xok g (gst σ k i f v) := by
  obtain ⟨h0, ⟨h1, h2, h3⟩, ⟨h4, h5⟩, h6, h7, h8, h9, h10, h11⟩ := h
  refine ⟨h0, ⟨?_, ?_, ?_⟩, ⟨?_, ?_⟩, ?_, ?_, fun j hj => ?_, fun j hj => ?_, fun j hj => ?_, fun j hj => ?_⟩ <;> rw [gst_sens hs rfl]
  · exact h1
  · exact h2
  · exact h3
  · exact h4
  · exact h5
  · exact h6
  · exact h7
  · exact h8 j hj
  · exact h9 j hj
  · exact h10 j hj
  · exact h11 j hj
theorem Xok.k0 {g : gG} {σ : Mem} (h : Xok g σ) : 0 < gcn g 0 := by rw [h.1.1.1]; decide
theorem Xok.k1 {g : gG} {σ : Mem} (h : Xok g σ) : 0 < gcn g 1 := by rw [h.1.1.2.1]; decide
theorem Xok.k2 {g : gG} {σ : Mem} (h : Xok g σ) : 0 < gcn g 2 := by rw [h.1.1.2.2.1]; decide
theorem Xok.k3 {g : gG} {σ : Mem} (h : Xok g σ) : 0 < gcn g 3 := by rw [h.1.1.2.2.2]; decide
theorem Xok.l1 {g : gG} {σ : Mem} (h : Xok g σ) : gln g 1 0 = 36 := h.1.2.1
theorem Xok.n6 {g : gG} {σ : Mem} (h : Xok g σ) : gcn g 6 ≤ 10 := h.1.2.2.1
theorem Xok.n7 {g : gG} {σ : Mem} (h : Xok g σ) : gcn g 7 ≤ 60 := h.1.2.2.2
theorem Xok.r0 {g : gG} {σ : Mem} (h : Xok g σ) : σ 0 0 0 = 0 := h.2.1.1
theorem Xok.r1 {g : gG} {σ : Mem} (h : Xok g σ) : σ 0 0 1 = 0 := h.2.1.2.1
theorem Xok.r2 {g : gG} {σ : Mem} (h : Xok g σ) : σ 0 0 2 = 0 := h.2.1.2.2
theorem Xok.z2 {g : gG} {σ : Mem} (h : Xok g σ) : σ 2 0 2 = nI (gcn g 6) := h.2.2.1.1
theorem Xok.z3 {g : gG} {σ : Mem} (h : Xok g σ) : σ 3 0 2 = nI (gcn g 7) := h.2.2.1.2
theorem Xok.e2 {g : gG} {σ : Mem} (h : Xok g σ) {j : Nat} (hj : j < gcn g 6) : σ 2 0 1 = 1 ∧ gcn g 4 = 1 ∧ gcn g 6 ≤ gln g 4 0 ∧ gln g 4 0 ≤ 100 ∧ 10 ≤ gln g 4 0 := by
  rcases h.2.2.2.1 with z | z
  · omega
  · exact z
theorem Xok.e3 {g : gG} {σ : Mem} (h : Xok g σ) {j : Nat} (hj : j < gcn g 7) : σ 3 0 1 = 1 ∧ gcn g 5 = 1 ∧ gcn g 7 ≤ gln g 5 0 ∧ gln g 5 0 ≤ 100 ∧ 10 ≤ gln g 5 0 := by
  rcases h.2.2.2.2.1 with z | z
  · omega
  · exact z
theorem Xok.q4 {g : gG} {σ : Mem} (h : Xok g σ) {j : Nat} (hj : j < gcn g 6) : σ 4 0 j = nI j := h.2.2.2.2.2.1 j hj
theorem Xok.q5 {g : gG} {σ : Mem} (h : Xok g σ) {j : Nat} (hj : j < gcn g 7) : σ 5 0 j = nI j := h.2.2.2.2.2.2.1 j hj
theorem Xok.q6 {g : gG} {σ : Mem} (h : Xok g σ) {j : Nat} (hj : j < gcn g 6) : σ 6 j 0 = nI j := h.2.2.2.2.2.2.2.1 j hj
theorem Xok.q7 {g : gG} {σ : Mem} (h : Xok g σ) {j : Nat} (hj : j < gcn g 7) : σ 7 j 0 = nI j := h.2.2.2.2.2.2.2.2 j hj
theorem gel_1 {a em : Nat} {x : Int32} (h : x = 1) : gel a em x = .ref a := by subst h; rfl
theorem gel_0 {a em : Nat} {x : Int32} (h : x = 0) : gel a em x = .ref em := by subst h; rfl
theorem grf_m1 {a : Nat → Nat} : grf a (-1) = .null := grf_0 rfl
theorem grf_nn {a : Nat → Nat} {x : Int32} (h : ¬ x = -1) : grf a x = .ref (a (ix x)) := by
  unfold grf
  rw [if_neg h]
theorem grf_or (a : Nat → Nat) (x : Int32) : grf a x = .null ∨ ∃ q, grf a x = .ref q := by
  unfold grf
  split
  · exact Or.inl rfl
  · exact Or.inr ⟨_, rfl⟩
theorem nn_lt {x : Int32} {n : Nat} (h : x = -1 ∨ ∃ j, j < n ∧ x = nI j) (hx : ¬ x = -1) (hn : n < 2 ^ 31) : ix x < n := by
  rcases h with h | ⟨j, hj, rfl⟩
  · exact absurd h hx
  · rw [ix_nI (by omega)]
    exact hj
section GNUL
variable {p : Program} {l : Launch} {e : Env} {R : Room} {s : State} {m : MethodId} {args : Array Value} {below : List Frame} {meth : Method} {c : Code} {H : Heap} {locs : List Loc} {cells slots : Nat} {Q : State → Prop}
variable {cc : ByteArray} {pc : Nat} {ls : Array Slot} {rest : List Value} {a : Nat → Nat} {x : Int32}
theorem gx_topV {u v : Value} (h : u = v) (k : W p l e R s m args below meth c H locs cells slots Q (F0 m pc ls (v :: rest))) : W p l e R s m args below meth c H locs cells slots Q (F0 m pc ls (u :: rest)) := by rw [h]; exact k
theorem gx_topV2 {t u v : Value} (h : u = v) (k : W p l e R s m args below meth c H locs cells slots Q (F0 m pc ls (t :: v :: rest))) : W p l e R s m args below meth c H locs cells slots Q (F0 m pc ls (t :: u :: rest)) := by rw [h]; exact k
theorem gx_ifnull (hexec : p.tables.exec = Jvm.exec) (hb : c.code = cc) {off : Int} {tgt : Nat} (hdg : decode cc pc = .ok (.ifnull off, 3)) (ht : (pc : Int) + off = (tgt : Int)) (kt : x = -1 → W p l e R s m args below meth c H locs cells slots Q (F0 m tgt ls rest)) (kf : ¬ x = -1 → W p l e R s m args below meth c H locs cells slots Q (F0 m (pc + 3) ls rest)) : W p l e R s m args below meth c H locs cells slots Q (F0 m pc ls (grf a x :: rest)) := by
  by_cases h : x = -1
  · rw [grf_0 h]
    exact lv_ifnullN hexec hb hdg ht (kt h)
  · rw [grf_nn h]
    exact lv_ifnull hexec hb hdg (kf h)
theorem gx_ifnonnull (hexec : p.tables.exec = Jvm.exec) (hb : c.code = cc) {off : Int} {tgt : Nat} (hdg : decode cc pc = .ok (.ifnonnull off, 3)) (ht : (pc : Int) + off = (tgt : Int)) (kt : ¬ x = -1 → W p l e R s m args below meth c H locs cells slots Q (F0 m tgt ls rest)) (kf : x = -1 → W p l e R s m args below meth c H locs cells slots Q (F0 m (pc + 3) ls rest)) : W p l e R s m args below meth c H locs cells slots Q (F0 m pc ls (grf a x :: rest)) := by
  by_cases h : x = -1
  · rw [grf_0 h]
    exact lv_ifnonnullN hexec hb hdg (kf h)
  · rw [grf_nn h]
    exact lv_ifnonnull hexec hb hdg ht (kt h)
theorem gx_aload_nO (hexec : p.tables.exec = Jvm.exec) (hb : c.code = cc) {k : Fin 4} {i : Nat} (hdg : decode cc pc = .ok (.aload_n k, 1)) (hi : (k : Nat) = i) (hl : ls[i]? = some (.val (grf a x))) (kk : W p l e R s m args below meth c H locs cells slots Q (F0 m (pc + 1) ls (grf a x :: rest))) : W p l e R s m args below meth c H locs cells slots Q (F0 m pc ls rest) := by
  by_cases h : x = -1
  · rw [grf_0 h] at hl kk
    exact lv_aload_nN hexec hb hdg hi hl kk
  · rw [grf_nn h] at hl kk
    exact lv_aload_n hexec hb hdg hi hl kk
theorem gx_aloadO (hexec : p.tables.exec = Jvm.exec) (hb : c.code = cc) {i : Nat} (hdg : decode cc pc = .ok (.aload i, 2)) (hl : ls[i]? = some (.val (grf a x))) (kk : W p l e R s m args below meth c H locs cells slots Q (F0 m (pc + 2) ls (grf a x :: rest))) : W p l e R s m args below meth c H locs cells slots Q (F0 m pc ls rest) := by
  by_cases h : x = -1
  · rw [grf_0 h] at hl kk
    exact lv_aloadN hexec hb hdg hl kk
  · rw [grf_nn h] at hl kk
    exact lv_aload hexec hb hdg hl kk
theorem gx_astore_nO (hexec : p.tables.exec = Jvm.exec) (hb : c.code = cc) {k : Fin 4} {i nL : Nat} {lv lv' : List (Nat × Value)} (hdg : decode cc pc = .ok (.astore_n k, 1)) (hi : (k : Nat) = i) (h : lv_has ls nL lv) (hn : i < nL) (hl : (i, grf a x) :: lv.filter (fun q => !(q.1 == i) && !(q.1 + 1 == i && q.2.category == 2)) = lv') (kk : ∀ ls' : Array Slot, lv_has ls' nL lv' → W p l e R s m args below meth c H locs cells slots Q (F0 m (pc + 1) ls' rest)) : W p l e R s m args below meth c H locs cells slots Q (F0 m pc ls (grf a x :: rest)) := by
  by_cases z : x = -1
  · rw [grf_0 z] at hl ⊢
    exact lv_astore_nN hexec hb hdg hi h hn hl kk
  · rw [grf_nn z] at hl ⊢
    exact lv_astore_n hexec hb hdg hi h hn hl kk
theorem gx_astoreO (hexec : p.tables.exec = Jvm.exec) (hb : c.code = cc) {i nL : Nat} {lv lv' : List (Nat × Value)} (hdg : decode cc pc = .ok (.astore i, 2)) (h : lv_has ls nL lv) (hn : i < nL) (hl : (i, grf a x) :: lv.filter (fun q => !(q.1 == i) && !(q.1 + 1 == i && q.2.category == 2)) = lv') (kk : ∀ ls' : Array Slot, lv_has ls' nL lv' → W p l e R s m args below meth c H locs cells slots Q (F0 m (pc + 2) ls' rest)) : W p l e R s m args below meth c H locs cells slots Q (F0 m pc ls (grf a x :: rest)) := by
  by_cases z : x = -1
  · rw [grf_0 z] at hl ⊢
    exact lv_astoreN hexec hb hdg h hn hl kk
  · rw [grf_nn z] at hl ⊢
    exact lv_astore hexec hb hdg h hn hl kk
end GNUL
theorem grf_cat (a : Nat → Nat) (x : Int32) : (grf a x).category = 1 := by
  rcases grf_or a x with h | ⟨q, h⟩ <;> rw [h] <;> rfl
theorem sw_out4 {x : Int32} (h0 : ¬ x = 0) (h1 : ¬ x = 1) (h2 : ¬ x = 2) (h3 : ¬ x = 3) : x.toInt < 0 ∨ 3 < x.toInt := by
  rcases Int.lt_or_le x.toInt 0 with z | z
  · exact Or.inl z
  · rcases Int.lt_or_le 3 x.toInt with y | y
    · exact Or.inr y
    · exfalso
      have e : x.toInt = (0 : Int32).toInt ∨ x.toInt = (1 : Int32).toInt ∨ x.toInt = (2 : Int32).toInt ∨ x.toInt = (3 : Int32).toInt := by
        rw [show (0 : Int32).toInt = 0 from rfl, show (1 : Int32).toInt = 1 from rfl, show (2 : Int32).toInt = 2 from rfl, show (3 : Int32).toInt = 3 from rfl]
        omega
      rcases e with e | e | e | e
      · exact h0 (Int32.toInt_inj.mp e)
      · exact h1 (Int32.toInt_inj.mp e)
      · exact h2 (Int32.toInt_inj.mp e)
      · exact h3 (Int32.toInt_inj.mp e)
theorem grf_nar {C : String} (a : Nat → Nat) (x : Int32) : narrow (.object C) (grf a x) = grf a x := by
  rcases grf_or a x with h | ⟨q, h⟩ <;> rw [h] <;> rfl
theorem grf_fit {C : String} (a : Nat → Nat) (x : Int32) : fits (.object C) (grf a x) = true := by
  rcases grf_or a x with h | ⟨q, h⟩ <;> rw [h] <;> rfl
theorem tick_n {n : Int32} (h1 : ¬ n < 1) (h2 : n ≤ 300) : n = nI (ix n) ∧ ix n ≤ 300 := by
  obtain ⟨j, hj, e⟩ := nI_of2 (M := 300) (n := 300) (x := n) rfl (fun z => h1 (Int32.lt_of_lt_of_le z (by decide))) h2
  subst e
  rw [ix_nI (by omega)]
  exact ⟨rfl, hj⟩
