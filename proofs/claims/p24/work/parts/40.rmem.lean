/-! the law's Rank: its memory -/
def inN (n : Nat) (x : Int32) : Prop := ∃ j, j < n ∧ x = nI j
def rLn : Nat → Nat
  | 15 => 6 | 16 => 5 | 17 => 10 | 18 => 11 | 19 => 10 | _ => 2
def rTl : Nat → Nat
  | 9 => 6 | 10 => 10 | 11 => 60 | 12 => 6 | 13 => 60 | _ => 10
def rTn (g : gG) : Nat → Nat
  | 9 => 6 | 10 => gcn g 16 | 11 => gcn g 17 | 12 => 6 | 13 => 60 | _ => 10
def RrG (g : gG) : Prop := (gcn g 8 = 1 ∧ (∀ K, 9 ≤ K → K ≤ 14 → gcn g K = 1 ∧ gln g K 0 = rTl K)) ∧ (gcn g 15 = 6 ∧ gcn g 16 ≤ 10 ∧ gcn g 17 ≤ 60 ∧ gcn g 18 = 6 ∧ gcn g 19 = 60 ∧ gcn g 20 = 10) ∧ (∀ K, 15 ≤ K → K ≤ 20 → ∀ i, i < gcn g K → gln g K i = rLn K)
def Rr (g : gG) (σ : Mem) : Prop := RrG g ∧ (∀ f, f < 6 → σ 8 0 f = 0) ∧ (∀ K, 9 ≤ K → K ≤ 14 → ∀ j, j < rTn g K → σ K 0 j = nI j) ∧ (σ 8 0 6 = nI (gcn g 16) ∧ σ 8 0 7 = nI (gcn g 17))
theorem inN.ix {n : Nat} {x : Int32} (h : inN n x) (hn : n ≤ 1000) : ix x < n ∧ x = nI (ix x) := by
  obtain ⟨j, hj, rfl⟩ := h
  rw [ix_nI (by omega)]
  exact ⟨hj, rfl⟩
section RR
variable {g : gG} {σ : Mem}
theorem Rr.k8 (h : Rr g σ) : 0 < gcn g 8 := by rw [h.1.1.1]; decide
theorem Rr.k1 (h : Rr g σ) (K : Nat) (h9 : 9 ≤ K) (h14 : K ≤ 14) : 0 < gcn g K := by rw [(h.1.1.2 K h9 h14).1]; decide
theorem Rr.tl (h : Rr g σ) (K : Nat) (h9 : 9 ≤ K) (h14 : K ≤ 14) : gln g K 0 = rTl K := (h.1.1.2 K h9 h14).2
theorem Rr.c10 (h : Rr g σ) : gcn g 16 ≤ 10 := h.1.2.1.2.1
theorem Rr.o60 (h : Rr g σ) : gcn g 17 ≤ 60 := h.1.2.1.2.2.1
theorem Rr.n15 (h : Rr g σ) : gcn g 15 = 6 := h.1.2.1.1
theorem Rr.n18 (h : Rr g σ) : gcn g 18 = 6 := h.1.2.1.2.2.2.1
theorem Rr.n19 (h : Rr g σ) : gcn g 19 = 60 := h.1.2.1.2.2.2.2.1
theorem Rr.n20 (h : Rr g σ) : gcn g 20 = 10 := h.1.2.1.2.2.2.2.2
theorem Rr.ln (h : Rr g σ) (K : Nat) (h15 : 15 ≤ K) (h20 : K ≤ 20) {i : Nat} (hi : i < gcn g K) : gln g K i = rLn K := h.1.2.2 K h15 h20 i hi
theorem Rr.rf (h : Rr g σ) {f : Nat} (hf : f < 6) : σ 8 0 f = 0 := h.2.1 f hf
theorem Rr.tb (h : Rr g σ) (K : Nat) (h9 : 9 ≤ K) (h14 : K ≤ 14) {j : Nat} (hj : j < rTn g K) : σ K 0 j = nI j := h.2.2.1 K h9 h14 j hj
theorem Rr.nm (h : Rr g σ) : σ 8 0 6 = nI (gcn g 16) := h.2.2.2.1
theorem Rr.na (h : Rr g σ) : σ 8 0 7 = nI (gcn g 17) := h.2.2.2.2
theorem r_K {K : Nat} (h9 : 9 ≤ K) (h14 : K ≤ 14) : K = 9 ∨ K = 10 ∨ K = 11 ∨ K = 12 ∨ K = 13 ∨ K = 14 := by omega
theorem Rr.rb (h : Rr g σ) (K : Nat) (h9 : 9 ≤ K) (h14 : K ≤ 14) {j : Nat} (hj : j < rTn g K) : j < gcn g (K + 6) := by
  have a1 := h.n15
  have a2 := h.n18
  have a3 := h.n19
  have a4 := h.n20
  rcases r_K h9 h14 with rfl | rfl | rfl | rfl | rfl | rfl <;> simp only [rTn, Nat.reduceAdd] at hj ⊢ <;> omega
theorem Rr.tn (h : Rr g σ) (K : Nat) (h9 : 9 ≤ K) (h14 : K ≤ 14) : rTn g K ≤ rTl K := by
  have a1 := h.c10
  have a2 := h.o60
  rcases r_K h9 h14 with rfl | rfl | rfl | rfl | rfl | rfl <;> simp only [rTn, rTl] <;> omega
theorem rTl_60 {K : Nat} : rTl K ≤ 60 := by
  unfold rTl
  split <;> decide
theorem Rr.st (h : Rr g σ) {k i f : Nat} {v : Int32} (hk : 15 ≤ k) : Rr g (gst σ k i f v) := by
  refine ⟨h.1, fun f hf => ?_, fun K h9 h14 j hj => ?_, ?_, ?_⟩
  · rw [gst_nk (by omega)]; exact h.rf hf
  · rw [gst_nk (by omega)]; exact h.tb K h9 h14 hj
  · rw [gst_nk (by omega)]; exact h.nm
  · rw [gst_nk (by omega)]; exact h.na
theorem Rr.st8 (h : Rr g σ) {f : Nat} {v : Int32} (hf8 : 8 ≤ f) : Rr g (gst σ 8 0 f v) := by
  refine ⟨h.1, fun f hf => ?_, fun K h9 h14 j hj => ?_, ?_, ?_⟩
  · rw [gst_nf (by omega)]; exact h.rf hf
  · rw [gst_nk (by omega)]; exact h.tb K h9 h14 hj
  · rw [gst_nf (by omega)]; exact h.nm
  · rw [gst_nf (by omega)]; exact h.na
theorem Rr.cong {σ' : Mem} (h : Rr g σ) (e8 : ∀ f, f < 8 → σ' 8 0 f = σ 8 0 f) (eK : ∀ K j, 9 ≤ K → K ≤ 14 → σ' K 0 j = σ K 0 j) : Rr g σ' :=
  ⟨h.1, fun f hf => (e8 f (by omega)).trans (h.rf hf), fun K h9 h14 j hj => (eK K j h9 h14).trans (h.tb K h9 h14 hj), (e8 6 (by decide)).trans h.nm, (e8 7 (by decide)).trans h.na⟩
end RR
theorem vp_inN {n N : Nat} (h : n < N) (h31 : n < 2 ^ 31) : vp_in (nI n) N := fun z => by
  rcases z with z | z
  · exact absurd z (nI_pos h31)
  · rw [nI_clamp h31] at z
    omega
theorem i_m1 (x : Int32) : x + Int32.ofInt (-1) = x - 1 := by
  rw [Int32.sub_eq_add_neg]
  rfl
theorem nI_pm {n : Nat} : nI (n + 1) - 1 = nI n := by
  have k := pk_sub (a := n + 1) (b := 1) (by omega)
  exact k
section RROW
variable {p : Program} {l : Launch} {e : Env} {R : Room} {s : State} {m : MethodId} {args : Array Value} {below : List Frame} {meth : Method} {c : Code} {H : Heap} {locs : List Loc} {cells slots : Nat} {Q : State → Prop}
variable {cc : ByteArray} {pc : Nat} {ls : Array Slot} {rest : List Value} {g : gG} {σ : Mem} {w : Int64}
/-- a table's row -/
theorem gx_rt (hexec : p.tables.exec = Jvm.exec) (hb : c.code = cc) (hZ : ZZ g s) (hG : GW g σ w H) (hR : Rr g σ) (K n : Nat) {j : Int32} (ej : j = nI n) (h9 : 9 ≤ K) (h14 : K ≤ 14) (hn : n < rTn g K) (hob : gob K = false) (hdg : decode cc pc = .ok (.aaload, 1))
    (kk : W p l e R s m args below meth c H locs cells slots Q (F0 m (pc + 1) ls (.ref (gad g (K + 6) n) :: rest))) : W p l e R s m args below meth c H locs cells slots Q (F0 m pc ls (.int j :: .ref (gad g K 0) :: rest)) := by
  subst ej
  have h1 := hR.tn K h9 h14
  have h2 := rTl_60 (K := K)
  have h31 : n < 2 ^ 31 := by omega
  have hin : vp_in (nI n) (gln g K 0) := vp_inN (by rw [hR.tl K h9 h14]; omega) h31
  have hty : ∃ ty, ArrOfT s (gca g K) ty ∧ FieldType.isReference ty = true := by
    rcases r_K h9 h14 with rfl | rfl | rfl | rfl | rfl | rfl
    · exact ⟨_, (gx_KIA hZ).1, rfl⟩
    · exact ⟨_, (gx_KIA hZ).1, rfl⟩
    · exact ⟨_, (gx_KIA hZ).1, rfl⟩
    · exact ⟨_, (gx_KIA hZ).1, rfl⟩
    · exact ⟨_, (gx_KBA hZ).1, rfl⟩
    · exact ⟨_, (gx_KIA hZ).1, rfl⟩
  have ht : ∀ j, gtg K j = K + 6 + 4 := fun j => by
    rcases r_K h9 h14 with rfl | rfl | rfl | rfl | rfl | rfl <;> rfl
  obtain ⟨ty, a, b⟩ := hty
  refine gx_tald hexec hb hZ hG K 0 (hR.k1 K h9 h14) hob a b hin (v := .ref (gad g (K + 6) n)) ?_ hdg kk
  unfold gv
  rw [ix_nI h31, hR.tb K h9 h14 hn, ht]
  show grf (gad g (K + 6)) (nI n) = _
  exact grf_nI h31
theorem gx_zaldN (hexec : p.tables.exec = Jvm.exec) (hb : c.code = cc) (hZ : ZZ g s) (hG : GW g σ w H) (k i n : Nat) {j : Int32} (ej : j = nI n) (hi : i < gcn g k) (hk : gob k = false) (hI : gca g k = gBo g) (hin : n < gln g k i ∧ n < 2 ^ 31) {v : Value} (hv : gv g w k n (σ k i n) = v) (hdg : decode cc pc = .ok (.baload, 1))
    (kk : W p l e R s m args below meth c H locs cells slots Q (F0 m (pc + 1) ls (v :: rest))) : W p l e R s m args below meth c H locs cells slots Q (F0 m pc ls (.int j :: .ref (gad g k i) :: rest)) := by
  subst ej
  have h31 := hin.2
  exact gx_zald hexec hb hZ hG k i hi hk hI (vp_inN hin.1 h31) (by rw [ix_nI h31]; exact hv) hdg kk
theorem gx_zastN (hexec : p.tables.exec = Jvm.exec) (hb : c.code = cc) (hZ : ZZ g s) (hG : GW g σ w H) (hS0 : va_S (gA g) s.heap H locs) (k i n : Nat) {j x : Int32} (ej : j = nI n) (hi : i < gcn g k) (hk : gob k = false) (hI : gca g k = gBo g) (hin : n < gln g k i ∧ n < 2 ^ 31) (hn : narrow .boolean (.int x) = .int x) (hv : gv g w k n x = .int x) (hok : gok g k n x) (hdg : decode cc pc = .ok (.bastore, 1))
    (kk : ∀ (H1 : Heap) (locs1 : List Loc), GW g (gst σ k i n x) w H1 → va_S (gA g) s.heap H1 locs1 → W p l e R s m args below meth c H1 locs1 cells slots Q (F0 m (pc + 1) ls rest)) : W p l e R s m args below meth c H locs cells slots Q (F0 m pc ls (.int x :: .int j :: .ref (gad g k i) :: rest)) := by
  subst ej
  have h31 := hin.2
  exact gx_zast hexec hb hZ hG hS0 k i hi hk hI (vp_inN hin.1 h31) hn (by rw [ix_nI h31]; exact hv) (by rw [ix_nI h31]; exact hok) hdg (fun H1 locs1 h1 h2 => kk H1 locs1 (by rw [ix_nI h31] at h1; exact h1) h2)
end RROW
/-! queues -/
def rQn (σ : Mem) (z : Nat) : Nat := ix (σ 18 z 0)
def rQw (m : Nat) (σ : Mem) (z : Nat) : Prop := σ 18 z 0 = nI (rQn σ z) ∧ rQn σ z ≤ 10 ∧ ∀ j, 1 ≤ j → j ≤ rQn σ z → inN m (σ 18 z j)
def rAtGo (σ : Mem) (z c : Nat) : Nat → Nat → Nat
  | 0, k => k
  | r + 1, k => if σ 18 z k = nI c then k else rAtGo σ z c r (k + 1)
def rAt (σ : Mem) (z c : Nat) : Nat := rAtGo σ z c (rQn σ z) 1
def rSh (z : Nat) : Nat → Nat → Mem → Mem
  | 0, _, σ => σ
  | r + 1, k, σ => rSh z r (k + 1) (gst σ 18 z k (σ 18 z (k + 1)))
def rLv (σ : Mem) (z c : Nat) : Mem := gst (rSh z (rQn σ z - rAt σ z c) (rAt σ z c) σ) 18 z 0 (nI (rQn σ z) - 1)
def rJoin (σ : Mem) (z c : Nat) : Mem := gst (gst σ 18 z 0 (nI (rQn σ z + 1))) 18 z (rQn σ z + 1) (nI c)
theorem rAtGo_cong {σ σ' : Mem} {z c : Nat} (h : ∀ j, σ' 18 z j = σ 18 z j) : ∀ r k, rAtGo σ' z c r k = rAtGo σ z c r k
  | 0, _ => rfl
  | r + 1, k => by rw [rAtGo, rAtGo, h, rAtGo_cong h r (k + 1)]
theorem rAt_cong {σ σ' : Mem} {z c : Nat} (h : ∀ j, σ' 18 z j = σ 18 z j) : rAt σ' z c = rAt σ z c := by
  have e : rQn σ' z = rQn σ z := by unfold rQn; rw [h]
  unfold rAt
  rw [e, rAtGo_cong h]
theorem Rr.sh {g : gG} {z : Nat} : ∀ (r k : Nat) {σ : Mem} (_ : Rr g σ), Rr g (rSh z r k σ)
  | 0, _, _, h => h
  | r + 1, k, _, h => Rr.sh r (k + 1) (h.st (by decide))
theorem Rr.lv {g : gG} {z c : Nat} {σ : Mem} (h : Rr g σ) : Rr g (rLv σ z c) := (Rr.sh _ _ h).st (by decide)
theorem Rr.join {g : gG} {z c : Nat} {σ : Mem} (h : Rr g σ) : Rr g (rJoin σ z c) := (h.st (by decide)).st (by decide)
theorem rSh_o {z : Nat} : ∀ (r k : Nat) {σ : Mem} {k' i' f' : Nat} (_ : ¬ (k' = 18 ∧ i' = z)), rSh z r k σ k' i' f' = σ k' i' f'
  | 0, _, _, _, _, _, _ => rfl
  | r + 1, k, σ, k', i', f', h => by
    rw [rSh, rSh_o r (k + 1) h, gst_app, if_neg (fun q => h ⟨q.1, q.2.1⟩)]
theorem rLv_o {z c : Nat} {σ : Mem} {k' i' f' : Nat} (h : ¬ (k' = 18 ∧ i' = z)) : rLv σ z c k' i' f' = σ k' i' f' := by
  unfold rLv
  rw [gst_app, if_neg (fun q => h ⟨q.1, q.2.1⟩), rSh_o _ _ h]
theorem rJoin_o {z c : Nat} {σ : Mem} {k' i' f' : Nat} (h : ¬ (k' = 18 ∧ i' = z)) : rJoin σ z c k' i' f' = σ k' i' f' := by
  unfold rJoin
  rw [gst_app, if_neg (fun q => h ⟨q.1, q.2.1⟩), gst_app, if_neg (fun q => h ⟨q.1, q.2.1⟩)]
theorem rSh_0 {z : Nat} : ∀ (r k : Nat) {σ : Mem} (_ : 1 ≤ k), rSh z r k σ 18 z 0 = σ 18 z 0
  | 0, _, _, _ => rfl
  | r + 1, k, σ, h => by
    rw [rSh, rSh_0 r (k + 1) (by omega), gst_nf (by omega)]
/-! who is chosen -/
def rFiGo (σ : Mem) (o z : Nat) : Nat → Nat → Int32
  | 0, _ => -1
  | r + 1, k => if 0 ≤ σ 16 (ix (σ 18 z k)) 3 then rFiGo σ o z r (k + 1) else if σ 16 (ix (σ 18 z k)) 0 < σ 17 o 2 then rFiGo σ o z r (k + 1) else if σ 19 o (ix (σ 18 z k)) = 0 then σ 18 z k else rFiGo σ o z r (k + 1)
def rFi (σ : Mem) (o z : Nat) : Int32 := rFiGo σ o z (rQn σ z) 1
def rChZ (σ : Mem) (o mi : Nat) : Nat → Nat → Int32 → Int32
  | 0, _, c => c
  | r + 1, z, c => if 0 ≤ c then c else if nI z = σ 17 o 0 then rChZ σ o mi r (z + 1) c else if σ 15 z (ix (σ 17 o 0)) = nI mi then rChZ σ o mi r (z + 1) (rFi σ o z) else rChZ σ o mi r (z + 1) c
def rChM (σ : Mem) (o : Nat) : Nat → Nat → Int32 → Int32
  | 0, _, c => c
  | r + 1, mi, c => if 0 ≤ c then c else rChM σ o r (mi + 1) (rChZ σ o mi 6 0 c)
def rCh (σ : Mem) (o : Nat) : Int32 := rChM σ o 120 1 (rFi σ o (ix (σ 17 o 0)))
def rBeGo (σ : Mem) : Nat → Int32 → Int32
  | 0, best => best
  | n + 1, best => if σ 17 n 4 = 0 then (if σ 8 0 8 < σ 17 n 3 - 15 then rBeGo σ n best else if rCh σ n < 0 then rBeGo σ n best else if best < 0 then rBeGo σ n (nI n) else if σ 17 (ix best) 3 < σ 17 n 3 then rBeGo σ n best else rBeGo σ n (nI n)) else rBeGo σ n best
def rBest (σ : Mem) : Int32 := rBeGo σ (ix (σ 8 0 7)) (-1)
def rOff1 (σ : Mem) : Mem := gst (gst (gst (gst σ 16 (ix (rCh σ (ix (rBest σ)))) 3 (rBest σ)) 16 (ix (rCh σ (ix (rBest σ)))) 4 (σ 8 0 8)) 17 (ix (rBest σ)) 4 1) 17 (ix (rBest σ)) 5 (rCh σ (ix (rBest σ)))
def rOffN : Nat → Mem → Mem
  | 0, σ => σ
  | n + 1, σ => rOff1 (rOffN n σ)
theorem Rr.off1 {g : gG} {σ : Mem} (h : Rr g σ) : Rr g (rOff1 σ) := (((h.st (by decide)).st (by decide)).st (by decide)).st (by decide)
theorem Rr.offN {g : gG} {σ : Mem} (h : Rr g σ) : ∀ n, Rr g (rOffN n σ)
  | 0 => h
  | n + 1 => (Rr.offN h n).off1
theorem m1_lt : (-1 : Int32) < 0 := by decide
theorem nI_0le {n : Nat} (h : n < 2 ^ 31) : (0 : Int32) ≤ nI n := nI_le (a := 0) (Nat.zero_le _) h
theorem i0_lt {x : Int32} : x < 0 ↔ ¬ 0 ≤ x := by rw [Int32.lt_iff_toInt_lt, Int32.le_iff_toInt_le]; omega
theorem rFiGo_ok {σ : Mem} {o z m : Nat} (h : ∀ j, 1 ≤ j → j ≤ rQn σ z → inN m (σ 18 z j)) : ∀ (r k : Nat), 1 ≤ k → k + r ≤ rQn σ z + 1 → rFiGo σ o z r k = -1 ∨ inN m (rFiGo σ o z r k)
  | 0, _, _, _ => Or.inl rfl
  | r + 1, k, h1, h2 => by
    have hn := rFiGo_ok (o := o) h r (k + 1) (by omega) (by omega)
    simp only [rFiGo]
    repeat' split
    all_goals first | exact hn | exact Or.inr (h k h1 (by omega))
theorem rFi_ok {σ : Mem} {o z m : Nat} (h : rQw m σ z) : rFi σ o z = -1 ∨ inN m (rFi σ o z) := rFiGo_ok h.2.2 _ 1 (Nat.le_refl _) (by omega)
theorem rChZ_ok {σ : Mem} {o mi m : Nat} (h : ∀ z, z < 6 → rQw m σ z) : ∀ (r z : Nat) (c : Int32), z + r ≤ 6 → (c = -1 ∨ inN m c) → (rChZ σ o mi r z c = -1 ∨ inN m (rChZ σ o mi r z c))
  | 0, _, _, _, hc => hc
  | r + 1, z, c, hz, hc => by
    simp only [rChZ]
    repeat' split
    all_goals first | exact hc | exact rChZ_ok h r (z + 1) c (by omega) hc | exact rChZ_ok h r (z + 1) _ (by omega) (rFi_ok (h z (by omega)))
theorem rChM_ok {σ : Mem} {o m : Nat} (h : ∀ z, z < 6 → rQw m σ z) : ∀ (r mi : Nat) (c : Int32), (c = -1 ∨ inN m c) → (rChM σ o r mi c = -1 ∨ inN m (rChM σ o r mi c))
  | 0, _, _, hc => hc
  | r + 1, mi, c, hc => by
    simp only [rChM]
    split
    · exact hc
    · exact rChM_ok h r (mi + 1) _ (rChZ_ok h 6 0 c (by decide) hc)
theorem rCh_ok {σ : Mem} {o m : Nat} (h : ∀ z, z < 6 → rQw m σ z) (ho : inN 6 (σ 17 o 0)) : rCh σ o = -1 ∨ inN m (rCh σ o) := rChM_ok h _ _ _ (rFi_ok (h _ (ho.ix (by decide)).1))
theorem rBeGo_ok {σ : Mem} : ∀ (n m : Nat) (best : Int32), n ≤ m → (best = -1 ∨ ∃ j, j < m ∧ best = nI j ∧ ¬ rCh σ j < 0 ∧ σ 17 j 4 = 0) → (rBeGo σ n best = -1 ∨ ∃ j, j < m ∧ rBeGo σ n best = nI j ∧ ¬ rCh σ j < 0 ∧ σ 17 j 4 = 0)
  | 0, _, _, _, h => h
  | n + 1, m, best, hm, h => by
    simp only [rBeGo]
    split
    · next h4 =>
      split
      · exact rBeGo_ok n m best (by omega) h
      · split
        · exact rBeGo_ok n m best (by omega) h
        · next hc =>
          have ht := rBeGo_ok n m (nI n) (by omega) (Or.inr ⟨n, by omega, rfl, hc, h4⟩)
          repeat' split
          all_goals first | exact ht | exact rBeGo_ok n m best (by omega) h
    · exact rBeGo_ok n m best (by omega) h
theorem rBest_ok {g : gG} {σ : Mem} (hR : Rr g σ) : rBest σ = -1 ∨ ∃ j, j < gcn g 17 ∧ rBest σ = nI j ∧ ¬ rCh σ j < 0 ∧ σ 17 j 4 = 0 := by
  have h60 := hR.o60
  unfold rBest
  rw [hR.na, ix_nI (by omega)]
  exact rBeGo_ok _ _ _ (Nat.le_refl _) (Or.inl rfl)
/-! what a Rank does -/
def rRfd (σ : Mem) (c : Nat) : Mem := gst (gst (gst (gst (gst σ 19 (ix (σ 16 c 3)) c 1) 17 (ix (σ 16 c 3)) 8 (σ 17 (ix (σ 16 c 3)) 8 + 1)) 17 (ix (σ 16 c 3)) 4 0) 17 (ix (σ 16 c 3)) 5 (-1)) 16 c 3 (-1)
def rBack (σ : Mem) (c : Nat) : Mem := rJoin (rLv σ (ix (σ 16 c 1)) c) (ix (σ 16 c 1)) c
def rAcc (σ : Mem) (c : Nat) : Mem := gst (gst (gst (rLv σ (ix (σ 16 c 1)) c) 16 c 2 2) 16 c 4 (σ 8 0 8 + σ 15 (ix (σ 16 c 1)) (ix (σ 17 (ix (σ 16 c 3)) 0)))) 17 (ix (σ 16 c 3)) 4 2
def rFree (σ : Mem) (c z : Nat) : Mem := rJoin (gst (gst (gst σ 16 c 2 1) 16 c 1 (nI z)) 16 c 3 (-1)) z c
def rCan1 (σ : Mem) (o : Nat) : Mem := if σ 17 o 4 = 1 then gst σ 16 (ix (σ 17 o 5)) 3 (-1) else σ
def rCan2 (σ : Mem) (o : Nat) : Mem := if σ 17 o 4 = 2 then rFree (rCan1 σ o) (ix (σ 17 o 5)) (ix (σ 16 (ix (σ 17 o 5)) 1)) else rCan1 σ o
def rCan (σ : Mem) (o : Nat) : Mem := gst (gst (rCan2 σ o) 17 o 4 5) 17 o 5 (-1)
def rAge1 (σ : Mem) (c : Nat) : Mem := if σ 16 c 2 = 1 then (if σ 16 c 3 < 0 then σ else if σ 16 c 4 + 2 ≤ σ 8 0 8 then rBack (rRfd σ c) c else σ) else σ
def rAgeN : Nat → Mem → Mem
  | 0, σ => σ
  | n + 1, σ => rAge1 (rAgeN n σ) n
def rDone (σ : Mem) (c o : Nat) : Mem := rFree (gst (gst (gst (gst σ 17 o 4 4) 17 o 7 (σ 8 0 8)) 20 c 0 (σ 20 c 0 + σ 17 o 9 * 80 / 100)) 20 c 1 (σ 20 c 1 + (σ 17 o 9 - σ 17 o 9 * 80 / 100))) c (ix (σ 17 o 1))
def rWy (σ : Mem) (o : Nat) : Int32 := σ 15 (ix (σ 17 o 0)) (ix (σ 17 o 1))
def rFare (σ : Mem) (o : Nat) : Int32 := σ 8 0 9 + σ 8 0 10 * rWy σ o - (if σ 8 0 8 - σ 17 o 3 ≤ 5 then σ 8 0 8 - σ 17 o 3 else 5) + (if 360 ≤ σ 8 0 8 - σ 8 0 8 / 1440 * 1440 then 0 else (σ 8 0 9 + σ 8 0 10 * rWy σ o) / 2)
def rRide (σ : Mem) (c o : Nat) : Mem := gst (gst (gst (gst (gst (gst σ 17 o 4 3) 17 o 6 (σ 8 0 8)) 17 o 9 (rFare σ o)) 16 c 2 3) 16 c 1 (σ 17 o 0)) 16 c 4 (σ 8 0 8 + rWy σ o)
def rRun1 (σ : Mem) (c : Nat) : Mem := if σ 16 c 2 < 2 then σ else if σ 16 c 4 ≤ σ 8 0 8 then (if σ 16 c 2 = 3 then rDone σ c (ix (σ 16 c 3)) else if σ 8 0 8 < σ 17 (ix (σ 16 c 3)) 3 then σ else rRide σ c (ix (σ 16 c 3))) else σ
def rRunD (σ : Mem) (c : Nat) : Int32 := if σ 16 c 2 < 2 then 0 else if σ 16 c 4 ≤ σ 8 0 8 then (if σ 16 c 2 = 3 then 1 else 0) else 0
def rRunN : Nat → Mem → Int32 × Mem
  | 0, σ => (0, σ)
  | n + 1, σ => ((rRunN n σ).1 + rRunD (rRunN n σ).2 n, rRun1 (rRunN n σ).2 n)
section RKEEP
variable {g : gG} {σ : Mem}
theorem Rr.rfd (h : Rr g σ) {c : Nat} : Rr g (rRfd σ c) := ((((h.st (by decide)).st (by decide)).st (by decide)).st (by decide)).st (by decide)
theorem Rr.back (h : Rr g σ) {c : Nat} : Rr g (rBack σ c) := h.lv.join
theorem Rr.acc (h : Rr g σ) {c : Nat} : Rr g (rAcc σ c) := ((h.lv.st (by decide)).st (by decide)).st (by decide)
theorem Rr.free (h : Rr g σ) {c z : Nat} : Rr g (rFree σ c z) := (((h.st (by decide)).st (by decide)).st (by decide)).join
theorem Rr.can1 (h : Rr g σ) {o : Nat} : Rr g (rCan1 σ o) := by
  unfold rCan1
  split
  · exact h.st (by decide)
  · exact h
theorem Rr.can2 (h : Rr g σ) {o : Nat} : Rr g (rCan2 σ o) := by
  unfold rCan2
  split
  · exact h.can1.free
  · exact h.can1
theorem Rr.can (h : Rr g σ) {o : Nat} : Rr g (rCan σ o) := (h.can2.st (by decide)).st (by decide)
theorem Rr.age1 (h : Rr g σ) {c : Nat} : Rr g (rAge1 σ c) := by
  unfold rAge1
  repeat' split
  all_goals first | exact h | exact h.rfd.back
theorem Rr.ageN (h : Rr g σ) : ∀ n, Rr g (rAgeN n σ)
  | 0 => h
  | n + 1 => (Rr.ageN h n).age1
theorem Rr.dn (h : Rr g σ) {c o : Nat} : Rr g (rDone σ c o) := ((((h.st (by decide)).st (by decide)).st (by decide)).st (by decide)).free
theorem Rr.ride (h : Rr g σ) {c o : Nat} : Rr g (rRide σ c o) := (((((h.st (by decide)).st (by decide)).st (by decide)).st (by decide)).st (by decide)).st (by decide)
theorem Rr.run1 (h : Rr g σ) {c : Nat} : Rr g (rRun1 σ c) := by
  unfold rRun1
  repeat' split
  all_goals first | exact h | exact h.dn | exact h.ride
theorem Rr.runN (h : Rr g σ) : ∀ n, Rr g (rRunN n σ).2
  | 0 => h
  | n + 1 => (Rr.runN h n).run1
end RKEEP
theorem rRunN_s {k : Nat} {dn : Int32} {σb X : Mem} (h : (dn, σb) = rRunN k X) : rRunN (k + 1) X = (dn + rRunD σb k, rRun1 σb k) := by
  rw [rRunN, ← h]
