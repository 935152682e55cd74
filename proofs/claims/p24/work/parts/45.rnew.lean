/-! tables made with their rows -/
def gMn (g : gG) (K q n L : Nat) : gG := (g.1, g.2.1, g.2.2.1, (fun k i => if k = K ∧ i = 0 then q else if k = K + 6 then q + 1 + i else gad g k i), (fun k => if k = K then 1 else if k = K + 6 then n else gcn g k), (fun k i => if k = K then n else if k = K + 6 then L else gln g k i))
def gMs (σ : Mem) (K n : Nat) : Mem := fun k i f => if k = K ∧ i = 0 then (if f < n then nI f else -1) else if k = K + 6 then 0 else σ k i f
theorem gMn_ad {g : gG} {K q n L k i : Nat} : gad (gMn g K q n L) k i = if k = K ∧ i = 0 then q else if k = K + 6 then q + 1 + i else gad g k i := rfl
theorem gMn_cn {g : gG} {K q n L k : Nat} : gcn (gMn g K q n L) k = if k = K then 1 else if k = K + 6 then n else gcn g k := rfl
theorem gMn_ln {g : gG} {K q n L k i : Nat} : gln (gMn g K q n L) k i = if k = K then n else if k = K + 6 then L else gln g k i := rfl
theorem gMs_app {σ : Mem} {K n k i f : Nat} : gMs σ K n k i f = if k = K ∧ i = 0 then (if f < n then nI f else -1) else if k = K + 6 then 0 else σ k i f := rfl
theorem GW.mna {g : gG} {σ : Mem} {w : Int64} {H H1 : Heap} {K q n L : Nat} (h : GW g σ w H) (h9 : 9 ≤ K) (h14 : K ≤ 14) (hq : H.size ≤ q) (hN : gN0 g ≤ q) (hs : ∀ a : Nat, a < H.size → H1[a]? = H[a]?) (c0 : gcn g K = 0) (c6 : gcn g (K + 6) = 0) (hn : n < 1000)
    (ho : H1[q]? = some (arrV (gca g K) n (fun j => if j < n then .ref (q + 1 + j) else .null))) (hr : ∀ j : Nat, j < n → H1[q + 1 + j]? = some (arrV (gca g (K + 6)) L (fun _ => .int 0))) : GW (gMn g K q n L) (gMs σ K n) w H1 := by
  obtain ⟨⟨tg, ht⟩, h2, h3, h4⟩ := h
  have hob : gob K = false ∧ gob (K + 6) = false := by rcases r_K h9 h14 with rfl | rfl | rfl | rfl | rfl | rfl <;> exact ⟨rfl, rfl⟩
  have hgt : (∀ f, gtg K f = K + 6 + 4) ∧ ∀ f, gtg (K + 6) f = 0 := by rcases r_K h9 h14 with rfl | rfl | rfl | rfl | rfl | rfl <;> exact ⟨fun _ => rfl, fun _ => rfl⟩
  have hin : ∀ k i, i < gcn (gMn g K q n L) k → (k = K ∧ i = 0) ∨ (k = K + 6 ∧ i < n) ∨ (i < gcn g k ∧ k ≠ K ∧ k ≠ K + 6) := by
    intro k i hi
    rw [gMn_cn] at hi
    by_cases e1 : k = K
    · rw [if_pos e1] at hi
      exact Or.inl ⟨e1, by omega⟩
    · rw [if_neg e1] at hi
      by_cases e2 : k = K + 6
      · rw [if_pos e2] at hi
        exact Or.inr (Or.inl ⟨e2, hi⟩)
      · rw [if_neg e2] at hi
        exact Or.inr (Or.inr ⟨hi, e1, e2⟩)
  have hold : ∀ k i, k ≠ K → k ≠ K + 6 → gad (gMn g K q n L) k i = gad g k i := fun k i a b => by rw [gMn_ad, if_neg (fun z => a z.1), if_neg b]
  have hle : ∀ k, gcn g k ≤ gcn (gMn g K q n L) k := fun k => by
    rw [gMn_cn]
    split
    · next e => rw [e, c0]; omega
    · split
      · next e => rw [e, c6]; omega
      · exact Nat.le_refl _
  have hlt : ∀ k i, i < gcn g k → gad g k i < H.size := fun k i hi => (h2 k i hi).2.lt
  have hro : ∀ i, gad (gMn g K q n L) (K + 6) i = q + 1 + i := fun i => by rw [gMn_ad, if_neg (fun z => by omega), if_pos rfl]
  refine ⟨⟨fun a => if a = q then (K, 0) else if q < a then (K + 6, a - q - 1) else tg a, fun k i hi => ?_⟩, fun k i hi => ?_, fun k i f hi => ?_, fun k => ?_⟩
  · rcases hin k i hi with ⟨rfl, rfl⟩ | ⟨rfl, hi'⟩ | ⟨hi', n1, n2⟩
    · rw [gMn_ad, if_pos ⟨rfl, rfl⟩]
      exact if_pos rfl
    · rw [hro]
      show (if q + 1 + i = q then (K, 0) else if q < q + 1 + i then (K + 6, q + 1 + i - q - 1) else tg (q + 1 + i)) = (K + 6, i)
      rw [if_neg (by omega), if_pos (by omega), show q + 1 + i - q - 1 = i by omega]
    · have h7 := hlt k i hi'
      rw [hold k i n1 n2, ← ht k i hi']
      show (if gad g k i = q then (K, 0) else if q < gad g k i then (K + 6, gad g k i - q - 1) else tg (gad g k i)) = tg (gad g k i)
      rw [if_neg (by omega), if_neg (by omega)]
  · rcases hin k i hi with ⟨rfl, rfl⟩ | ⟨rfl, hi'⟩ | ⟨hi', n1, n2⟩
    · refine ⟨by rw [gMn_ad, if_pos ⟨rfl, rfl⟩]; exact hN, gCell.of_ar hob.1 ?_⟩
      rw [gMn_ad, if_pos ⟨rfl, rfl⟩, gMn_ln, if_pos rfl]
      refine ho.trans (congrArg some ?_)
      show arrV (gca g k) n _ = arrV (gca g k) n _
      refine congrArg (arrV (gca g k) n) (funext fun j => ?_)
      unfold gv
      rw [hgt.1, gMs_app, if_pos (show k = k ∧ 0 = 0 from ⟨rfl, rfl⟩)]
      show _ = grf (gad (gMn g k q n L) (k + 6)) _
      by_cases hj : j < n
      · rw [if_pos hj, if_pos hj, grf_nI (by omega), hro]
      · rw [if_neg hj, if_neg hj]
        exact grf_m1.symm
    · refine ⟨by rw [hro]; show gN0 g ≤ _; omega, gCell.of_ar hob.2 ?_⟩
      rw [hro, gMn_ln, if_neg (by omega), if_pos rfl]
      refine (hr i hi').trans (congrArg some ?_)
      show arrV (gca g (K + 6)) L _ = arrV (gca g (K + 6)) L _
      refine congrArg (arrV (gca g (K + 6)) L) (funext fun j => ?_)
      unfold gv
      rw [hgt.2, gMs_app, if_neg (fun z => by omega), if_pos rfl]
      rfl
    · have e : (fun f => gv (gMn g K q n L) w k f (gMs σ K n k i f)) = (fun f => gv g w k f (σ k i f)) := by
        funext f
        rw [gMs_app, if_neg (fun z => n1 z.1), if_neg n2]
        exact gvc_same (h3 k i f hi') h4 (fun a b hb => hold a b (by rintro rfl; omega) (by rintro rfl; omega)) (fun _ => hold 4 0 (by omega) (by omega)) (fun _ => hold 5 0 (by omega) (by omega))
      rw [e]
      refine ⟨by rw [hold k i n1 n2]; exact (h2 k i hi').1, ?_⟩
      have h7 := (h2 k i hi').2.kept (hs _ (hlt k i hi'))
      unfold gCell at h7 ⊢
      rw [hold k i n1 n2, gMn_ln, if_neg n1, if_neg n2]
      exact h7
  · rcases hin k i hi with ⟨rfl, rfl⟩ | ⟨rfl, hi'⟩ | ⟨hi', n1, n2⟩
    · unfold gok
      rw [hgt.1, gMs_app, if_pos ⟨rfl, rfl⟩]
      show _ = -1 ∨ ∃ j, j < gcn (gMn g k q n L) (k + 6) ∧ _ = nI j
      by_cases hj : f < n
      · rw [if_pos hj]
        exact Or.inr ⟨f, by rw [gMn_cn, if_neg (by omega), if_pos rfl]; exact hj, rfl⟩
      · rw [if_neg hj]
        exact Or.inl rfl
    · unfold gok
      rw [hgt.2]
      trivial
    · rw [gMs_app, if_neg (fun z => n1 z.1), if_neg n2]
      exact gokc_le hle (h3 k i f hi')
  · rw [gMn_cn]
    split
    · decide
    · split
      · omega
      · exact h4 k
theorem gx_outer (c : ClassId) (N h0 : Nat) : ∀ i : Nat, Jvm.Free.Multi.outerC c N h0 i = arrV c N (fun j => if j < i then .ref (h0 + 1 + j) else .null)
  | 0 => by
    show ({ cls := c, slots := Array.replicate N .null, vm := .none } : Cell) = _
    rw [arrV_new]
    refine congrArg (arrV c N) (funext fun j => ?_)
    rw [if_neg (Nat.not_lt_zero _)]
  | i + 1 => by
    show (Jvm.Free.Multi.outerC c N h0 i).setSlot i (.ref (h0 + 1 + i)) = _
    rw [gx_outer c N h0 i, arrV_store]
    refine congrArg (arrV c N) (funext fun j => ?_)
    unfold updV
    by_cases e : j = i
    · subst e
      rw [if_pos rfl, if_pos (Nat.lt_succ_self _)]
    · rw [if_neg e]
      by_cases h : j < i
      · simp only [if_pos h, if_pos (show j < i + 1 by omega)]
      · simp only [if_neg h, if_neg (show ¬ j < i + 1 by omega)]
section GMNA
variable {p : Program} {l : Launch} {e : Env} {R : Room} {s : State} {m : MethodId} {args : Array Value} {below : List Frame} {meth : Method} {c : Code} {H : Heap} {locs : List Loc} {cells slots : Nat} {Q : State → Prop}
variable {cc : ByteArray} {pc : Nat} {ls : Array Slot} {rest : List Value} {g : gG} {σ : Mem} {w : Int64}
/-- 'new T[N][L]': a table and its rows -/
theorem gx_mna (hexec : p.tables.exec = Jvm.exec) (hb : c.code = cc) {own : String} {index : Nat} {ty : FieldType} (hown : s.vm.findClass own = some m.cls) (hclink : (Cond.classLink own index ("[" ++ (FieldType.array ty).toString)).before args s = true) (hover : gAOA ty s) (harr : (Cond.arrayClass ty).before args s = true)
    (hZ : ZZ g s) (hG : GW g σ w H) (hS : va_S (gA g) s.heap H locs) (K N L : Nat) (h9 : 9 ≤ K) (h14 : K ≤ 14) (hco : s.vm.findClass ("[" ++ (FieldType.array ty).toString) = some (gca g K)) (hci : s.vm.findClass (FieldType.array ty).toString = some (gca g (K + 6))) (c0 : gcn g K = 0) (c6 : gcn g (K + 6) = 0)
    {n k : Int32} (hn : n = nI N) (hk : k = nI L) (hN : N < 1000) (hL : L < 1000) (hdv : defaultValue ty = .int 0) (hfit : fits ty (defaultValue ty) = true) (hdd : (defaultValue ty).isDefault = true) (hcb : L * componentBytes ty ≤ 536870912) (hcells : cells + (1 + N) ≤ R.cells) (hslots : slots + (N + N * L) ≤ R.slots) (hdg : decode cc pc = .ok (.multianewarray index 2, 4))
    (kk : ∀ (q : Nat) (H1 : Heap), GW (gMn g K q N L) (gMs σ K N) w H1 → va_S (gA g) s.heap H1 locs → H.size ≤ H1.size →
      W p l e R s m args below meth c H1 locs (cells + 1 + N) (slots + N + N * L) Q (F0 m (pc + 4) ls (.ref q :: rest))) : W p l e R s m args below meth c H locs cells slots Q (F0 m pc ls (.int k :: .int n :: rest)) := by
  subst hn
  subst hk
  have eN : (nI N).toNatClampNeg = N := nI_clamp (by omega)
  have eL : (nI L).toNatClampNeg = L := nI_clamp (by omega)
  have hgN : gN0 g ≤ H.size := Nat.le_trans hZ.2.2.2.2.2.2.2.2.2.2.2.2.2.1 hS.1
  intro T hT Xs
  obtain ⟨vm₁, cA, comp, -, fA, fC, -, -, X', step⟩ := Xs.multianewarray2F hexec hown hclink hover.use harr (g := F0 m pc ls (.int (nI L) :: .int (nI N) :: rest)) rfl (by rw [hb]; exact hdg) rfl (nI_pos (by omega)) (nI_pos (by omega)) (by rw [eN]; omega) (by rw [eL]; exact hcb) (by rw [eL]; omega) hfit hdd (by rw [eN]; exact hcells) (by rw [eN, eL]; exact hslots)
  have ea : cA = gca g K := Option.some.inj (fA.symm.trans hco)
  have ec : comp = gca g (K + 6) := Option.some.inj (fC.symm.trans hci)
  subst ea
  subst ec
  rw [eN, eL] at X' step
  obtain ⟨F, hF⟩ : ∃ z : State, z = Jvm.Free.Multi.fill (T.setVm vm₁) (gca g K) (gca g (K + 6)) N L (defaultValue ty) N := ⟨_, rfl⟩
  rw [← hF] at X' step
  have hTh : (T.setVm vm₁).heap = H := hT
  obtain ⟨f1, f2, -, -⟩ := Jvm.Free.Multi.fill_facts (T.setVm vm₁) (gca g K) (gca g (K + 6)) N L (defaultValue ty) N
  rw [← hF, hTh] at f1 f2
  have hold : ∀ x : Nat, x < H.size → F.heap[x]? = H[x]? := fun x hx => by
    have h7 := Jvm.Free.Multi.fill_old (T.setVm vm₁) (gca g K) (gca g (K + 6)) N L (defaultValue ty) (a := x) (by rw [hTh]; exact hx) N
    rw [← hF, hTh] at h7
    exact h7
  have hrow : ∀ j : Nat, j < N → F.heap[H.size + 1 + j]? = some (arrV (gca g (K + 6)) L (fun _ => .int 0)) := fun j hj => by
    have h7 := Jvm.Free.Multi.fill_inner (T.setVm vm₁) (gca g K) (gca g (K + 6)) N L (defaultValue ty) N j hj
    rw [← hF, hTh, hdv] at h7
    rw [h7]
    show some ({ cls := gca g (K + 6), slots := Array.replicate L (.int 0), vm := .none } : Cell) = _
    rw [arrV_new]
  rw [gx_outer] at f2
  obtain ⟨t, a1, b1⟩ := kk H.size F.heap (hG.mna h9 h14 (Nat.le_refl _) hgN hold c0 c6 hN f2 hrow) ⟨by rw [f1]; have := hS.1; omega, fun x h1 h2 => (hold x (Nat.lt_of_lt_of_le h1 hS.1)).trans (hS.2.1 x h1 h2), hS.2.2⟩ (by rw [f1]; omega) F rfl X'
  refine ⟨t, step t ?_, b1⟩
  have e : T.heap.size = H.size := by rw [hT]
  rw [e]
  exact a1
/-- 'new int[N][]' -/
theorem gx_newT (hexec : p.tables.exec = Jvm.exec) (hb : c.code = cc) {own : String} {index : Nat} (hown : s.vm.findClass own = some m.cls) (hclink : (Cond.classLink own index (FieldType.array .int).toString).before args s = true) (hZ : ZZ g s) (hG : GW g σ w H) (hS : va_S (gA g) s.heap H locs) (k N : Nat) (hk : k = 10 ∨ k = 11) (hc31 : gcn g k + 1 < 2 ^ 31)
    {n : Int32} (hn : n = nI N) (hN : N * 4 ≤ 536870912) (hcells : cells + 1 ≤ R.cells) (hslots : slots + N ≤ R.slots) (hdg : decode cc pc = .ok (.anewarray index, 3))
    (kk : ∀ (q : Nat) (H1 : Heap), GW (gAdd g k q N) (gFre σ k (gcn g k)) w H1 → va_S (gA g) s.heap H1 locs → H.size ≤ H1.size →
      W p l e R s m args below meth c H1 locs (cells + 1) (slots + N) Q (F0 m (pc + 3) ls (.ref q :: rest))) : W p l e R s m args below meth c H locs cells slots Q (F0 m pc ls (.int n :: rest)) := by
  subst hn
  have hcl : (nI N).toNatClampNeg = N := nI_clamp (by omega)
  have hgN : gN0 g ≤ H.size := Nat.le_trans hZ.2.2.2.2.2.2.2.2.2.2.2.2.2.1 hS.1
  refine W.anewA hexec hb hown hclink hZ.2.2.2.2.2.2.2.2.2.2.2.2.2.2.1.use rfl hdg rfl (nI_pos (by omega)) (by rw [hcl]; exact hN) hcells (by rw [hcl]; exact hslots) fun cA kA comp f1 f2 f3 f4 => ?_
  rw [hcl]
  have hcA : cA = gIA g := Option.some.inj (f1.symm.trans (gx_KIA hZ).2)
  subst hcA
  generalize hH1 : H.push ({ cls := gIA g, slots := Array.replicate N .null, vm := .none } : Cell) = H1
  have z1 : H1.size = H.size + 1 := by rw [← hH1, Array.size_push]
  have e1 : H1[H.size]? = some (arrV (gIA g) N (fun _ => .null)) := by rw [← hH1, Array.getElem?_push_size, ← arrV_new]
  have o1 : ∀ q : Nat, q < H.size → H1[q]? = H[q]? := fun q hq => by rw [← hH1, Array.getElem?_push, if_neg (Nat.ne_of_lt hq)]
  refine kk H.size H1 (hG.add (Nat.le_refl _) hgN o1 ?_ ?_ hc31 (gCell.of_ar ?_ ?_)) ⟨Nat.le_trans hS.1 (by omega), fun x h1 h2 => (o1 x (Nat.lt_of_lt_of_le h1 hS.1)).trans (hS.2.1 x h1 h2), hS.2.2⟩ (by omega)
  · rcases hk with rfl | rfl <;> decide
  · rcases hk with rfl | rfl <;> decide
  · rcases hk with rfl | rfl <;> rfl
  · rw [gAdd_ad, if_pos ⟨rfl, rfl⟩, gAdd_ln, if_pos ⟨rfl, rfl⟩]
    rcases hk with rfl | rfl
    · refine e1.trans (congrArg some ?_)
      show arrV (gIA g) N _ = arrV (gIA g) N _
      exact congrArg (arrV (gIA g) N) (funext fun j => (grf_m1 (a := gad (gAdd g 10 (Array.size H) N) 16)).symm)
    · refine e1.trans (congrArg some ?_)
      show arrV (gIA g) N _ = arrV (gIA g) N _
      exact congrArg (arrV (gIA g) N) (funext fun j => (grf_m1 (a := gad (gAdd g 11 (Array.size H) N) 17)).symm)
end GMNA
/-- a new Rank's world -/
def gNew (g g' : gG) : Prop := (g'.1 = g.1 ∧ g'.2.1 = g.2.1 ∧ g'.2.2.1 = g.2.2.1) ∧ ∀ k, k ≤ 8 ∨ 21 ≤ k → gad g' k = gad g k ∧ gcn g' k = gcn g k ∧ gln g' k = gln g k
theorem gNew.rf (g : gG) : gNew g g := ⟨⟨rfl, rfl, rfl⟩, fun _ _ => ⟨rfl, rfl, rfl⟩⟩
theorem gNew.mn {g g' : gG} {K q n L : Nat} (h : gNew g g') (h9 : 9 ≤ K) (h14 : K ≤ 14) : gNew g (gMn g' K q n L) := by
  refine ⟨h.1, fun k hk => ⟨?_, ?_, ?_⟩⟩
  · rw [← (h.2 k hk).1]; funext i; rw [gMn_ad, if_neg (fun z => by omega), if_neg (by omega)]
  · rw [← (h.2 k hk).2.1, gMn_cn, if_neg (by omega), if_neg (by omega)]
  · rw [← (h.2 k hk).2.2]; funext i; rw [gMn_ln, if_neg (by omega), if_neg (by omega)]
theorem gNew.add {g g' : gG} {K q n : Nat} (h : gNew g g') (h9 : 9 ≤ K) (h14 : K ≤ 14) : gNew g (gAdd g' K q n) := by
  refine ⟨h.1, fun k hk => ⟨?_, ?_, ?_⟩⟩
  · rw [← (h.2 k hk).1]; funext i; rw [gAdd_ad, if_neg (fun z => by omega)]
  · rw [← (h.2 k hk).2.1, gAdd_cn, if_neg (by omega)]
  · rw [← (h.2 k hk).2.2]; funext i; rw [gAdd_ln, if_neg (fun z => by omega)]
def rWv (a b : Nat) : Int32 := if a = b then 5 else 10
theorem t_aI : (FieldType.array .int).toString = "[" ++ FieldType.int.toString := by decide +kernel
theorem t_aB : (FieldType.array .boolean).toString = "[" ++ FieldType.boolean.toString := by decide +kernel
theorem t_aI1 : (FieldType.array .int).toString = "[I" := by decide +kernel
theorem t_aaI : "[" ++ (FieldType.array .int).toString = "[[I" := by decide +kernel
theorem t_aaB : "[" ++ (FieldType.array .boolean).toString = "[[Z" := by decide +kernel
