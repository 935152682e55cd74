theorem gx_asg (vm : Vm) (c : ClassId) : vm.assignable c c = true := by
  show vm.assignableAux (255 + 1) c c = true
  unfold Vm.assignableAux
  rw [beq_self_eq_true, Bool.true_or]
section GARR
variable {p : Program} {l : Launch} {e : Env} {R : Room} {s : State} {m : MethodId} {args : Array Value} {below : List Frame} {meth : Method} {c : Code} {H : Heap} {locs : List Loc} {cells slots : Nat} {Q : State → Prop}
variable {cc : ByteArray} {pc : Nat} {ls : Array Slot} {rest : List Value} {g : gG} {σ : Mem} {w : Int64}
theorem gx_KI (hZ : ZZ g s) : ArrOfT s (gI g) .int ∧ va_RA s (gI g) .int := hZ.1.2 0 (gI g, .int) rfl
theorem gx_KO (hZ : ZZ g s) : ArrOfT s (gO g) (.object "java/lang/Object") ∧ va_RA s (gO g) (.object "java/lang/Object") := hZ.1.2 1 (gO g, .object "java/lang/Object") rfl
theorem gx_KIA (hZ : ZZ g s) : ArrOfT s (gIA g) (.array .int) ∧ va_RA s (gIA g) (.array .int) := hZ.1.2 2 (gIA g, .array .int) rfl
theorem gx_KBo (hZ : ZZ g s) : ArrOfT s (gBo g) .boolean ∧ va_RA s (gBo g) .boolean := hZ.1.2 3 (gBo g, .boolean) rfl
theorem gx_KBA (hZ : ZZ g s) : ArrOfT s (gBA g) (.array .boolean) ∧ va_RA s (gBA g) (.array .boolean) := hZ.1.2 4 (gBA g, .array .boolean) rfl
theorem vp_in_ix {i : Int32} {n : Nat} (h : vp_in i n) : ix i < n := Nat.not_le.mp fun q => h (Or.inr q)
theorem gx_ald (hexec : p.tables.exec = Jvm.exec) (hb : c.code = cc) (hZ : ZZ g s) (hG : GW g σ w H) (k i : Nat) {j : Int32} (hi : i < gcn g k) (hk : gob k = false) (hI : gca g k = gI g) (hin : vp_in j (gln g k i)) {v : Value} (hv : gv g w k (ix j) (σ k i (ix j)) = v) (hdg : decode cc pc = .ok (.iaload, 1))
    (kk : W p l e R s m args below meth c H locs cells slots Q (F0 m (pc + 1) ls (v :: rest))) : W p l e R s m args below meth c H locs cells slots Q (F0 m pc ls (.int j :: .ref (gad g k i) :: rest)) := by
  have h1 := (hG.2.1 k i hi).2.ar hk
  rw [hI] at h1
  exact W.iald (v := v) hexec hb h1 ((gx_KI hZ).1 _ _) (fun q => by cases q) (by rw [arrV_size]; exact hin) (by rw [show j.toNatClampNeg = ix j from rfl, arrV_read _ _ (vp_in_ix hin)]; exact congrArg some hv) rfl rfl hdg kk
theorem gx_aald (hexec : p.tables.exec = Jvm.exec) (hb : c.code = cc) (hZ : ZZ g s) (hG : GW g σ w H) (k i : Nat) {j : Int32} (hi : i < gcn g k) (hk : gob k = false) (hI : gca g k = gO g) (hin : vp_in j (gln g k i)) {v : Value} (hv : gv g w k (ix j) (σ k i (ix j)) = v) (hdg : decode cc pc = .ok (.aaload, 1))
    (kk : W p l e R s m args below meth c H locs cells slots Q (F0 m (pc + 1) ls (v :: rest))) : W p l e R s m args below meth c H locs cells slots Q (F0 m pc ls (.int j :: .ref (gad g k i) :: rest)) := by
  have h1 := (hG.2.1 k i hi).2.ar hk
  rw [hI] at h1
  exact W.aald (v := v) (ty := .object "java/lang/Object") hexec hb h1 ((gx_KO hZ).1 _ _) rfl (fun q => by cases q) (by rw [arrV_size]; exact hin) (by rw [show j.toNatClampNeg = ix j from rfl, arrV_read _ _ (vp_in_ix hin)]; exact congrArg some hv) rfl rfl hdg kk
theorem gx_len (hexec : p.tables.exec = Jvm.exec) (hb : c.code = cc) (hZ : ZZ g s) (hG : GW g σ w H) (k i : Nat) (hi : i < gcn g k) (hk : gob k = false) {ty : FieldType} (hI : ArrOfT s (gca g k) ty) {v : Int32} (hn : Int32.ofNat (gln g k i) = v) (hdg : decode cc pc = .ok (.arraylength, 1))
    (kk : W p l e R s m args below meth c H locs cells slots Q (F0 m (pc + 1) ls (.int v :: rest))) : W p l e R s m args below meth c H locs cells slots Q (F0 m pc ls (.ref (gad g k i) :: rest)) := by
  have h1 := (hG.2.1 k i hi).2.ar hk
  subst hn
  exact W.alen (n := Int32.ofNat (gln g k i)) hexec hb h1 (hI _ _) (by rw [arrV_size] <;> rfl) rfl rfl hdg kk
theorem gx_ast (hexec : p.tables.exec = Jvm.exec) (hb : c.code = cc) (hZ : ZZ g s) (hG : GW g σ w H) (hS0 : va_S (gA g) s.heap H locs) (k i : Nat) {j x : Int32} (hi : i < gcn g k) (hk : gob k = false) (hI : gca g k = gI g) (hin : vp_in j (gln g k i)) (hv : gv g w k (ix j) x = .int x) (hok : gok g k (ix j) x) (hdg : decode cc pc = .ok (.iastore, 1))
    (kk : ∀ (H1 : Heap) (locs1 : List Loc), GW g (gst σ k i (ix j) x) w H1 → va_S (gA g) s.heap H1 locs1 → W p l e R s m args below meth c H1 locs1 cells slots Q (F0 m (pc + 1) ls rest)) : W p l e R s m args below meth c H locs cells slots Q (F0 m pc ls (.int x :: .int j :: .ref (gad g k i) :: rest)) := by
  have h1 := (hG.2.1 k i hi).2.ar hk
  rw [hI] at h1
  refine W.iast hexec hb h1 ((gx_KI hZ).1 _ _) (fun q => by cases q) (by rw [arrV_size]; exact hin) rfl rfl hdg fun H1 e2 z oq => ?_
  refine kk H1 _ (hG.put hi hok (gCell.of_ar hk ?_) oq) (hS0.put z oq (hG.2.1 k i hi).1)
  rw [e2, arrV_store, hI, hv]
  rfl
/-- a table's row: tables of int[] or boolean[] -/
theorem gx_tald (hexec : p.tables.exec = Jvm.exec) (hb : c.code = cc) (hZ : ZZ g s) (hG : GW g σ w H) (k i : Nat) {j : Int32} {ty : FieldType} (hi : i < gcn g k) (hk : gob k = false) (hI : ArrOfT s (gca g k) ty) (hty : ty.isReference = true) (hin : vp_in j (gln g k i)) {v : Value} (hv : gv g w k (ix j) (σ k i (ix j)) = v) (hdg : decode cc pc = .ok (.aaload, 1))
    (kk : W p l e R s m args below meth c H locs cells slots Q (F0 m (pc + 1) ls (v :: rest))) : W p l e R s m args below meth c H locs cells slots Q (F0 m pc ls (.int j :: .ref (gad g k i) :: rest)) := by
  have h1 := (hG.2.1 k i hi).2.ar hk
  exact W.aald (v := v) (ty := ty) hexec hb h1 (hI _ _) hty (fun q => by cases q) (by rw [arrV_size]; exact hin) (by rw [show j.toNatClampNeg = ix j from rfl, arrV_read _ _ (vp_in_ix hin)]; exact congrArg some hv) rfl rfl hdg kk
theorem gx_zald (hexec : p.tables.exec = Jvm.exec) (hb : c.code = cc) (hZ : ZZ g s) (hG : GW g σ w H) (k i : Nat) {j : Int32} (hi : i < gcn g k) (hk : gob k = false) (hI : gca g k = gBo g) (hin : vp_in j (gln g k i)) {v : Value} (hv : gv g w k (ix j) (σ k i (ix j)) = v) (hdg : decode cc pc = .ok (.baload, 1))
    (kk : W p l e R s m args below meth c H locs cells slots Q (F0 m (pc + 1) ls (v :: rest))) : W p l e R s m args below meth c H locs cells slots Q (F0 m pc ls (.int j :: .ref (gad g k i) :: rest)) := by
  have h1 := (hG.2.1 k i hi).2.ar hk
  rw [hI] at h1
  exact W.zald (v := v) hexec hb h1 ((gx_KBo hZ).1 _ _) (fun q => by cases q) (by rw [arrV_size]; exact hin) (by rw [show j.toNatClampNeg = ix j from rfl, arrV_read _ _ (vp_in_ix hin)]; exact congrArg some hv) rfl rfl hdg kk
theorem gx_zast (hexec : p.tables.exec = Jvm.exec) (hb : c.code = cc) (hZ : ZZ g s) (hG : GW g σ w H) (hS0 : va_S (gA g) s.heap H locs) (k i : Nat) {j x : Int32} (hi : i < gcn g k) (hk : gob k = false) (hI : gca g k = gBo g) (hin : vp_in j (gln g k i)) (hn : narrow .boolean (.int x) = .int x) (hv : gv g w k (ix j) x = .int x) (hok : gok g k (ix j) x) (hdg : decode cc pc = .ok (.bastore, 1))
    (kk : ∀ (H1 : Heap) (locs1 : List Loc), GW g (gst σ k i (ix j) x) w H1 → va_S (gA g) s.heap H1 locs1 → W p l e R s m args below meth c H1 locs1 cells slots Q (F0 m (pc + 1) ls rest)) : W p l e R s m args below meth c H locs cells slots Q (F0 m pc ls (.int x :: .int j :: .ref (gad g k i) :: rest)) := by
  have h1 := (hG.2.1 k i hi).2.ar hk
  rw [hI] at h1
  refine W.zast hexec hb h1 ((gx_KBo hZ).1 _ _) (fun q => by cases q) (by rw [arrV_size]; exact hin) rfl rfl hdg fun H1 e2 z oq => ?_
  refine kk H1 _ (hG.put hi hok (gCell.of_ar hk ?_) oq) (hS0.put z oq (hG.2.1 k i hi).1)
  rw [e2, arrV_store, hI, hv, hn]
  rfl
/-- an int[] goes into a table -/
theorem gx_tast (hexec : p.tables.exec = Jvm.exec) (hb : c.code = cc) (hZ : ZZ g s) (hG : GW g σ w H) (hS0 : va_S (gA g) s.heap H locs) (k i kt it : Nat) {j x : Int32} (hi : i < gcn g k) (hk : gob k = false) (hI : gca g k = gIA g) (hit : it < gcn g kt) (hkt : gob kt = false) (hca : gca g kt = gI g) (hin : vp_in j (gln g k i)) (hv : gv g w k (ix j) x = .ref (gad g kt it)) (hok : gok g k (ix j) x) (hdg : decode cc pc = .ok (.aastore, 1))
    (kk : ∀ (H1 : Heap) (locs1 : List Loc), GW g (gst σ k i (ix j) x) w H1 → va_S (gA g) s.heap H1 locs1 → W p l e R s m args below meth c H1 locs1 cells slots Q (F0 m (pc + 1) ls rest)) : W p l e R s m args below meth c H locs cells slots Q (F0 m pc ls (.ref (gad g kt it) :: .int j :: .ref (gad g k i) :: rest)) := by
  have h1 := (hG.2.1 k i hi).2.ar hk
  rw [hI] at h1
  have h2 := (hG.2.1 kt it hit).2.ar hkt
  rw [hca] at h2
  have h0 : ¬ j < 0 := fun q => hin (Or.inl q)
  obtain ⟨comp, cA, kA, hcomp, hidx, hkA, hkindA, hnameA⟩ := arrayOverA_spec (hZ.2.2.2.2.2.2.2.2.2.2.2.2.2.2.1)
  have hcA : cA = gIA g := by
    have h3 : s.vm.findClass ("[" ++ (FieldType.array .int).toString) = some (gIA g) := (gx_KIA hZ).2
    exact Option.some.inj (hnameA.symm.trans h3)
  have hcI : comp = gI g := by
    have h3 : s.vm.findClass ("[" ++ FieldType.int.toString) = some (gI g) := (gx_KI hZ).2
    have h4 : (FieldType.array .int).toString = "[" ++ FieldType.int.toString := by decide +kernel
    rw [h4] at hcomp
    exact Option.some.inj (hcomp.symm.trans h3)
  subst hcA
  subst hcI
  obtain ⟨kE, hkE, -⟩ := Vm.findClass_spec hcomp
  refine W.aast hexec hb h1 (fun q h => by cases h) (fun h => by cases h) hkA hkindA rfl hkE ⟨h0, by rw [arrV_size]; exact vp_in_ix hin⟩ h2 (fun q h => by cases h) hkE (gx_asg s.vm (gI g)) rfl rfl hdg fun H1 e2 z oq => ?_
  refine kk H1 _ (hG.put hi hok (gCell.of_ar hk ?_) oq) (hS0.put z oq (hG.2.1 k i hi).1)
  rw [e2, arrV_store, hI, hv]
  rfl
theorem gx_aast (hexec : p.tables.exec = Jvm.exec) (hb : c.code = cc) (hZ : ZZ g s) (hG : GW g σ w H) (hS0 : va_S (gA g) s.heap H locs) (k i kt it : Nat) {j x : Int32} (hi : i < gcn g k) (hk : gob k = false) (hI : gca g k = gO g) (hit : it < gcn g kt) (hkt : gob kt = true) (hca : (gC kt, "java/lang/Object") ∈ gCasts) (hin : vp_in j (gln g k i)) (hv : gv g w k (ix j) x = .ref (gad g kt it)) (hok : gok g k (ix j) x) (hdg : decode cc pc = .ok (.aastore, 1))
    (kk : ∀ (H1 : Heap) (locs1 : List Loc), GW g (gst σ k i (ix j) x) w H1 → va_S (gA g) s.heap H1 locs1 → W p l e R s m args below meth c H1 locs1 cells slots Q (F0 m (pc + 1) ls rest)) : W p l e R s m args below meth c H locs cells slots Q (F0 m pc ls (.ref (gad g kt it) :: .int j :: .ref (gad g k i) :: rest)) := by
  have h1 := (hG.2.1 k i hi).2.ar hk
  rw [hI] at h1
  have h0 : ¬ j < 0 := fun q => hin (Or.inl q)
  obtain ⟨cellV, g1, g2, g3, -⟩ := (hG.2.1 kt it hit).2.ob hkt
  have hcls := (hZ.1.1 (gci kt) _ (gcl_at kt hkt)).2
  obtain ⟨kA, comp, k1, k2, k3, -⟩ := (gx_KO hZ).2
  obtain ⟨kE, hkE, -⟩ := Vm.findClass_spec k3
  obtain ⟨c0, t1, f1, f2, f3⟩ := Cond.castable_spec (va_Nw.use (A := args) rfl (hZ.2.2.2.2.2.1 _ hca))
  cases hcls.1.symm.trans f1
  cases k3.symm.trans f2
  obtain ⟨kC, hkC, -⟩ := hcls.2
  refine W.aast hexec hb h1 (fun q h => by cases h) (fun h => by cases h) k1 k2 rfl hkE ⟨h0, by rw [arrV_size]; exact vp_in_ix hin⟩ g1 (fun q h => by rw [g3] at h; cases h) (by rw [g2]; exact hkC) (by rw [g2]; exact f3) rfl rfl hdg fun H1 e2 z oq => ?_
  refine kk H1 _ (hG.put hi hok (gCell.of_ar hk ?_) oq) (hS0.put z oq (hG.2.1 k i hi).1)
  rw [e2, arrV_store, hI, hv]
  rfl
theorem gx_obj (hZ : ZZ g s) (hG : GW g σ w H) (k i : Nat) (hi : i < gcn g k) (hk : gob k = true) : ∃ cell : Cell, H[gad g k i]? = some cell ∧ cell.vm.isStatics = false ∧ s.vm.findClass (gC k) = some cell.cls := by
  obtain ⟨cell, q1, q2, q3, -⟩ := (hG.2.1 k i hi).2.ob hk
  exact ⟨cell, q1, by rw [q3]; rfl, by rw [q2]; exact (hZ.1.1 (gci k) _ (gcl_at k hk)).2.1⟩
theorem gx_cast (hexec : p.tables.exec = Jvm.exec) (hb : c.code = cc) {own : String} {index : Nat} (hown : s.vm.findClass own = some m.cls) (hZ : ZZ g s) (hG : GW g σ w H) (k i : Nat) (hi : i < gcn g k) (hk : gob k = true) (hlink : (Cond.classLink own index (gC k)).before args s = true) (hdg : decode cc pc = .ok (.checkcast index, 3))
    (kk : W p l e R s m args below meth c H locs cells slots Q (F0 m (pc + 3) ls (.ref (gad g k i) :: rest))) : W p l e R s m args below meth c H locs cells slots Q (F0 m pc ls (.ref (gad g k i) :: rest)) :=
  va_castS hexec hb hown hlink (hZ.1.1 (gci k) _ (gcl_at k hk)).2 (gx_obj hZ hG k i hi hk) hdg kk
end GARR
section GCALL
variable {p : Program} {l : Launch} {e : Env} {R : Room} {s : State} {m : MethodId} {args : Array Value} {below : List Frame} {meth : Method} {c : Code} {H : Heap} {locs : List Loc} {cells slots : Nat} {Q : State → Prop}
variable {Qc : Array Value → State → Outcome → State → Prop} {XC : String → State → State → Prop} {free : Addr → Prop}
variable {cc : ByteArray} {pc : Nat} {ls : Array Slot} {rest st0 As : List Value} {g g' : gG} {σ σ' : Mem} {w w' : Int64} {b : Addr} {y : MethodName} {bytes : ByteArray} {maxL nL mc ms n index : Nat} {ret : Option FieldType} {ws Ts : List Cond} {rm : Room} {own C : String}
theorem gx_pre (hZ : ZZ g s) (hG : GW g σ w H) (hS : va_S (gA g) s.heap H locs) (av : List Value) : ∀ U : State, U.heap = H → s.WarmedH U.vm → gPc g σ w av av.toArray U := fun U hU hW => ⟨rfl, by rw [hU]; exact hG, hZ.to hS hU hW⟩
theorem gx_cR {v : Value} {a : Array Value} (hr : va_Run p l e R s m args below meth c H locs cells slots 0 0 (F0 m pc ls st0) rest (gR v a) (fun _ => False))
    (kk : W p l e R s m args below meth c H locs cells slots Q (F0 m (pc + 3) ls (v :: rest))) : W p l e R s m args below meth c H locs cells slots Q (F0 m pc ls st0) := by
  intro T hT X
  obtain ⟨v9, st₀, t, T', L, h0, X', hL, e1, e2, ⟨hv, hh⟩, st⟩ := hr T hT X
  cases hv
  obtain ⟨t2, a1, b1⟩ := kk T' (by rw [e1, hh, h0]) (Stand.forget X' (fun q h => (hL q h).elim))
  exact ⟨t2, st t2 a1, b1⟩
theorem gx_cM {v : Option Value} {a : Array Value} (hr : va_Run p l e R s m args below meth c H locs cells slots mc ms (F0 m pc ls st0) rest (gM g g' σ' w' v a) (gA g)) (hS : va_S (gA g) s.heap H locs)
    (kk : ∀ (H1 : Heap) (locs1 : List Loc), GW g' σ' w' H1 → va_S (gA g) s.heap H1 locs1 → H.size ≤ H1.size → W p l e R s m args below meth c H1 locs1 (cells + mc) (slots + ms) Q (F0 m (pc + 3) ls (v.toList ++ rest))) : W p l e R s m args below meth c H locs cells slots Q (F0 m pc ls st0) := by
  intro T hT X
  obtain ⟨v9, st₀, t, T', L, h0, X', hL, e1, e2, ⟨hv, hG1, hF⟩, st⟩ := hr T hT X
  cases hv
  obtain ⟨k1, k2, k3⟩ := vx_keep h0 e1 hS (A1 := gA g) (free := gA g) (fun _ _ h => h) (fun _ h => h) hL hF
  obtain ⟨t2, a1, b1⟩ := kk T'.heap (locs ++ L) (by rw [e1]; exact hG1) k3 k1 T' rfl X'
  exact ⟨t2, st t2 a1, b1⟩
theorem gx_runV (S : CallFix p m c cc nL s args Ts own) (hM : Met l y ws rm (gPc g σ w (.ref b :: As)) Qc mc ms free) (cw : CallW R s args own C index y bytes maxL ret ws rm mc ms n) (hrv : ∃ cellB : Cell, H[b]? = some cellB ∧ cellB.vm.isStatics = false ∧ s.vm.findClass C = some cellB.cls) (hZ : ZZ g s) (hG : GW g σ w H) (hS : va_S (gA g) s.heap H locs)
    (hn : As.length = n) (hsize : ls.size = nL) (hst : st0 = As.reverse ++ .ref b :: rest) (hW : (rest.map fun v => v.category).sum ≤ 8) (hdg : decode cc pc = .ok (.invokevirtual index, 3)) (hf : cells + mc ≤ R.cells ∧ slots + ms ≤ R.slots) :
    va_Run p l e R s m args below meth c H locs cells slots mc ms (F0 m pc ls st0) rest (Qc (Value.ref b :: As).toArray) free :=
  va_runV S hM cw ⟨gPc.blind, hrv, gx_pre hZ hG hS (.ref b :: As)⟩ rfl hn hsize hst (lv_room hW) hdg hf
theorem gx_runS (S : CallFix p m c cc nL s args Ts own) (hM : Met l y ws rm (gPc g σ w As) Qc mc ms free) (cw : CallB R s args own index y bytes maxL ret ws rm mc ms n ∧ (Cond.static y).before args s = true) (hZ : ZZ g s) (hG : GW g σ w H) (hS : va_S (gA g) s.heap H locs)
    (hn : As.length = n) (hsize : ls.size = nL) (hst : st0 = As.reverse ++ rest) (hW : (rest.map fun v => v.category).sum ≤ 8) (hdg : decode cc pc = .ok (.invokestatic index, 3)) (hf : cells + mc ≤ R.cells ∧ slots + ms ≤ R.slots) :
    va_Run p l e R s m args below meth c H locs cells slots mc ms (F0 m pc ls st0) rest (Qc As.toArray) free :=
  va_runS S hM cw ⟨gPc.blind, gx_pre hZ hG hS As⟩ rfl hn hsize hst (lv_room hW) hdg hf
theorem gx_runI (S : CallFix p m c cc nL s args Ts own) (hM : Met l y ws rm (gPc g σ w (.ref b :: As)) Qc mc ms free) (cw : CallB R s args own index y bytes maxL none ws rm mc ms n ∧ y.name = "<init>" ∧ (Cond.instanceMethod y).before args s = true) (hZ : ZZ g s) (hG : GW g σ w H) (hS : va_S (gA g) s.heap H locs)
    (hn : As.length = n) (hsize : ls.size = nL) (hst : st0 = As.reverse ++ .ref b :: rest) (hW : (rest.map fun v => v.category).sum ≤ 8) (hdg : decode cc pc = .ok (.invokespecial index, 3)) (hf : cells + mc ≤ R.cells ∧ slots + ms ≤ R.slots) :
    va_Run p l e R s m args below meth c H locs cells slots mc ms (F0 m pc ls st0) rest (Qc (Value.ref b :: As).toArray) free :=
  va_runI S hM cw ⟨gPc.blind, gx_pre hZ hG hS (.ref b :: As)⟩ rfl hn hsize hst (lv_room hW) hdg hf
/-! calls that may throw -/
/-- thrown: a class for which P holds; every old cell as before -/
def gX (P : String → Prop) : String → State → State → Prop := fun E st t => P E ∧ st.heap.size ≤ t.heap.size ∧ ∀ q : Nat, q < st.heap.size → t.heap[q]? = st.heap[q]?
/-- the answer v, if D -/
def gRx (v : Value) (D : Prop) : Array Value → State → Outcome → State → Prop := fun _ st o t => o = .returned (some v) ∧ t.heap = st.heap ∧ D
def gVx (D : Prop) : Array Value → State → Outcome → State → Prop := fun _ st o t => o = .returned none ∧ t.heap = st.heap ∧ D
def gMx (g g' : gG) (σ' : Mem) (w' : Int64) (v : Option Value) (D : Prop) : Array Value → State → Outcome → State → Prop := fun _ st o t => o = .returned v ∧ GW g' σ' w' t.heap ∧ va_F (gA g) st t ∧ D
theorem gx_xrunV (S : CallFix p m c cc nL s args Ts own) (hM : vx_Met l y ws rm (gPc g σ w (.ref b :: As)) Qc XC mc ms free) (cw : CallW R s args own C index y bytes maxL ret ws rm mc ms n) (hrv : ∃ cellB : Cell, H[b]? = some cellB ∧ cellB.vm.isStatics = false ∧ s.vm.findClass C = some cellB.cls) (hZ : ZZ g s) (hG : GW g σ w H) (hS : va_S (gA g) s.heap H locs)
    (hn : As.length = n) (hsize : ls.size = nL) (hst : st0 = As.reverse ++ .ref b :: rest) (hW : (rest.map fun v => v.category).sum ≤ 8) (hdg : decode cc pc = .ok (.invokevirtual index, 3)) (hf : cells + mc ≤ R.cells ∧ slots + ms ≤ R.slots) :
    vx_Run p l e R s m args below meth c H locs cells slots mc ms (F0 m pc ls st0) rest (Qc (Value.ref b :: As).toArray) XC free :=
  vx_runV S hM cw ⟨gPc.blind, hrv, gx_pre hZ hG hS (.ref b :: As)⟩ rfl hn hsize hst (lv_room hW) hdg hf
theorem gx_xrunS (S : CallFix p m c cc nL s args Ts own) (hM : vx_Met l y ws rm (gPc g σ w As) Qc XC mc ms free) (cw : CallB R s args own index y bytes maxL ret ws rm mc ms n ∧ (Cond.static y).before args s = true) (hZ : ZZ g s) (hG : GW g σ w H) (hS : va_S (gA g) s.heap H locs)
    (hn : As.length = n) (hsize : ls.size = nL) (hst : st0 = As.reverse ++ rest) (hW : (rest.map fun v => v.category).sum ≤ 8) (hdg : decode cc pc = .ok (.invokestatic index, 3)) (hf : cells + mc ≤ R.cells ∧ slots + ms ≤ R.slots) :
    vx_Run p l e R s m args below meth c H locs cells slots mc ms (F0 m pc ls st0) rest (Qc As.toArray) XC free :=
  vx_runS S hM cw ⟨gPc.blind, gx_pre hZ hG hS As⟩ rfl hn hsize hst (lv_room hW) hdg hf
/-- behind such a call: read only -/
theorem gx_cRx {v : Value} {D : Prop} {P : String → Prop} {a : Array Value} (hr : vx_Run p l e R s m args below meth c H locs cells slots mc ms (F0 m pc ls st0) rest (gRx v D a) (gX P) (fun _ => False)) (hG : GW g σ w H) (hS : va_S (gA g) s.heap H locs)
    (kx : ∀ (E : String) (ce : Cell) (q9 : Addr) (H1 : Heap), P E → GW g σ w H1 → va_S (gA g) s.heap H1 locs → H.size ≤ H1.size → (∀ q : Nat, q < H.size → H1[q]? = H[q]?) → H1[q9]? = some ce → ce.vm = .none → s.vm.findClass E = some ce.cls → vx_W p l e R s m args below meth c H1 locs (cells + mc) (slots + ms) Q (F0 m pc ls rest) q9)
    (kk : D → W p l e R s m args below meth c H locs (cells + mc) (slots + ms) Q (F0 m (pc + 3) ls (v :: rest))) : W p l e R s m args below meth c H locs cells slots Q (F0 m pc ls st0) := by
  intro T hT X
  rcases hr T hT X with ⟨v9, st₀, t, T', L, h0, X', hL, e1, e2, ⟨hv, hh, hD⟩, st⟩ | ⟨q, st₀, t, T', L, E, ce, h0, X', hL, e1, e2, ⟨hP, hz, hk⟩, hce, hcv, hcl, st⟩
  · cases hv
    obtain ⟨t2, a1, b1⟩ := kk hD T' (by rw [e1, hh, h0]) (Stand.forget X' (fun q h => (hL q h).elim))
    exact ⟨t2, st t2 a1, b1⟩
  · rw [h0] at hz hk
    have hk' : ∀ q : Nat, q < H.size → T'.heap[q]? = H[q]? := by rw [e1]; exact hk
    have hz' : H.size ≤ T'.heap.size := by rw [e1]; exact hz
    obtain ⟨t2, a1, b1⟩ := kx E ce q T'.heap hP (hG.kept hk') ⟨Nat.le_trans hS.1 hz', fun q h1 h2 => by rw [hk' q (Nat.lt_of_lt_of_le h1 hS.1)]; exact hS.2.1 q h1 h2, hS.2.2⟩ hz' hk' (by rw [e1]; exact hce) hcv hcl T' rfl (Stand.forget X' (fun q h => (hL q h).elim))
    exact ⟨t2, st.trans a1, b1⟩
theorem gx_cVx {D : Prop} {P : String → Prop} {a : Array Value} (hr : vx_Run p l e R s m args below meth c H locs cells slots mc ms (F0 m pc ls st0) rest (gVx D a) (gX P) (fun _ => False)) (hG : GW g σ w H) (hS : va_S (gA g) s.heap H locs)
    (kx : ∀ (E : String) (ce : Cell) (q9 : Addr) (H1 : Heap), P E → GW g σ w H1 → va_S (gA g) s.heap H1 locs → H.size ≤ H1.size → (∀ q : Nat, q < H.size → H1[q]? = H[q]?) → H1[q9]? = some ce → ce.vm = .none → s.vm.findClass E = some ce.cls → vx_W p l e R s m args below meth c H1 locs (cells + mc) (slots + ms) Q (F0 m pc ls rest) q9)
    (kk : D → W p l e R s m args below meth c H locs (cells + mc) (slots + ms) Q (F0 m (pc + 3) ls rest)) : W p l e R s m args below meth c H locs cells slots Q (F0 m pc ls st0) := by
  intro T hT X
  rcases hr T hT X with ⟨v9, st₀, t, T', L, h0, X', hL, e1, e2, ⟨hv, hh, hD⟩, st⟩ | ⟨q, st₀, t, T', L, E, ce, h0, X', hL, e1, e2, ⟨hP, hz, hk⟩, hce, hcv, hcl, st⟩
  · cases hv
    obtain ⟨t2, a1, b1⟩ := kk hD T' (by rw [e1, hh, h0]) (Stand.forget X' (fun q h => (hL q h).elim))
    exact ⟨t2, st t2 a1, b1⟩
  · rw [h0] at hz hk
    have hk' : ∀ q : Nat, q < H.size → T'.heap[q]? = H[q]? := by rw [e1]; exact hk
    have hz' : H.size ≤ T'.heap.size := by rw [e1]; exact hz
    obtain ⟨t2, a1, b1⟩ := kx E ce q T'.heap hP (hG.kept hk') ⟨Nat.le_trans hS.1 hz', fun q h1 h2 => by rw [hk' q (Nat.lt_of_lt_of_le h1 hS.1)]; exact hS.2.1 q h1 h2, hS.2.2⟩ hz' hk' (by rw [e1]; exact hce) hcv hcl T' rfl (Stand.forget X' (fun q h => (hL q h).elim))
    exact ⟨t2, st.trans a1, b1⟩
theorem gx_cMx {v : Option Value} {D : Prop} {P : String → Prop} {a : Array Value} (hr : vx_Run p l e R s m args below meth c H locs cells slots mc ms (F0 m pc ls st0) rest (gMx g g' σ' w' v D a) (gX P) (gA g)) (hG : GW g σ w H) (hS : va_S (gA g) s.heap H locs)
    (kx : ∀ (E : String) (ce : Cell) (q9 : Addr) (H1 : Heap) (locs1 : List Loc), P E → GW g σ w H1 → va_S (gA g) s.heap H1 locs1 → H.size ≤ H1.size → (∀ q : Nat, q < H.size → H1[q]? = H[q]?) → H1[q9]? = some ce → ce.vm = .none → s.vm.findClass E = some ce.cls → vx_W p l e R s m args below meth c H1 locs1 (cells + mc) (slots + ms) Q (F0 m pc ls rest) q9)
    (kk : ∀ (H1 : Heap) (locs1 : List Loc), D → GW g' σ' w' H1 → va_S (gA g) s.heap H1 locs1 → H.size ≤ H1.size → W p l e R s m args below meth c H1 locs1 (cells + mc) (slots + ms) Q (F0 m (pc + 3) ls (v.toList ++ rest))) : W p l e R s m args below meth c H locs cells slots Q (F0 m pc ls st0) := by
  intro T hT X
  rcases hr T hT X with ⟨v9, st₀, t, T', L, h0, X', hL, e1, e2, ⟨hv, hG1, hF, hD⟩, st⟩ | ⟨q, st₀, t, T', L, E, ce, h0, X', hL, e1, e2, ⟨hP, hz, hk⟩, hce, hcv, hcl, st⟩
  · cases hv
    obtain ⟨k1, k2, k3⟩ := vx_keep h0 e1 hS (A1 := gA g) (free := gA g) (fun _ _ h => h) (fun _ h => h) hL hF
    obtain ⟨t2, a1, b1⟩ := kk T'.heap (locs ++ L) hD (by rw [e1]; exact hG1) k3 k1 T' rfl X'
    exact ⟨t2, st t2 a1, b1⟩
  · rw [h0] at hz hk
    have hk' : ∀ q : Nat, q < H.size → T'.heap[q]? = H[q]? := by rw [e1]; exact hk
    have hz' : H.size ≤ T'.heap.size := by rw [e1]; exact hz
    obtain ⟨t2, a1, b1⟩ := kx E ce q T'.heap (locs ++ L) hP (hG.kept hk') ⟨Nat.le_trans hS.1 hz', fun q h1 h2 => by rw [hk' q (Nat.lt_of_lt_of_le h1 hS.1)]; exact hS.2.1 q h1 h2, fun q hq => (List.mem_append.mp hq).elim (fun h => hS.2.2 q h) (fun h => hL q h)⟩ hz' hk' (by rw [e1]; exact hce) hcv hcl T' rfl X'
    exact ⟨t2, st.trans a1, b1⟩
end GCALL
