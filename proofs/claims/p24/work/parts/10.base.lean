/-! a memory of numbers: kind, object, field -/
abbrev Mem : Type := Nat → Nat → Nat → Int32
def gst (σ : Mem) (k i f : Nat) (v : Int32) : Mem := fun k' i' f' => if k' = k ∧ i' = i ∧ f' = f then v else σ k' i' f'
theorem gst_app (σ : Mem) (k i f : Nat) (v : Int32) (k' i' f' : Nat) : gst σ k i f v k' i' f' = if k' = k ∧ i' = i ∧ f' = f then v else σ k' i' f' := rfl
theorem gst_eq (σ : Mem) (k i f : Nat) (v : Int32) : gst σ k i f v k i f = v := by simp [gst]
theorem gst_nk {σ : Mem} {k i f : Nat} {v : Int32} {k' i' f' : Nat} (h : k' ≠ k) : gst σ k i f v k' i' f' = σ k' i' f' := by simp [gst, h]
theorem gst_ni {σ : Mem} {k i f : Nat} {v : Int32} {k' i' f' : Nat} (h : i' ≠ i) : gst σ k i f v k' i' f' = σ k' i' f' := by simp [gst, h]
theorem gst_nf {σ : Mem} {k i f : Nat} {v : Int32} {k' i' f' : Nat} (h : f' ≠ f) : gst σ k i f v k' i' f' = σ k' i' f' := by simp [gst, h]
def ix (x : Int32) : Nat := x.toNatClampNeg
theorem ix_nI {n : Nat} (h : n < 2 ^ 31) : ix (nI n) = n := nI_clamp h
/-! the world's data: the classes' numbers; int[], Object[], int[][], boolean[], boolean[][]; the first address of ours, the empty list's array, its class object; addresses, counts, lengths -/
abbrev gG : Type := va_G × (ClassId × ClassId × ClassId × ClassId × ClassId) × (Nat × Nat × Nat) × (Nat → Nat → Nat) × (Nat → Nat) × (Nat → Nat → Nat)
def gD (g : gG) : va_G := g.1
def gI (g : gG) : ClassId := g.2.1.1
def gO (g : gG) : ClassId := g.2.1.2.1
def gIA (g : gG) : ClassId := g.2.1.2.2.1
def gBo (g : gG) : ClassId := g.2.1.2.2.2.1
def gBA (g : gG) : ClassId := g.2.1.2.2.2.2
def gN0 (g : gG) : Nat := g.2.2.1.1
def gem (g : gG) : Nat := g.2.2.1.2.1
def gmi (g : gG) : Nat := g.2.2.1.2.2
def gad (g : gG) : Nat → Nat → Nat := g.2.2.2.1
def gcn (g : gG) : Nat → Nat := g.2.2.2.2.1
def gln (g : gG) : Nat → Nat → Nat := g.2.2.2.2.2
def gA (g : gG) : Nat → Prop := fun q => gN0 g ≤ q
/-! kinds: 0 TaxiRank, 1 its int[], 2 3 its lists, 4 5 their rows, 6 Cab, 7 Order, 8 Rank, 9 .. 14 its tables (ways, cabs, orders, queues, refused, money), 15 .. 20 their rows, 21 22 the law's int[]s -/
def gob : Nat → Bool
  | 0 => true | 2 => true | 3 => true | 6 => true | 7 => true | 8 => true | _ => false
def gci : Nat → Nat
  | 0 => 3 | 2 => 0 | 3 => 0 | 6 => 1 | 7 => 2 | 8 => 4 | _ => 0
def gC : Nat → String
  | 0 => RX2 | 2 => RJx4a65c | 3 => RJx4a65c | 6 => RX0 | 7 => RX1 | 8 => RX3 | _ => RX2
def gT : Nat → u_T
  | 0 => TX2 | 2 => TJx4a65c | 3 => TJx4a65c | 6 => TX0 | 7 => TX1 | 8 => TX3 | _ => TX2
def gNf : Nat → Nat
  | 0 => 7 | 2 => 3 | 3 => 3 | 6 => 9 | 7 => 15 | 8 => 11 | _ => 0
def gTy : Nat → Nat → FieldType
  | 0 => tyX2 | 2 => tyJx4a65c | 3 => tyJx4a65c | 6 => tyX0 | 7 => tyX1 | 8 => tyX3 | _ => tyX2
theorem gob_c {P : Nat → Prop} (h0 : P 0) (h2 : P 2) (h3 : P 3) (h6 : P 6) (h7 : P 7) (h8 : P 8) : ∀ k, gob k = true → P k := by
  intro k hk
  match k, hk with
  | 0, _ => exact h0
  | 1, hk => exact absurd hk (by decide)
  | 2, _ => exact h2
  | 3, _ => exact h3
  | 4, hk => exact absurd hk (by decide)
  | 5, hk => exact absurd hk (by decide)
  | 6, _ => exact h6
  | 7, _ => exact h7
  | 8, _ => exact h8
  | n + 9, hk => exact absurd hk (by simp [gob])
theorem gcl_at : ∀ k, gob k = true → vwCl[gci k]? = some (gC k, gT k, gNf k) := gob_c rfl rfl rfl rfl rfl rfl
theorem gty_ok : ∀ k, gob k = true → ∀ j, j < gNf k → parseFieldDescriptor (gT k j).2.2.1 = some (gTy k j) := gob_c tyX2_ok tyJx4a65c_ok tyJx4a65c_ok tyX0_ok tyX1_ok tyX3_ok
theorem gnm_ok : ∀ k, gob k = true → ∀ a, a < gNf k → ∀ b, b < gNf k → a ≠ b → (gT k a).2.1 ≠ (gT k b).2.1 := gob_c nmX2 nmJx4a65c nmJx4a65c nmX0 nmX1 nmX3
/-- what a place holds: 0 a number, 1 the long, 2 3 a list's row, t + 4 a reference to an object of kind t -/
def gtg : Nat → Nat → Nat
  | 0, 0 => 5 | 0, 1 => 6 | 0, 2 => 7
  | 2, 1 => 2 | 3, 1 => 3
  | 4, _ => 10 | 5, _ => 11
  | 6, 6 => 11 | 7, 6 => 10
  | 8, 0 => 13 | 8, 1 => 14 | 8, 2 => 15 | 8, 3 => 16 | 8, 4 => 17 | 8, 5 => 18
  | 9, _ => 19 | 10, _ => 20 | 11, _ => 21 | 12, _ => 22 | 13, _ => 23 | 14, _ => 24
  | _, _ => 0
def grf (a : Nat → Nat) (x : Int32) : Value := if x = -1 then .null else .ref (a (ix x))
def gel (a em : Nat) (x : Int32) : Value := if x = -1 then .null else if x = 0 then .ref em else .ref a
def gvc (ad : Nat → Nat → Nat) (em : Nat) (w : Int64) (t : Nat) (x : Int32) : Value := match t with
  | 0 => .int x
  | 1 => .long w
  | 2 => gel (ad 4 0) em x
  | 3 => gel (ad 5 0) em x
  | t + 4 => grf (ad t) x
def gv (g : gG) (w : Int64) (k f : Nat) (x : Int32) : Value := gvc (gad g) (gem g) w (gtg k f) x
def gokc (cn : Nat → Nat) (t : Nat) (x : Int32) : Prop := match t with
  | 0 => True
  | 1 => True
  | 2 => x = -1 ∨ x = 0 ∨ (x = 1 ∧ 0 < cn 4)
  | 3 => x = -1 ∨ x = 0 ∨ (x = 1 ∧ 0 < cn 5)
  | t + 4 => x = -1 ∨ ∃ j, j < cn t ∧ x = nI j
def gok (g : gG) (k f : Nat) (x : Int32) : Prop := gokc (gcn g) (gtg k f) x
def gca (g : gG) : Nat → ClassId
  | 4 => gO g | 5 => gO g | 9 => gIA g | 10 => gIA g | 11 => gIA g | 12 => gIA g | 13 => gBA g | 14 => gIA g | 19 => gBo g | _ => gI g
def gCell (g : gG) (k i : Nat) (H : Heap) (V : Nat → Value) : Prop :=
  if gob k = true then t_OB (gad g k i) ((gD g).1 (gci k)) (gNf k) ((gD g).2 (gci k)) H V
  else H[gad g k i]? = some (arrV (gca g k) (gln g k i) V)
def GW (g : gG) (σ : Mem) (w : Int64) (H : Heap) : Prop :=
  (∃ tg : Nat → Nat × Nat, ∀ k i, i < gcn g k → tg (gad g k i) = (k, i)) ∧
  (∀ k i, i < gcn g k → gN0 g ≤ gad g k i ∧ gCell g k i H (fun f => gv g w k f (σ k i f))) ∧
  (∀ k i f, i < gcn g k → gok g k f (σ k i f)) ∧ (∀ k, gcn g k < 2 ^ 31)
theorem gCell.kept {g : gG} {k i : Nat} {H H1 : Heap} {V : Nat → Value} (h : gCell g k i H V) (hq : H1[gad g k i]? = H[gad g k i]?) : gCell g k i H1 V := by
  unfold gCell at *
  split
  · next h1 => rw [if_pos h1] at h; exact h.kept hq
  · next h1 => rw [if_neg h1] at h; exact hq.trans h
theorem gCell.lt {g : gG} {k i : Nat} {H : Heap} {V : Nat → Value} (h : gCell g k i H V) : gad g k i < H.size := by
  unfold gCell at h
  split at h
  · obtain ⟨cell, h2, -⟩ := h
    exact (Array.getElem?_eq_some_iff.mp h2).1
  · exact (Array.getElem?_eq_some_iff.mp h).1
theorem gCell.ob {g : gG} {k i : Nat} {H : Heap} {V : Nat → Value} (hk : gob k = true) (h : gCell g k i H V) : t_OB (gad g k i) ((gD g).1 (gci k)) (gNf k) ((gD g).2 (gci k)) H V := by
  unfold gCell at h
  rwa [if_pos hk] at h
theorem gCell.ar {g : gG} {k i : Nat} {H : Heap} {V : Nat → Value} (hk : gob k = false) (h : gCell g k i H V) : H[gad g k i]? = some (arrV (gca g k) (gln g k i) V) := by
  unfold gCell at h
  rwa [if_neg (by rw [hk]; decide)] at h
theorem gCell.of_ob {g : gG} {k i : Nat} {H : Heap} {V : Nat → Value} (hk : gob k = true) (h : t_OB (gad g k i) ((gD g).1 (gci k)) (gNf k) ((gD g).2 (gci k)) H V) : gCell g k i H V := by
  unfold gCell
  rwa [if_pos hk]
theorem gCell.of_ar {g : gG} {k i : Nat} {H : Heap} {V : Nat → Value} (hk : gob k = false) (h : H[gad g k i]? = some (arrV (gca g k) (gln g k i) V)) : gCell g k i H V := by
  unfold gCell
  rwa [if_neg (by rw [hk]; decide)]
theorem GW.lt {g : gG} {σ : Mem} {w : Int64} {H : Heap} (h : GW g σ w H) {k i : Nat} (hi : i < gcn g k) : gad g k i < H.size := (h.2.1 k i hi).2.lt
theorem GW.inj {g : gG} {σ : Mem} {w : Int64} {H : Heap} (h : GW g σ w H) {k i k' i' : Nat} (hi : i < gcn g k) (hi' : i' < gcn g k') (e : gad g k i = gad g k' i') : k = k' ∧ i = i' := by
  obtain ⟨⟨tg, ht⟩, -⟩ := h
  have h1 := ht k i hi
  have h2 := ht k' i' hi'
  rw [e, h2] at h1
  exact ⟨(Prod.mk.inj h1).1.symm, (Prod.mk.inj h1).2.symm⟩
theorem GW.kept {g : gG} {σ : Mem} {w : Int64} {H H1 : Heap} (h : GW g σ w H) (hq : ∀ q : Nat, q < H.size → H1[q]? = H[q]?) : GW g σ w H1 :=
  ⟨h.1, fun k i hi => ⟨(h.2.1 k i hi).1, (h.2.1 k i hi).2.kept (hq _ (h.lt hi))⟩, h.2.2.1, h.2.2.2⟩
theorem GW.put {g : gG} {σ : Mem} {w : Int64} {H H1 : Heap} (h : GW g σ w H) {k i f : Nat} {v : Int32} (hi : i < gcn g k) (hv : gok g k f v) (hc : gCell g k i H1 (updV (fun f => gv g w k f (σ k i f)) f (gv g w k f v))) (oq : ∀ q : Nat, q ≠ gad g k i → H1[q]? = H[q]?) : GW g (gst σ k i f v) w H1 := by
  refine ⟨h.1, fun k' i' hi' => ⟨(h.2.1 k' i' hi').1, ?_⟩, fun k' i' f' hi' => ?_, h.2.2.2⟩
  · by_cases e : k' = k ∧ i' = i
    · obtain ⟨rfl, rfl⟩ := e
      have e2 : (fun f' => gv g w k' f' (gst σ k' i' f v k' i' f')) = updV (fun f => gv g w k' f (σ k' i' f)) f (gv g w k' f v) := by
        funext f'
        unfold updV gst
        by_cases e3 : f' = f
        · subst e3; simp
        · simp [e3]
      rw [e2]
      exact hc
    · have e2 : (fun f' => gv g w k' f' (gst σ k i f v k' i' f')) = (fun f' => gv g w k' f' (σ k' i' f')) := by
        funext f'
        unfold gst
        rw [if_neg (fun z => e ⟨z.1, z.2.1⟩)]
      rw [e2]
      exact (h.2.1 k' i' hi').2.kept (oq _ (fun z => e (h.inj hi' hi z)))
  · unfold gst
    split
    · next z => obtain ⟨rfl, rfl, rfl⟩ := z; exact hv
    · exact h.2.2.1 k' i' f' hi'
/-! 'new T[][..]' finds its class -/
def gAOA (t : FieldType) (U : State) : Prop := (Cond.arrayOver (.array t)).before #[] U = true
theorem gAOA.of {t : FieldType} {A : Array Value} {U : State} (h : (Cond.arrayOver (.array t)).before A U = true) : gAOA t U := h
theorem gAOA.use {t : FieldType} {A : Array Value} {U : State} (h : gAOA t U) : (Cond.arrayOver (.array t)).before A U = true := h
theorem gAOA.moved {t : FieldType} {u U : State} (hvm : u.vm.Alike U.vm) (h : gAOA t u) : gAOA t U := by
  obtain ⟨comp, c, k, h1, h2, h3, h4, h5⟩ := arrayOverA_spec h
  obtain ⟨k', hk', he⟩ := hvm.2.2 _ _ h3
  have hi : (U.vm.classes.findIdx? fun (x : Class) => match x.kind with | .array component _ => component == comp | _ => false) = some c := by
    rw [hvm.findIdx?_eq _ (fun _ => rfl)]; exact h2
  have hkind : k'.kind = .array comp (.array t) := by rw [he]; exact h4
  have f1 : U.vm.findClass (FieldType.array t).toString = some comp := by rw [hvm.findClass]; exact h1
  have f2 : U.vm.findClass ("[" ++ (FieldType.array t).toString) = some c := by rw [hvm.findClass]; exact h5
  unfold gAOA Cond.before Cond.holds
  simp only [Cond.value]
  rw [f1, Option.bind_some]
  refine (congrArg (fun o : Option Nat => (o.bind (fun c => (U.vm.classes[c]?).map fun (k : Class) => match k.kind with | .array _ ty => decide (ty = FieldType.array t) && decide (U.vm.findClass ("[" ++ (FieldType.array t).toString) = some c) | _ => false) == some true)) hi).trans ?_
  simp [hk', hkind, f2]
/-! what a state gives beside the cells of the world -/
def gLay (U : State) : Prop := ∀ k, gob k = true → ∀ w ∈ u_ws (gC k) (gT k) (gNf k), w.before #[] U = true
def gStrs : List (Nat × String) := [(36, "the zones are the same"), (41, "minutes is not 1 to 120"), (51, "seats is not 1 to 8"), (57, "zone is not 0 to 5"), (65, "there are 10 cabs"), (83, "the cab is not OFF"), (96, "the cab is not FREE"), (110, "what is not 0 to 4"), (123, "due is less than now or greater than 9999"), (125, "there are 60 orders"), (136, "nothing is offered to the cab"), (160, "the order is RIDING, DONE or CANCELLED"), (175, "minutes is not 1 to 300"), (177, "the time would be greater than 9999"), (187, "what is not 0 to 7"), (232, "no such zone"), (234, "passengers is not 1 to 8"), (236, "no such cab"), (238, "no such order")]
def gCasts : List (String × String) := [("java/lang/IndexOutOfBoundsException", "java/lang/IndexOutOfBoundsException"), ("java/lang/IllegalArgumentException", "java/lang/IllegalArgumentException"), ("java/lang/IllegalStateException", "java/lang/IllegalStateException"), ("TaxiRank$Cab", "java/lang/Object"), ("TaxiRank$Order", "java/lang/Object")]
def gNot : List (String × String) := [("java/lang/IllegalArgumentException", "java/lang/IllegalStateException"), ("java/lang/IndexOutOfBoundsException", "java/lang/IllegalStateException")]
def gDecl : List String := ["java/lang/RuntimeException", "java/lang/Exception", Bundle.tN]
def ZZ (g : gG) (U : State) : Prop :=
  va_K (gD g) vwCl [(gI g, .int), (gO g, .object "java/lang/Object"), (gIA g, .array .int), (gBo g, .boolean), (gBA g, .array .boolean)] U ∧ gLay U ∧
  vx_Zq Bundle.tN "UNASSIGNED_STACK" Bundle.steD (gA g) U U.heap ∧ vx_Zq Bundle.tN "SUPPRESSED_SENTINEL" Bundle.listD (gA g) U U.heap ∧
  (∀ q ∈ gStrs, ∃ a : Nat, vk_R "TaxiRank" q.1 q.2 a U) ∧ (∀ q ∈ gCasts, va_Nw (.castable q.1 q.2) U) ∧ (∀ q ∈ gNot, va_Nc q.1 q.2 U) ∧
  va_Z "java/util/ArrayList" "DEFAULTCAPACITY_EMPTY_ELEMENTDATA" "[Ljava/lang/Object;" (.ref (gem g)) (gA g) U U.heap ∧ va_T (.object "java/lang/Object") (gem g) 0 (fun _ => .null) (gA g) U U.heap ∧
  va_Mi "[Ljava/lang/Object;" (gmi g) U ∧ va_Dc U ∧ va_AO "java/lang/Object" U ∧ (∀ q ∈ gDecl, va_Nw (.declares (Bundle.initS q)) U) ∧ gN0 g ≤ U.heap.size ∧ gAOA .int U ∧ gAOA .boolean U
theorem ZZ.to {g : gG} {s U : State} {H : Heap} {locs : List Loc} (h : ZZ g s) (hS : va_S (gA g) s.heap H locs) (hU : U.heap = H) (hW : s.WarmedH U.vm) : ZZ g U := by
  obtain ⟨h1, h2, h3, h4, h5, h6, h7, h8, h9, h10, h11, h12, h14, h13, h15, h16⟩ := h
  have ha := hW.alike
  have hk : ∀ a : Nat, a < s.heap.size → ¬ gA g a → U.heap[a]? = s.heap[a]? := fun a h1 h2 => by rw [hU]; exact hS.2.1 a h1 h2
  refine ⟨h1.moved ha, fun k hk w hw => ?_, (h3.moved ha).kept hk, (h4.moved ha).kept hk, fun q hq => ?_, fun q hq => (h6 q hq).warmC hW, fun q hq => (h7 q hq).moved ha, (h8.moved ha).kept hk, (h9.moved ha).kept hk, h10.moved ha, h11.moved ha, h12.moved ha, fun q hq => (h14 q hq).warmD hW, ?_, h15.moved ha, h16.moved ha⟩
  · refine word_at hW (Or.inl ?_) (h2 k hk w hw)
    obtain ⟨j, -, rfl⟩ := List.mem_map.mp hw
    unfold u_lay
    split <;> rfl
  · obtain ⟨a, ha⟩ := h5 q hq
    exact ⟨a, ha.warm hW⟩
  · rw [hU]
    exact Nat.le_trans h13 hS.1
theorem ZZ.lay {g : gG} {s : State} {args : Array Value} (h : ZZ g s) {k : Nat} (hk : gob k = true) : ∀ w ∈ u_ws (gC k) (gT k) (gNf k), w.before args s = true := by
  intro w hw
  refine va_any ?_ (h.2.1 k hk w hw)
  obtain ⟨j, -, rfl⟩ := List.mem_map.mp hw
  unfold u_lay
  split <;> rfl
/-! contracts: what is given, what comes back -/
def gPc (g : gG) (σ : Mem) (w : Int64) (av : List Value) : Array Value → State → Prop := va_Pc av (fun U => GW g σ w U.heap ∧ ZZ g U)
/-- the answer v, nothing written -/
def gR (v : Value) : Array Value → State → Outcome → State → Prop := fun _ st o t => o = .returned (some v) ∧ t.heap = st.heap
/-- the answer v, the world as σ' has it -/
def gM (g g' : gG) (σ' : Mem) (w' : Int64) (v : Option Value) : Array Value → State → Outcome → State → Prop := fun _ st o t => o = .returned v ∧ GW g' σ' w' t.heap ∧ va_F (gA g) st t
theorem gPc.blind {g : gG} {σ : Mem} {w : Int64} {av : List Value} : FrameBlind (gPc g σ w av) := by
  intro a U gg mk h
  obtain ⟨h1, h2, h3⟩ := h
  exact ⟨h1, h2, h3.to (locs := []) va_S.rf rfl (State.WarmedH.refl U)⟩
theorem gW_size {g : gG} {s : State} {H : Heap} {locs : List Loc} (hZ : ZZ g s) (hS : va_S (gA g) s.heap H locs) : ∀ q : Nat, s.heap.size ≤ q → gA g q := fun _ h => Nat.le_trans hZ.2.2.2.2.2.2.2.2.2.2.2.2.2.1 h
section GROWS
variable {p : Program} {l : Launch} {e : Env} {R : Room} {s : State} {m : MethodId} {args : Array Value} {below : List Frame} {meth : Method} {c : Code} {H : Heap} {locs : List Loc} {cells slots : Nat} {Q : State → Prop}
variable {cc : ByteArray} {pc : Nat} {ls : Array Slot} {rest : List Value} {g : gG} {σ : Mem} {w : Int64}
theorem gx_get (hexec : p.tables.exec = Jvm.exec) (hb : c.code = cc) {own ref : String} {index : Nat} (hown : s.vm.findClass own = some m.cls) (hZ : ZZ g s) (hG : GW g σ w H) (k i f : Nat) (hi : i < gcn g k) (hk : gob k = true) (hf : f < gNf k)
    (hlink : (Cond.fieldLink own index ref (gT k f).2.1 (gT k f).2.2.1).before args s = true) (hsame : ∀ x, s.fieldFound? (gT k f).1 (gT k f).2.1 (gT k f).2.2.1 = some x → s.fieldFound? ref (gT k f).2.1 (gT k f).2.2.1 = some x) {v : Value} (hv : gv g w k f (σ k i f) = v) (hdg : decode cc pc = .ok (.getfield index, 3))
    (kk : W p l e R s m args below meth c H locs cells slots Q (F0 m (pc + 3) ls (v :: rest))) : W p l e R s m args below meth c H locs cells slots Q (F0 m pc ls (.ref (gad g k i) :: rest)) := by
  obtain ⟨cell, q1, q2, q3, q4⟩ := (hG.2.1 k i hi).2.ob hk
  obtain ⟨hS, hfc, kC, hkC, hkind⟩ := hZ.1.1 (gci k) _ (gcl_at k hk)
  obtain ⟨cf, kf, fi, fd, hfi, hsl⟩ := hS f hf
  refine W.getf hexec hb hown hlink (hsame _ hfi) (u_facts hfc hkC (u_lays (hZ.lay (args := args) hk) (fun _ h => h) hf) hfi).1 q1 (by rw [q3]; exact fun h => by cases h) (v := v) ?_ rfl rfl hdg kk
  rw [hsl, q4 f hf]
  exact congrArg some hv
theorem gx_apart (hZ : ZZ g s) {k : Nat} (hk : gob k = true) : ∀ x y, x < gNf k → y < gNf k → x ≠ y → ((gD g).2 (gci k)) x ≠ ((gD g).2 (gci k)) y := by
  intro x y hx hy hne
  obtain ⟨hS, -⟩ := hZ.1.1 (gci k) _ (gcl_at k hk)
  obtain ⟨_, _, _, fa, hia, ea⟩ := hS x hx
  obtain ⟨_, _, _, fb, hib, eb⟩ := hS y hy
  rw [← ea, ← eb]
  have hl := hZ.lay (args := #[]) hk
  refine u_apart (u_lays hl (fun _ h => h) hx) (u_lays hl (fun _ h => h) hy) hia hib ?_
  rw [(State.fieldFound?_type hia (gty_ok k hk x hx)).1, (State.fieldFound?_type hib (gty_ok k hk y hy)).1]
  exact gnm_ok k hk x hx y hy hne
theorem gx_put (hexec : p.tables.exec = Jvm.exec) (hb : c.code = cc) {own ref : String} {index : Nat} (hown : s.vm.findClass own = some m.cls) (hZ : ZZ g s) (hG : GW g σ w H) (hS0 : va_S (gA g) s.heap H locs) (k i f : Nat) (x : Int32) (hi : i < gcn g k) (hk : gob k = true) (hf : f < gNf k)
    (hlink : (Cond.fieldLink own index ref (gT k f).2.1 (gT k f).2.2.1).before args s = true) (hsame : ∀ x, s.fieldFound? (gT k f).1 (gT k f).2.1 (gT k f).2.2.1 = some x → s.fieldFound? ref (gT k f).2.1 (gT k f).2.2.1 = some x) (hfin : (gT k f).2.2.2 = false) {v : Value} (hv : gv g w k f x = v) (hok : gok g k f x) (hn : narrow (gTy k f) v = v) (hfit : fits (gTy k f) v = true)
    (hdg : decode cc pc = .ok (.putfield index, 3)) (kk : ∀ (H1 : Heap) (locs1 : List Loc), GW g (gst σ k i f x) w H1 → va_S (gA g) s.heap H1 locs1 → W p l e R s m args below meth c H1 locs1 cells slots Q (F0 m (pc + 3) ls rest)) : W p l e R s m args below meth c H locs cells slots Q (F0 m pc ls (v :: .ref (gad g k i) :: rest)) := by
  have hap := gx_apart hZ hk
  obtain ⟨cell, q1, q2, q3, q4⟩ := (hG.2.1 k i hi).2.ob hk
  obtain ⟨hS, hfc, kC, hkC, hkind⟩ := hZ.1.1 (gci k) _ (gcl_at k hk)
  obtain ⟨cf, kf, fi, fd, hfi, hsl⟩ := hS f hf
  have hlay := hZ.lay (args := args) hk _ (u_in_lay hf)
  unfold u_lay at hlay
  rw [if_neg (by rw [hfin]; decide)] at hlay
  have hst := (u_facts hfc hkC (u_lays (hZ.lay (args := args) hk) (fun _ h => h) hf) hfi).1
  have h6 := u_store hfc hkC hkind hlay hfi (gty_ok k hk f hf) hn hfit
  refine W.putK hexec hb (f := fd) ⟨hown, hlink, ⟨_, _, _, hsame _ hfi⟩, hst⟩ (by rw [q2]; exact h6) q1 q3 (by rw [hsl]; exact k2_hasslot (q4 f hf)) rfl rfl hdg fun H' e1 e2 e3 => ?_
  rw [hsl] at e1 ⊢
  refine kk H' _ (hG.put hi hok (gCell.of_ob hk ⟨_, e1, q2, q3, ?_⟩) e3) (hS0.put e2 e3 ((hG.2.1 k i hi).1))
  rw [hv]
  exact t_set q4 hap hf v
theorem gx_putF (hexec : p.tables.exec = Jvm.exec) (hb : c.code = cc) {own ref : String} {index : Nat} (hown : s.vm.findClass own = some m.cls) (hZ : ZZ g s) (hG : GW g σ w H) (hS0 : va_S (gA g) s.heap H locs) (k i f : Nat) (x : Int32) (hi : i < gcn g k) (hk : gob k = true) (hf : f < gNf k)
    (hlink : (Cond.fieldLink own index ref (gT k f).2.1 (gT k f).2.2.1).before args s = true) (hsame : ∀ x, s.fieldFound? (gT k f).1 (gT k f).2.1 (gT k f).2.2.1 = some x → s.fieldFound? ref (gT k f).2.1 (gT k f).2.2.1 = some x) (hfin : (gT k f).2.2.2 = true) (hin2 : meth.name = "<init>") (hdecl : (gT k f).1 = own) {v : Value} (hv : gv g w k f x = v) (hok : gok g k f x) (hn : narrow (gTy k f) v = v) (hfit : fits (gTy k f) v = true)
    (hdg : decode cc pc = .ok (.putfield index, 3)) (kk : ∀ (H1 : Heap) (locs1 : List Loc), GW g (gst σ k i f x) w H1 → va_S (gA g) s.heap H1 locs1 → W p l e R s m args below meth c H1 locs1 cells slots Q (F0 m (pc + 3) ls rest)) : W p l e R s m args below meth c H locs cells slots Q (F0 m pc ls (v :: .ref (gad g k i) :: rest)) := by
  have hap := gx_apart hZ hk
  obtain ⟨cell, q1, q2, q3, q4⟩ := (hG.2.1 k i hi).2.ob hk
  obtain ⟨hS, hfc, kC, hkC, hkind⟩ := hZ.1.1 (gci k) _ (gcl_at k hk)
  obtain ⟨cf, kf, fi, fd, hfi, hsl⟩ := hS f hf
  have hlay := hZ.lay (args := args) hk _ (u_in_lay hf)
  unfold u_lay at hlay
  rw [if_pos hfin] at hlay
  have hst := (u_facts hfc hkC (u_lays (hZ.lay (args := args) hk) (fun _ h => h) hf) hfi).1
  have hcf : m.cls = cf := by
    obtain ⟨_, _, c', _, _, _, -, -, hf', -, -, -, hown2, -⟩ := Cond.laysFinal_spec hlay
    have e1 : c' = cf := by have := hfi.symm.trans hf'; simp at this; exact this.1.symm
    rw [hdecl] at hown2
    rw [← e1]; exact Option.some.inj (hown.symm.trans hown2)
  have h6 := u_fits hfc hkC hkind (Or.inr hlay) hfi (gty_ok k hk f hf) hn hfit
  refine W.putFinK hexec hb hown hlink (hsame _ hfi) hst hcf hin2 (by rw [q2]; exact h6) q1 q3 (by rw [hsl]; exact k2_hasslot (q4 f hf)) rfl rfl hdg fun H' e1 e2 e3 => ?_
  rw [hsl] at e1 ⊢
  refine kk H' _ (hG.put hi hok (gCell.of_ob hk ⟨_, e1, q2, q3, ?_⟩) e3) (hS0.put e2 e3 ((hG.2.1 k i hi).1))
  rw [hv]
  exact t_set q4 hap hf v
end GROWS
