/-- a contract that says of the end what Po says -/
def gE (g : gG) (Po : Option Value → Heap → Prop) : Array Value → State → Outcome → State → Prop := fun _ st o t => (∃ v, o = .returned v ∧ Po v t.heap) ∧ va_F (gA g) st t
section GEE
variable {p : Program} {l : Launch} {e : Env} {R : Room} {s : State} {m : MethodId} {args : Array Value} {below : List Frame} {meth : Method} {c : Code} {H : Heap} {locs : List Loc} {cells slots mc ms : Nat} {Q : State → Prop}
variable {cc : ByteArray} {pc : Nat} {ls : Array Slot} {rest st0 : List Value} {g : gG} {σ : Mem} {w : Int64} {Po : Option Value → Heap → Prop} {a : Array Value}
theorem gx_cE (hr : va_Run p l e R s m args below meth c H locs cells slots mc ms (F0 m pc ls st0) rest (gE g Po a) (gA g)) (hS : va_S (gA g) s.heap H locs)
    (kk : ∀ (v : Option Value) (H1 : Heap) (locs1 : List Loc), Po v H1 → va_S (gA g) s.heap H1 locs1 → H.size ≤ H1.size → W p l e R s m args below meth c H1 locs1 (cells + mc) (slots + ms) Q (F0 m (pc + 3) ls (v.toList ++ rest))) : W p l e R s m args below meth c H locs cells slots Q (F0 m pc ls st0) := by
  intro T hT X
  obtain ⟨v9, st₀, t, T', L, h0, X', hL, e1, e2, ⟨⟨v, hv, hP⟩, hF⟩, st⟩ := hr T hT X
  cases hv
  obtain ⟨k1, k2, k3⟩ := vx_keep h0 e1 hS (A1 := gA g) (free := gA g) (fun _ _ h => h) (fun _ h => h) hL hF
  obtain ⟨t2, a1, b1⟩ := kk v9 T'.heap (locs ++ L) (by rw [e1]; exact hP) k3 k1 T' rfl X'
  exact ⟨t2, st t2 a1, b1⟩
theorem gx_aretE {v : Value} {rt : FieldType} (hx : p.tables.exec = Jvm.exec) (hb : c.code = cc) (hr : meth.sig.returnType = some rt) (hrt : (∃ n, rt = .object n) ∨ ∃ t, rt = .array t) (hlocks : meth.locks = false) (hS : va_S (gA g) s.heap H locs) (hv : v = .null ∨ ∃ a, v = .ref a) (hP : Po (some v) H) (hc : cells ≤ mc) (hs : slots ≤ ms) (hdg : decode cc pc = .ok (.areturn, 1)) : W p l e R s m args below meth c H locs cells slots (MQ below (gE g Po) args s mc ms (gA g)) (F0 m pc ls [v]) :=
  W.widen hc hs (W.aret hx hb hr hrt hv (fun t ht _ => ⟨⟨_, rfl, by rw [ht]; exact hP⟩, hS.F ht⟩) hS.2.2 hdg hlocks)
theorem gx_iretE {v : Int32} (hx : p.tables.exec = Jvm.exec) (hb : c.code = cc) (hr : meth.sig.returnType = some .int) (hlocks : meth.locks = false) (hS : va_S (gA g) s.heap H locs) (hP : Po (some (.int v)) H) (hc : cells ≤ mc) (hs : slots ≤ ms) (hdg : decode cc pc = .ok (.ireturn, 1)) : W p l e R s m args below meth c H locs cells slots (MQ below (gE g Po) args s mc ms (gA g)) (F0 m pc ls [.int v]) :=
  W.widen hc hs (W.iret hx hb hr (fun t ht _ => ⟨⟨_, rfl, by rw [ht]; exact hP⟩, hS.F ht⟩) hS.2.2 hdg hlocks)
theorem gx_zretE {v : Int32} (hx : p.tables.exec = Jvm.exec) (hb : c.code = cc) (hr : meth.sig.returnType = some .boolean) (hlocks : meth.locks = false) (hS : va_S (gA g) s.heap H locs) (hn : narrow .boolean (.int v) = .int v) (hP : Po (some (.int v)) H) (hc : cells ≤ mc) (hs : slots ≤ ms) (hdg : decode cc pc = .ok (.ireturn, 1)) : W p l e R s m args below meth c H locs cells slots (MQ below (gE g Po) args s mc ms (gA g)) (F0 m pc ls [.int v]) :=
  W.widen hc hs (W.zret hx hb hr hn (fun t ht _ => ⟨⟨_, rfl, by rw [ht]; exact hP⟩, hS.F ht⟩) hS.2.2 hdg hlocks)
theorem gx_vretE (hx : p.tables.exec = Jvm.exec) (hb : c.code = cc) (hr : meth.sig.returnType = none) (hlocks : meth.locks = false) (hS : va_S (gA g) s.heap H locs) (hP : Po none H) (hc : cells ≤ mc) (hs : slots ≤ ms) (hdg : decode cc pc = .ok (.return_, 1)) : W p l e R s m args below meth c H locs cells slots (MQ below (gE g Po) args s mc ms (gA g)) (F0 m pc ls []) :=
  W.widen hc hs (W.vret hx hb hr (fun t ht _ => ⟨⟨_, rfl, by rw [ht]; exact hP⟩, hS.F ht⟩) hS.2.2 hdg hlocks)
theorem gx_iretEx {v : Int32} {P : String → Prop} (hx : p.tables.exec = Jvm.exec) (hb : c.code = cc) (hr : meth.sig.returnType = some .int) (hlocks : meth.locks = false) (hS : va_S (gA g) s.heap H locs) (hP : Po (some (.int v)) H) (hc : cells ≤ mc) (hs : slots ≤ ms) (hdg : decode cc pc = .ok (.ireturn, 1)) : W p l e R s m args below meth c H locs cells slots (vx_MQ below (gE g Po) (gX P) args s mc ms (gA g)) (F0 m pc ls [.int v]) :=
  vx_ret (gx_iretE hx hb hr hlocks hS hP hc hs hdg)
/-- the first n places of a list's row, copied into a new row -/
theorem gx_copy (hexec : p.tables.exec = Jvm.exec) (hb : c.code = cc) (hml : c.maxLocals = ls.size) {own : String} {index : Nat} (hown : s.vm.findClass own = some m.cls) (hlink : (Cond.methodLink own index arraycopyName).before args s = true) (hnat : (Cond.native arraycopyName).before args s = true) (hstat : (Cond.static arraycopyName).before args s = true) (hini : (Cond.initialized "java/lang/System").before args s = true)
    (hZ : ZZ g s) (hG : GW g σ w H) (hS : va_S (gA g) s.heap H []) (kl ka ke : Nat) {q n n1 : Nat} {nv : Int32} (ht3 : gTri kl ka ke) (hca : 0 < gcn g ka) (hnv : nv = nI n) (hn : n ≤ gln g ka 0) (hn1 : n ≤ n1) (h31 : n1 < 2 ^ 31) (hqc : H[q]? = some (arrV (gO g) n1 (fun _ => .null))) (hq : ∀ k i, i < gcn g k → gad g k i ≠ q) (hN : gN0 g ≤ q)
    (hframes : 1 ≤ R.frames) (hlocals : (rest.map fun v => v.category).sum + 18 ≤ R.locals) (hdg : decode cc pc = .ok (.invokestatic index, 3))
    (kk : ∀ (H1 : Heap) (locs1 : List Loc), GW g σ w H1 → H1[q]? = some (arrV (gO g) n1 (fun j => grf (gad g ke) (if j < n then σ ka 0 j else -1))) → va_S (gA g) s.heap H1 locs1 → W p l e R s m args below meth c H1 locs1 cells slots Q (F0 m (pc + 3) ls rest)) : W p l e R s m args below meth c H [] cells slots Q (F0 m pc ls (.int nv :: .int 0 :: .ref q :: .int 0 :: .ref (gad g ka 0) :: rest)) := by
  subst hnv
  have hk : gob ka = false ∧ gca g ka = gO g ∧ (∀ f, gtg ka f = ke + 4) ∧ gob ke = true ∧ (gC ke, "java/lang/Object") ∈ gCasts := by
    rcases ht3 with ⟨rfl, rfl, rfl⟩ | ⟨rfl, rfl, rfl⟩ <;> exact ⟨rfl, rfl, fun _ => rfl, rfl, by decide +kernel⟩
  have h1 := (hG.2.1 ka 0 hca).2.ar hk.1
  rw [hk.2.1] at h1
  have hqa : q ≠ gad g ka 0 := fun z => hq ka 0 hca z.symm
  obtain ⟨f, hf⟩ : ∃ f : Nat → Option Nat, ∀ j, va_rf (f j) = gv g w ka j (σ ka 0 j) := by
    refine ⟨fun j => if σ ka 0 j = -1 then none else some (gad g ke (ix (σ ka 0 j))), fun j => ?_⟩
    show _ = gvc _ _ _ (gtg ka j) _
    rw [hk.2.2.1 j]
    show _ = grf (gad g ke) _
    unfold grf
    dsimp only
    split <;> rfl
  have hc0 : (nI 0).toNatClampNeg = 0 := nI_clamp (by decide)
  have hcn : (nI n).toNatClampNeg = n := nI_clamp (by omega)
  have hP : va_P (gD g) vwCl [(gad g ka 0, .inl (gO g, gln g ka 0, .inr (.inr (.inr (.inr f))))), (q, .inl (gO g, n1, .inr (.inr (.inr (.inr (fun _ => none))))))] H := by
    intro k x hx
    match k, hx with
    | 0, hx =>
      cases hx
      show H[_]? = some (vp_cell _ _)
      rw [vp_cell_q, h1]
      congr 2
      funext j
      exact (hf j).symm
    | 1, hx =>
      cases hx
      show H[_]? = some (vp_cell _ _)
      rw [vp_cell_q, hqc]
      rfl
    | k + 2, hx => simp at hx
  have hD : va_D (fun x => x = q ∨ x = gad g ka 0) [(gad g ka 0, .inl (gO g, gln g ka 0, .inr (.inr (.inr (.inr f))))), (q, .inl (gO g, n1, .inr (.inr (.inr (.inr (fun _ => none))))))] := by
    refine ⟨fun i j x y hi hj hxy => ?_, fun k x hx => ?_⟩
    · match i, j, hi, hj with
      | 0, 0, _, _ => rfl
      | 1, 1, _, _ => rfl
      | 0, 1, hi, hj => cases hi; cases hj; exact absurd hxy.symm hqa
      | 1, 0, hi, hj => cases hi; cases hj; exact absurd hxy hqa
      | i + 2, _, hi, _ => simp at hi
      | _, j + 2, _, hj => simp at hj
    · match k, hx with
      | 0, hx => cases hx; exact Or.inr rfl
      | 1, hx => cases hx; exact Or.inl rfl
      | k + 2, hx => simp at hx
  have hel : ∀ i : Nat, i < (nI n).toNatClampNeg → ∀ y : Nat, f ((0 : Int32).toNatClampNeg + i) = some y → ∃ cellV : Cell, H[y]? = some cellV ∧ cellV.vm.isStatics = false ∧ s.vm.findClass (gC ke) = some cellV.cls := by
    intro i hi y hy
    have e1 := hf ((0 : Int32).toNatClampNeg + i)
    rw [hy] at e1
    have hok := hG.2.2.1 ka 0 ((0 : Int32).toNatClampNeg + i) hca
    unfold gok at hok
    unfold gv at e1
    rw [hk.2.2.1] at hok e1
    rcases hok with z | ⟨j, hj, z⟩
    · rw [z] at e1
      exact absurd e1 (by rw [show gvc (gad g) (gem g) w (ke + 4) (-1) = grf (gad g ke) (-1) from rfl, grf_m1]; intro h; cases h)
    · rw [z] at e1
      have h9 := hG.2.2.2 ke
      rw [show gvc (gad g) (gem g) w (ke + 4) (nI j) = grf (gad g ke) (nI j) from rfl, grf_nI (by omega)] at e1
      have e2 : y = gad g ke j := by injection e1
      rw [e2]
      exact gx_obj hZ hG ke j hj hk.2.2.2.1
  refine va_copyq (E0 := "java/lang/Object") (E1 := "java/lang/Object") (C := gC ke) hexec hb hml hown hlink hnat hstat hini (hZ.1.sub (tys' := [(gO g, .object "java/lang/Object")]) [1] rfl) hP hD (H0 := H) va_S.rf 0 1 0 0 rfl rfl rfl rfl (by decide) (by decide) (nI_pos (by omega)) (by rw [hcn, show (0 : Int32).toNatClampNeg = 0 from hc0]; omega) (by rw [hcn, show (0 : Int32).toNatClampNeg = 0 from hc0]; omega) hel (fun comp c0 g1 g2 => ?_) hframes (by rw [show nativeFrameWords "java/lang/System" "arraycopy" 5 + 11 = 18 from rfl]; exact hlocals) hdg (fun H1 locs1 hP1 hD1 hS1 => ?_)
  · obtain ⟨c9, t9, f1, f2, f3⟩ := Cond.castable_spec (va_Nw.use (A := args) rfl (hZ.2.2.2.2.2.1 _ hk.2.2.2.2))
    cases g2.symm.trans f1
    cases g1.symm.trans f2
    exact f3
  · have hsz : H.size ≤ H1.size := hS1.1
    have hq1 := hP1 1 (q, .inl (gO g, n1, .inr (.inr (.inr (.inr (va_cpy f (fun _ => none) (0 : Int32).toNatClampNeg (0 : Int32).toNatClampNeg (nI n).toNatClampNeg)))))) rfl
    have hs1 := hP1 0 (gad g ka 0, .inl (gO g, gln g ka 0, .inr (.inr (.inr (.inr f))))) rfl
    have hs0 := hP 0 (gad g ka 0, .inl (gO g, gln g ka 0, .inr (.inr (.inr (.inr f))))) rfl
    have hlq : ∀ x : Nat, x < H.size → x ≠ q → H1[x]? = H[x]? := fun x hx hne => by
      by_cases e : x = gad g ka 0
      · rw [e]
        exact Eq.trans hs1 (Eq.symm hs0)
      · exact hS1.2.1 x hx (fun z => z.elim hne e)
    refine kk H1 locs1 ⟨hG.1, fun k i hi => ⟨(hG.2.1 k i hi).1, (hG.2.1 k i hi).2.kept (hlq _ (hG.lt hi) (hq k i hi))⟩, hG.2.2⟩ ?_ ⟨Nat.le_trans hS.1 hsz, fun x h2 h3 => ?_, fun l hl => ?_⟩
    · refine Eq.trans hq1 ?_
      rw [vp_cell_q]
      congr 2
      funext j
      unfold va_cpy
      rw [hcn, show (0 : Int32).toNatClampNeg = 0 from hc0]
      by_cases hj : j < n
      · rw [if_pos ⟨Nat.zero_le _, by omega⟩, if_pos hj, Nat.zero_add, Nat.sub_zero, hf]
        show gvc _ _ _ (gtg ka j) _ = _
        rw [hk.2.2.1 j]
        rfl
      · rw [if_neg (fun z => hj (by omega)), if_neg hj, grf_m1]
        rfl
    · rw [hlq x (Nat.lt_of_lt_of_le h2 hS.1) (fun z => h3 (by rw [z]; exact hN))]
      exact hS.2.1 x h2 h3
    · rcases hS1.2.2 l hl with z | z
      · show gN0 g ≤ l.base
        rw [z]
        exact hN
      · show gN0 g ≤ l.base
        rw [z]
        exact (hG.2.1 ka 0 hca).1
end GEE
theorem gx_arrcls {s : State} {g : gG} {σ : Mem} {w : Int64} {H : Heap} (hZ : ZZ g s) (hG : GW g σ w H) (k i : Nat) (hi : i < gcn g k) (hk : gob k = false) (hc : gca g k = gO g) : ∃ cell : Cell, H[gad g k i]? = some cell ∧ cell.vm.isStatics = false ∧ s.vm.findClass "[Ljava/lang/Object;" = some cell.cls := by
  have h1 := (hG.2.1 k i hi).2.ar hk
  rw [hc] at h1
  obtain ⟨kA, comp, k1, k2, k3, k4⟩ := (gx_KO hZ).2
  exact ⟨_, h1, rfl, k4⟩
