def gBad (cls : String) : List Cond := [Cond.castable cls cls, .declares (Bundle.initS "java/lang/RuntimeException"), .declares (Bundle.initS "java/lang/Exception"), .declares (Bundle.initS Bundle.tN)]
/-- a method's body, from its entry -/
theorem gx_ofW {l : Launch} {y : MethodName} {ws ws' : List Cond} {rm : Room} {Qc : Array Value → State → Outcome → State → Prop} {mc ms : Nat} {free : Addr → Prop} {cc : ByteArray} {maxL : Nat} {ret : Option FieldType} {g : gG} {σ : Mem} {w : Int64} {av : List Value}
    (hy : plainName y.cls = true) (hw : ws = Cond.code y cc maxL ret :: ws') (hlen : (lg_sl av).length ≤ maxL)
    (body : ∀ (p : Program) (e : Env) (s : State) (m : MethodId) (below : List Frame) (meth : Method) (c : Code), p.tables.exec = Jvm.exec → c.code = cc → meth.sig.returnType = ret → c.maxLocals = maxL → (∀ w ∈ ws, w.before av.toArray s = true) → s.vm.findClass y.cls = some m.cls → meth.locks = false → meth.name = y.name →
      GW g σ w s.heap → ZZ g s → va_S (gA g) s.heap s.heap [] → ∀ ls : Array Slot, lv_has ls maxL (lv_args 0 av) → W p l e rm s m av.toArray below meth c s.heap [] 0 0 (MQ below Qc av.toArray s mc ms free) (F0 m 0 ls [])) : Met l y ws rm (gPc g σ w av) Qc mc ms free := by
  refine Met.ofW (cc := cc) (maxL := maxL) (ret := ret) hy hw ?_
  intro p e s m args below meth c s₁ B hml hv
  obtain ⟨rfl, hG, hZ⟩ := hv
  have hl := lv_entry av (n := maxL) hlen
  rw [lg_entry_eq]
  exact body p e s m below meth c B.exec B.bytes B.returns hml (atoms_spec (ws := ws) B.pre) (findClass_of_methodNamed B.named) B.notSynchronized (name_of_methodNamed B.named B.method).1 hG hZ va_S.rf _ hl
theorem gx_xofW {l : Launch} {y : MethodName} {ws ws' : List Cond} {rm : Room} {Qc : Array Value → State → Outcome → State → Prop} {XC : String → State → State → Prop} {mc ms : Nat} {free : Addr → Prop} {cc : ByteArray} {maxL : Nat} {ret : Option FieldType} {g : gG} {σ : Mem} {w : Int64} {av : List Value}
    (hy : plainName y.cls = true) (hw : ws = Cond.code y cc maxL ret :: ws') (hlen : (lg_sl av).length ≤ maxL)
    (body : ∀ (p : Program) (e : Env) (s : State) (m : MethodId) (below : List Frame) (meth : Method) (c : Code), p.tables.exec = Jvm.exec → c.code = cc → meth.sig.returnType = ret → c.maxLocals = maxL → (∀ w ∈ ws, w.before av.toArray s = true) → s.vm.findClass y.cls = some m.cls → meth.locks = false → meth.name = y.name → (∀ x ∈ c.exceptionTable.toList, False) →
      GW g σ w s.heap → ZZ g s → va_S (gA g) s.heap s.heap [] → ∀ ls : Array Slot, lv_has ls maxL (lv_args 0 av) → W p l e rm s m av.toArray below meth c s.heap [] 0 0 (vx_MQ below Qc XC av.toArray s mc ms free) (F0 m 0 ls [])) : vx_Met l y ws rm (gPc g σ w av) Qc XC mc ms free := by
  refine vx_ofW (cc := cc) (maxL := maxL) (ret := ret) hy hw ?_
  intro p e s m args below meth c s₁ B hml hnt hv
  obtain ⟨rfl, hG, hZ⟩ := hv
  have hl := lv_entry av (n := maxL) hlen
  rw [lg_entry_eq]
  exact body p e s m below meth c B.exec B.bytes B.returns hml (atoms_spec (ws := ws) B.pre) (findClass_of_methodNamed B.named) B.notSynchronized (name_of_methodNamed B.named B.method).1 hnt hG hZ va_S.rf _ hl
section GEND
variable {p : Program} {l : Launch} {e : Env} {R : Room} {s : State} {m : MethodId} {args : Array Value} {below : List Frame} {meth : Method} {c : Code} {H : Heap} {locs : List Loc} {cells slots mc ms : Nat}
variable {cc : ByteArray} {pc : Nat} {ls : Array Slot} {g g' : gG} {σ σ' : Mem} {w w' : Int64} {D : Prop} {P : String → Prop}
theorem gx_iretR {v v0 : Int32} (hx : p.tables.exec = Jvm.exec) (hb : c.code = cc) (hr : meth.sig.returnType = some .int) (hlocks : meth.locks = false) (ev : v = v0) (hc : cells ≤ mc) (hs : slots ≤ ms) (hdg : decode cc pc = .ok (.ireturn, 1)) : W p l e R s m args below meth c s.heap [] cells slots (MQ below (gR (.int v0)) args s mc ms (fun _ => False)) (F0 m pc ls [.int v]) :=
  W.widen hc hs (W.iret hx hb hr (fun t ht _ => ⟨by rw [ev], ht⟩) (fun _ h => nomatch h) hdg hlocks)
theorem gx_zretR {v v0 : Int32} (hx : p.tables.exec = Jvm.exec) (hb : c.code = cc) (hr : meth.sig.returnType = some .boolean) (hlocks : meth.locks = false) (ev : v = v0) (hn : narrow .boolean (.int v) = .int v) (hc : cells ≤ mc) (hs : slots ≤ ms) (hdg : decode cc pc = .ok (.ireturn, 1)) : W p l e R s m args below meth c s.heap [] cells slots (MQ below (gR (.int v0)) args s mc ms (fun _ => False)) (F0 m pc ls [.int v]) :=
  W.widen hc hs (W.zret hx hb hr hn (fun t ht _ => ⟨by rw [ev], ht⟩) (fun _ h => nomatch h) hdg hlocks)
theorem gx_lretR {v v0 : Int64} (hx : p.tables.exec = Jvm.exec) (hb : c.code = cc) (hr : meth.sig.returnType = some .long) (hlocks : meth.locks = false) (ev : v = v0) (hc : cells ≤ mc) (hs : slots ≤ ms) (hdg : decode cc pc = .ok (.lreturn, 1)) : W p l e R s m args below meth c s.heap [] cells slots (MQ below (gR (.long v0)) args s mc ms (fun _ => False)) (F0 m pc ls [.long v]) :=
  W.widen hc hs (W.lret hx hb hr (fun t ht _ => ⟨by rw [ev], ht⟩) (fun _ h => nomatch h) hdg hlocks)
theorem gx_aretR {v v0 : Value} {rt : FieldType} (hx : p.tables.exec = Jvm.exec) (hb : c.code = cc) (hr : meth.sig.returnType = some rt) (hrt : (∃ n, rt = .object n) ∨ ∃ t, rt = .array t) (hlocks : meth.locks = false) (hv : v = .null ∨ ∃ a, v = .ref a) (ev : v = v0) (hc : cells ≤ mc) (hs : slots ≤ ms) (hdg : decode cc pc = .ok (.areturn, 1)) : W p l e R s m args below meth c s.heap [] cells slots (MQ below (gR v0) args s mc ms (fun _ => False)) (F0 m pc ls [v]) :=
  W.widen hc hs (W.aret hx hb hr hrt hv (fun t ht _ => ⟨by rw [ev], ht⟩) (fun _ h => nomatch h) hdg hlocks)
theorem gx_iretM {v v0 : Int32} (hx : p.tables.exec = Jvm.exec) (hb : c.code = cc) (hr : meth.sig.returnType = some .int) (hlocks : meth.locks = false) (hG : GW g' σ w' H) (hS : va_S (gA g) s.heap H locs) (ev : v = v0) (es : σ = σ') (hc : cells ≤ mc) (hs : slots ≤ ms) (hdg : decode cc pc = .ok (.ireturn, 1)) : W p l e R s m args below meth c H locs cells slots (MQ below (gM g g' σ' w' (some (.int v0))) args s mc ms (gA g)) (F0 m pc ls [.int v]) :=
  W.widen hc hs (W.iret hx hb hr (fun t ht _ => ⟨by rw [ev], by rw [ht, ← es]; exact hG, hS.F ht⟩) hS.2.2 hdg hlocks)
theorem gx_zretM {v v0 : Int32} (hx : p.tables.exec = Jvm.exec) (hb : c.code = cc) (hr : meth.sig.returnType = some .boolean) (hlocks : meth.locks = false) (hG : GW g' σ w' H) (hS : va_S (gA g) s.heap H locs) (ev : v = v0) (es : σ = σ') (hn : narrow .boolean (.int v) = .int v) (hc : cells ≤ mc) (hs : slots ≤ ms) (hdg : decode cc pc = .ok (.ireturn, 1)) : W p l e R s m args below meth c H locs cells slots (MQ below (gM g g' σ' w' (some (.int v0))) args s mc ms (gA g)) (F0 m pc ls [.int v]) :=
  W.widen hc hs (W.zret hx hb hr hn (fun t ht _ => ⟨by rw [ev], by rw [ht, ← es]; exact hG, hS.F ht⟩) hS.2.2 hdg hlocks)
theorem gx_lretM {v v0 : Int64} (hx : p.tables.exec = Jvm.exec) (hb : c.code = cc) (hr : meth.sig.returnType = some .long) (hlocks : meth.locks = false) (hG : GW g' σ w' H) (hS : va_S (gA g) s.heap H locs) (ev : v = v0) (es : σ = σ') (hc : cells ≤ mc) (hs : slots ≤ ms) (hdg : decode cc pc = .ok (.lreturn, 1)) : W p l e R s m args below meth c H locs cells slots (MQ below (gM g g' σ' w' (some (.long v0))) args s mc ms (gA g)) (F0 m pc ls [.long v]) :=
  W.widen hc hs (W.lret hx hb hr (fun t ht _ => ⟨by rw [ev], by rw [ht, ← es]; exact hG, hS.F ht⟩) hS.2.2 hdg hlocks)
theorem gx_aretM {v v0 : Value} {rt : FieldType} (hx : p.tables.exec = Jvm.exec) (hb : c.code = cc) (hr : meth.sig.returnType = some rt) (hrt : (∃ n, rt = .object n) ∨ ∃ t, rt = .array t) (hlocks : meth.locks = false) (hG : GW g' σ w' H) (hS : va_S (gA g) s.heap H locs) (hv : v = .null ∨ ∃ a, v = .ref a) (ev : v = v0) (es : σ = σ') (hc : cells ≤ mc) (hs : slots ≤ ms) (hdg : decode cc pc = .ok (.areturn, 1)) : W p l e R s m args below meth c H locs cells slots (MQ below (gM g g' σ' w' (some v0)) args s mc ms (gA g)) (F0 m pc ls [v]) :=
  W.widen hc hs (W.aret hx hb hr hrt hv (fun t ht _ => ⟨by rw [ev], by rw [ht, ← es]; exact hG, hS.F ht⟩) hS.2.2 hdg hlocks)
theorem gx_vretM (hx : p.tables.exec = Jvm.exec) (hb : c.code = cc) (hr : meth.sig.returnType = none) (hlocks : meth.locks = false) (hG : GW g' σ w' H) (hS : va_S (gA g) s.heap H locs) (es : σ = σ') (hc : cells ≤ mc) (hs : slots ≤ ms) (hdg : decode cc pc = .ok (.return_, 1)) : W p l e R s m args below meth c H locs cells slots (MQ below (gM g g' σ' w' none) args s mc ms (gA g)) (F0 m pc ls []) :=
  W.widen hc hs (W.vret hx hb hr (fun t ht _ => ⟨rfl, by rw [ht, ← es]; exact hG, hS.F ht⟩) hS.2.2 hdg hlocks)
/-! .. of methods that may throw -/
theorem gx_iretRx {v v0 : Int32} (hx : p.tables.exec = Jvm.exec) (hb : c.code = cc) (hr : meth.sig.returnType = some .int) (hlocks : meth.locks = false) (ev : v = v0) (hD : D) (hc : cells ≤ mc) (hs : slots ≤ ms) (hdg : decode cc pc = .ok (.ireturn, 1)) : W p l e R s m args below meth c s.heap [] cells slots (vx_MQ below (gRx (.int v0) D) (gX P) args s mc ms (fun _ => False)) (F0 m pc ls [.int v]) :=
  vx_ret (W.widen hc hs (W.iret hx hb hr (fun t ht _ => ⟨by rw [ev], ht, hD⟩) (fun _ h => nomatch h) hdg hlocks))
theorem gx_aretRx {v v0 : Value} {rt : FieldType} (hx : p.tables.exec = Jvm.exec) (hb : c.code = cc) (hr : meth.sig.returnType = some rt) (hrt : (∃ n, rt = .object n) ∨ ∃ t, rt = .array t) (hlocks : meth.locks = false) (hv : v = .null ∨ ∃ a, v = .ref a) (ev : v = v0) (hD : D) (hc : cells ≤ mc) (hs : slots ≤ ms) (hdg : decode cc pc = .ok (.areturn, 1)) : W p l e R s m args below meth c s.heap [] cells slots (vx_MQ below (gRx v0 D) (gX P) args s mc ms (fun _ => False)) (F0 m pc ls [v]) :=
  vx_ret (W.widen hc hs (W.aret hx hb hr hrt hv (fun t ht _ => ⟨by rw [ev], ht, hD⟩) (fun _ h => nomatch h) hdg hlocks))
theorem gx_vretRx (hx : p.tables.exec = Jvm.exec) (hb : c.code = cc) (hr : meth.sig.returnType = none) (hlocks : meth.locks = false) (hD : D) (hc : cells ≤ mc) (hs : slots ≤ ms) (hdg : decode cc pc = .ok (.return_, 1)) : W p l e R s m args below meth c s.heap [] cells slots (vx_MQ below (gVx D) (gX P) args s mc ms (fun _ => False)) (F0 m pc ls []) :=
  vx_ret (W.widen hc hs (W.vret hx hb hr (fun t ht _ => ⟨rfl, ht, hD⟩) (fun _ h => nomatch h) hdg hlocks))
theorem gx_iretMx {v v0 : Int32} (hx : p.tables.exec = Jvm.exec) (hb : c.code = cc) (hr : meth.sig.returnType = some .int) (hlocks : meth.locks = false) (hG : GW g' σ w' H) (hS : va_S (gA g) s.heap H locs) (ev : v = v0) (es : σ = σ') (hD : D) (hc : cells ≤ mc) (hs : slots ≤ ms) (hdg : decode cc pc = .ok (.ireturn, 1)) : W p l e R s m args below meth c H locs cells slots (vx_MQ below (gMx g g' σ' w' (some (.int v0)) D) (gX P) args s mc ms (gA g)) (F0 m pc ls [.int v]) :=
  vx_ret (W.widen hc hs (W.iret hx hb hr (fun t ht _ => ⟨by rw [ev], by rw [ht, ← es]; exact hG, hS.F ht, hD⟩) hS.2.2 hdg hlocks))
/-- 'throw new E("text")' -/
theorem gx_throw {cls text : String} {ik is ic : Nat} {free : Addr → Prop} {Qc : Array Value → State → Outcome → State → Prop} {rest : List Value} (hx : p.tables.exec = Jvm.exec) (hb : c.code = cc) (hl : l.stackTraces = false) (hown : s.vm.findClass "TaxiRank" = some m.cls) (hlocks : meth.locks = false) (hZ : ZZ g s) (hS : va_S (gA g) s.heap H locs) (hsize : ls.size = c.maxLocals) (hnt : ∀ x ∈ c.exceptionTable.toList, False) {Ts : List Cond} (hts : ∀ w ∈ Ts, w.before args s = true)
    (hcls : Bundle.fit cls = true) (hk : Cond.classLink "TaxiRank" ik cls ∈ Ts) (hini : Cond.initialized cls ∈ Ts) (hstr : (is, text) ∈ gStrs) (hcs : (cls, cls) ∈ gCasts)
    (hgood : ∀ w ∈ (vx_atS "TaxiRank" ic cls ["java/lang/RuntimeException", "java/lang/Exception"]).filter goodWord, w ∈ Ts) (hbad : ∀ w ∈ (vx_atS "TaxiRank" ic cls ["java/lang/RuntimeException", "java/lang/Exception"]).filter (fun w => !goodWord w), w ∈ gBad cls) (hot : ∀ w ∈ vx_atS "TaxiRank" ic cls ["java/lang/RuntimeException", "java/lang/Exception"], vx_ot w = true)
    (d0 : decode cc pc = .ok (.new ik, 3)) (d3 : decode cc (pc + 3) = .ok (.dup, 1)) (d4 : decode cc (pc + 4) = .ok (.ldc is, 2)) (d6 : decode cc (pc + 6) = .ok (.invokespecial ic, 3)) (d9 : decode cc (pc + 9) = .ok (.athrow, 1))
    (hRf : 5 < R.frames) (hRl : (rest.map fun v => v.category).sum + 82 ≤ R.locals) (hRc : cells + 1 ≤ R.cells) (hRs : slots + 6 ≤ R.slots) (hH : ∀ q : Nat, q < s.heap.size → H[q]? = s.heap[q]?) (hHs : s.heap.size ≤ H.size) (hP : P cls) (hf : ∀ z ∈ locs, free z.base) (hc : cells + 1 ≤ mc) (hs : slots + 6 ≤ ms) :
    W p l e R s m args below meth c H locs cells slots (vx_MQ below Qc (gX P) args s mc ms free) (F0 m pc ls rest) := by
  obtain ⟨sa, hsa⟩ := hZ.2.2.2.2.1 _ hstr
  refine vx_throwS (names := ["java/lang/RuntimeException", "java/lang/Exception"]) (A := gA g) hx hb hl hown hcls (by decide +kernel) (hts _ hk) (hts _ hini) hsa (vx_hat (fun w hw => hts w (hgood w hw)) hbad (vx_c (va_Nw.use rfl (hZ.2.2.2.2.2.1 _ hcs)) (vx_c (va_Nw.use rfl (hZ.2.2.2.2.2.2.2.2.2.2.2.2.1 "java/lang/RuntimeException" (by decide +kernel))) (vx_c (va_Nw.use rfl (hZ.2.2.2.2.2.2.2.2.2.2.2.2.1 "java/lang/Exception" (by decide +kernel))) (vx_c (va_Nw.use rfl (hZ.2.2.2.2.2.2.2.2.2.2.2.2.1 Bundle.tN (by decide +kernel))) vx_n))))) ?_ hZ.2.2.1 hZ.2.2.2.1 hS hsize d0 d3 d4 d6 d9 (fun x hx => (hnt x hx).elim) hRf hRl hRc hRs hlocks ?_ hf hc hs
  · intro w hw
    rcases List.mem_cons.mp hw with rfl | hw
    · rfl
    · rcases List.mem_cons.mp hw with rfl | hw
      · rfl
      · exact hot w hw
  · intro t _ h1 h2
    exact ⟨hP, Nat.le_trans hHs h1, fun q hq => (h2 q (Nat.lt_of_lt_of_le hq hHs)).trans (hH q hq)⟩
/-- what a call has thrown goes on to the caller -/
theorem gx_xout {E : String} {ce : Cell} {q9 : Addr} {free : Addr → Prop} {Qc : Array Value → State → Outcome → State → Prop} {rest : List Value} (hnt : ∀ x ∈ c.exceptionTable.toList, False) (hlocks : meth.locks = false) (hP : P E) (hH : ∀ q : Nat, q < s.heap.size → H[q]? = s.heap[q]?) (hHs : s.heap.size ≤ H.size) (hcell : H[q9]? = some ce) (hv : ce.vm = .none) (hcl : s.vm.findClass E = some ce.cls) (hf : ∀ z ∈ locs, free z.base) (hc : cells ≤ mc) (hs : slots ≤ ms) :
    vx_W p l e R s m args below meth c H locs cells slots (vx_MQ below Qc (gX P) args s mc ms free) (F0 m pc ls rest) q9 :=
  vx_out (fun x hx => (hnt x hx).elim) hlocks hcell hv hcl (fun t ht _ => ⟨hP, by rw [ht]; exact hHs, fun q hq => by rw [ht]; exact hH q hq⟩) hf hc hs
end GEND
/-! truth as a number -/
def bI (b : Bool) : Int32 := if b then 1 else 0
theorem bI_t : bI true = 1 := rfl
theorem bI_f : bI false = 0 := rfl
theorem bI_eq0 {b : Bool} : bI b = 0 ↔ b = false := by cases b <;> decide
theorem bI_n (b : Bool) : narrow .boolean (.int (bI b)) = .int (bI b) := by cases b <;> rfl
