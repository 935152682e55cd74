section
-- ===== PART A: goes FIRST, ahead of the names: the tables' words, and 'selects' of the private methods out of them =====
/-- a private method of a class that the tables say can be made, by its rows of tables_1 -/
def lw_okq (q : MethodName × Nat) : Prop := (q.1.cls ≠ "java/lang/invoke/MethodHandle" ∧ q.1.cls ≠ "java/lang/invoke/VarHandle") ∧ Cond.instantiable q.1.cls q.2 ∈ tables_1 ∧ Cond.privateMethod q.1 ∈ tables_1 ∧ Cond.instanceMethod q.1 ∈ tables_1
theorem lw_p0 : lw_okq (⟨"TaxiRank", "cabNumbered", "(I)LTaxiRank$Cab;"⟩, 7) := ⟨⟨by decide +kernel, by decide +kernel⟩, List.mem_of_getElem? (i := 22) (by decide +kernel), List.mem_of_getElem? (i := 83) (by decide +kernel), List.mem_of_getElem? (i := 84) (by decide +kernel)⟩
theorem lw_p1 : lw_okq (⟨"java/lang/Throwable", "fillInStackTrace", "(I)Ljava/lang/Throwable;"⟩, 6) := ⟨⟨by decide +kernel, by decide +kernel⟩, List.mem_of_getElem? (i := 129) (by decide +kernel), List.mem_of_getElem? (i := 127) (by decide +kernel), List.mem_of_getElem? (i := 128) (by decide +kernel)⟩
theorem lw_p2 : lw_okq (⟨"TaxiRank", "cabDetail", "(LTaxiRank$Cab;I)I"⟩, 7) := ⟨⟨by decide +kernel, by decide +kernel⟩, List.mem_of_getElem? (i := 22) (by decide +kernel), List.mem_of_getElem? (i := 175) (by decide +kernel), List.mem_of_getElem? (i := 176) (by decide +kernel)⟩
theorem lw_p3 : lw_okq (⟨"TaxiRank", "placeOf", "(LTaxiRank$Cab;)I"⟩, 7) := ⟨⟨by decide +kernel, by decide +kernel⟩, List.mem_of_getElem? (i := 22) (by decide +kernel), List.mem_of_getElem? (i := 179) (by decide +kernel), List.mem_of_getElem? (i := 180) (by decide +kernel)⟩
theorem lw_p4 : lw_okq (⟨"TaxiRank", "turnDown", "(LTaxiRank$Cab;)V"⟩, 7) := ⟨⟨by decide +kernel, by decide +kernel⟩, List.mem_of_getElem? (i := 22) (by decide +kernel), List.mem_of_getElem? (i := 209) (by decide +kernel), List.mem_of_getElem? (i := 210) (by decide +kernel)⟩
theorem lw_p5 : lw_okq (⟨"TaxiRank", "joinQueue", "(LTaxiRank$Cab;)V"⟩, 7) := ⟨⟨by decide +kernel, by decide +kernel⟩, List.mem_of_getElem? (i := 22) (by decide +kernel), List.mem_of_getElem? (i := 216) (by decide +kernel), List.mem_of_getElem? (i := 217) (by decide +kernel)⟩
theorem lw_p6 : lw_okq (⟨"TaxiRank", "makeOffers", "()V"⟩, 7) := ⟨⟨by decide +kernel, by decide +kernel⟩, List.mem_of_getElem? (i := 22) (by decide +kernel), List.mem_of_getElem? (i := 220) (by decide +kernel), List.mem_of_getElem? (i := 221) (by decide +kernel)⟩
theorem lw_p7 : lw_okq (⟨"TaxiRank", "makeNextOffer", "()Z"⟩, 7) := ⟨⟨by decide +kernel, by decide +kernel⟩, List.mem_of_getElem? (i := 22) (by decide +kernel), List.mem_of_getElem? (i := 224) (by decide +kernel), List.mem_of_getElem? (i := 225) (by decide +kernel)⟩
theorem lw_p8 : lw_okq (⟨"TaxiRank", "isLookedAt", "(LTaxiRank$Order;)Z"⟩, 7) := ⟨⟨by decide +kernel, by decide +kernel⟩, List.mem_of_getElem? (i := 22) (by decide +kernel), List.mem_of_getElem? (i := 229) (by decide +kernel), List.mem_of_getElem? (i := 230) (by decide +kernel)⟩
theorem lw_p9 : lw_okq (⟨"TaxiRank", "cabFor", "(LTaxiRank$Order;)LTaxiRank$Cab;"⟩, 7) := ⟨⟨by decide +kernel, by decide +kernel⟩, List.mem_of_getElem? (i := 22) (by decide +kernel), List.mem_of_getElem? (i := 233) (by decide +kernel), List.mem_of_getElem? (i := 234) (by decide +kernel)⟩
theorem lw_p10 : lw_okq (⟨"TaxiRank", "rankOfZone", "(II)I"⟩, 7) := ⟨⟨by decide +kernel, by decide +kernel⟩, List.mem_of_getElem? (i := 22) (by decide +kernel), List.mem_of_getElem? (i := 243) (by decide +kernel), List.mem_of_getElem? (i := 244) (by decide +kernel)⟩
theorem lw_p11 : lw_okq (⟨"TaxiRank", "wayBetween", "(II)I"⟩, 7) := ⟨⟨by decide +kernel, by decide +kernel⟩, List.mem_of_getElem? (i := 22) (by decide +kernel), List.mem_of_getElem? (i := 247) (by decide +kernel), List.mem_of_getElem? (i := 248) (by decide +kernel)⟩
theorem lw_p12 : lw_okq (⟨"TaxiRank", "orderNumbered", "(I)LTaxiRank$Order;"⟩, 7) := ⟨⟨by decide +kernel, by decide +kernel⟩, List.mem_of_getElem? (i := 22) (by decide +kernel), List.mem_of_getElem? (i := 255) (by decide +kernel), List.mem_of_getElem? (i := 256) (by decide +kernel)⟩
theorem lw_p13 : lw_okq (⟨"TaxiRank", "ordersInState", "(I)I"⟩, 7) := ⟨⟨by decide +kernel, by decide +kernel⟩, List.mem_of_getElem? (i := 22) (by decide +kernel), List.mem_of_getElem? (i := 278) (by decide +kernel), List.mem_of_getElem? (i := 279) (by decide +kernel)⟩
theorem lw_p14 : lw_okq (⟨"java/util/ArrayList", "add", "(Ljava/lang/Object;[Ljava/lang/Object;I)V"⟩, 3) := ⟨⟨by decide +kernel, by decide +kernel⟩, List.mem_of_getElem? (i := 30) (by decide +kernel), List.mem_of_getElem? (i := 413) (by decide +kernel), List.mem_of_getElem? (i := 414) (by decide +kernel)⟩
theorem lw_p15 : lw_okq (⟨"java/util/ArrayList", "grow", "()[Ljava/lang/Object;"⟩, 3) := ⟨⟨by decide +kernel, by decide +kernel⟩, List.mem_of_getElem? (i := 30) (by decide +kernel), List.mem_of_getElem? (i := 417) (by decide +kernel), List.mem_of_getElem? (i := 418) (by decide +kernel)⟩
def lw_privs_1 : List (MethodName × Nat) := [(⟨"TaxiRank", "cabNumbered", "(I)LTaxiRank$Cab;"⟩, 7), (⟨"java/lang/Throwable", "fillInStackTrace", "(I)Ljava/lang/Throwable;"⟩, 6), (⟨"TaxiRank", "cabDetail", "(LTaxiRank$Cab;I)I"⟩, 7), (⟨"TaxiRank", "placeOf", "(LTaxiRank$Cab;)I"⟩, 7), (⟨"TaxiRank", "turnDown", "(LTaxiRank$Cab;)V"⟩, 7), (⟨"TaxiRank", "joinQueue", "(LTaxiRank$Cab;)V"⟩, 7), (⟨"TaxiRank", "makeOffers", "()V"⟩, 7), (⟨"TaxiRank", "makeNextOffer", "()Z"⟩, 7), (⟨"TaxiRank", "isLookedAt", "(LTaxiRank$Order;)Z"⟩, 7), (⟨"TaxiRank", "cabFor", "(LTaxiRank$Order;)LTaxiRank$Cab;"⟩, 7), (⟨"TaxiRank", "rankOfZone", "(II)I"⟩, 7), (⟨"TaxiRank", "wayBetween", "(II)I"⟩, 7), (⟨"TaxiRank", "orderNumbered", "(I)LTaxiRank$Order;"⟩, 7), (⟨"TaxiRank", "ordersInState", "(I)I"⟩, 7), (⟨"java/util/ArrayList", "add", "(Ljava/lang/Object;[Ljava/lang/Object;I)V"⟩, 3), (⟨"java/util/ArrayList", "grow", "()[Ljava/lang/Object;"⟩, 3)]
theorem lw_r1 : ∀ q ∈ lw_privs_1, lw_okq q := List.forall_mem_cons.mpr ⟨lw_p0, List.forall_mem_cons.mpr ⟨lw_p1, List.forall_mem_cons.mpr ⟨lw_p2, List.forall_mem_cons.mpr ⟨lw_p3, List.forall_mem_cons.mpr ⟨lw_p4, List.forall_mem_cons.mpr ⟨lw_p5, List.forall_mem_cons.mpr ⟨lw_p6, List.forall_mem_cons.mpr ⟨lw_p7, List.forall_mem_cons.mpr ⟨lw_p8, List.forall_mem_cons.mpr ⟨lw_p9, List.forall_mem_cons.mpr ⟨lw_p10, List.forall_mem_cons.mpr ⟨lw_p11, List.forall_mem_cons.mpr ⟨lw_p12, List.forall_mem_cons.mpr ⟨lw_p13, List.forall_mem_cons.mpr ⟨lw_p14, List.forall_mem_cons.mpr ⟨lw_p15, fun _ h => absurd h List.not_mem_nil⟩⟩⟩⟩⟩⟩⟩⟩⟩⟩⟩⟩⟩⟩⟩⟩
theorem lw_p16 : lw_okq (⟨"java/util/ArrayList", "grow", "(I)[Ljava/lang/Object;"⟩, 3) := ⟨⟨by decide +kernel, by decide +kernel⟩, List.mem_of_getElem? (i := 30) (by decide +kernel), List.mem_of_getElem? (i := 421) (by decide +kernel), List.mem_of_getElem? (i := 422) (by decide +kernel)⟩
theorem lw_p17 : lw_okq (⟨"TaxiRankLaw$Rank", "choose", "(I)I"⟩, 11) := ⟨⟨by decide +kernel, by decide +kernel⟩, List.mem_of_getElem? (i := 282) (by decide +kernel), List.mem_of_getElem? (i := 541) (by decide +kernel), List.mem_of_getElem? (i := 542) (by decide +kernel)⟩
theorem lw_p18 : lw_okq (⟨"TaxiRankLaw$Rank", "first", "(II)I"⟩, 11) := ⟨⟨by decide +kernel, by decide +kernel⟩, List.mem_of_getElem? (i := 282) (by decide +kernel), List.mem_of_getElem? (i := 545) (by decide +kernel), List.mem_of_getElem? (i := 546) (by decide +kernel)⟩
theorem lw_p19 : lw_okq (⟨"TaxiRank", "putWay", "(III)V"⟩, 7) := ⟨⟨by decide +kernel, by decide +kernel⟩, List.mem_of_getElem? (i := 22) (by decide +kernel), List.mem_of_getElem? (i := 555) (by decide +kernel), List.mem_of_getElem? (i := 556) (by decide +kernel)⟩
theorem lw_p20 : lw_okq (⟨"TaxiRank", "releaseCab", "(LTaxiRank$Order;)V"⟩, 7) := ⟨⟨by decide +kernel, by decide +kernel⟩, List.mem_of_getElem? (i := 22) (by decide +kernel), List.mem_of_getElem? (i := 579) (by decide +kernel), List.mem_of_getElem? (i := 580) (by decide +kernel)⟩
theorem lw_p21 : lw_okq (⟨"TaxiRank", "passMinute", "()I"⟩, 7) := ⟨⟨by decide +kernel, by decide +kernel⟩, List.mem_of_getElem? (i := 22) (by decide +kernel), List.mem_of_getElem? (i := 589) (by decide +kernel), List.mem_of_getElem? (i := 590) (by decide +kernel)⟩
theorem lw_p22 : lw_okq (⟨"TaxiRank", "refuseOldOffers", "()V"⟩, 7) := ⟨⟨by decide +kernel, by decide +kernel⟩, List.mem_of_getElem? (i := 22) (by decide +kernel), List.mem_of_getElem? (i := 593) (by decide +kernel), List.mem_of_getElem? (i := 594) (by decide +kernel)⟩
theorem lw_p23 : lw_okq (⟨"TaxiRank", "bringCabsOn", "()I"⟩, 7) := ⟨⟨by decide +kernel, by decide +kernel⟩, List.mem_of_getElem? (i := 22) (by decide +kernel), List.mem_of_getElem? (i := 597) (by decide +kernel), List.mem_of_getElem? (i := 598) (by decide +kernel)⟩
theorem lw_p24 : lw_okq (⟨"TaxiRank", "beginRide", "(LTaxiRank$Cab;LTaxiRank$Order;)V"⟩, 7) := ⟨⟨by decide +kernel, by decide +kernel⟩, List.mem_of_getElem? (i := 22) (by decide +kernel), List.mem_of_getElem? (i := 601) (by decide +kernel), List.mem_of_getElem? (i := 602) (by decide +kernel)⟩
theorem lw_p25 : lw_okq (⟨"TaxiRank", "meterFare", "(LTaxiRank$Order;I)V"⟩, 7) := ⟨⟨by decide +kernel, by decide +kernel⟩, List.mem_of_getElem? (i := 22) (by decide +kernel), List.mem_of_getElem? (i := 605) (by decide +kernel), List.mem_of_getElem? (i := 606) (by decide +kernel)⟩
theorem lw_p26 : lw_okq (⟨"TaxiRank", "endRide", "(LTaxiRank$Cab;LTaxiRank$Order;)V"⟩, 7) := ⟨⟨by decide +kernel, by decide +kernel⟩, List.mem_of_getElem? (i := 22) (by decide +kernel), List.mem_of_getElem? (i := 610) (by decide +kernel), List.mem_of_getElem? (i := 611) (by decide +kernel)⟩
def lw_privs_2 : List (MethodName × Nat) := [(⟨"java/util/ArrayList", "grow", "(I)[Ljava/lang/Object;"⟩, 3), (⟨"TaxiRankLaw$Rank", "choose", "(I)I"⟩, 11), (⟨"TaxiRankLaw$Rank", "first", "(II)I"⟩, 11), (⟨"TaxiRank", "putWay", "(III)V"⟩, 7), (⟨"TaxiRank", "releaseCab", "(LTaxiRank$Order;)V"⟩, 7), (⟨"TaxiRank", "passMinute", "()I"⟩, 7), (⟨"TaxiRank", "refuseOldOffers", "()V"⟩, 7), (⟨"TaxiRank", "bringCabsOn", "()I"⟩, 7), (⟨"TaxiRank", "beginRide", "(LTaxiRank$Cab;LTaxiRank$Order;)V"⟩, 7), (⟨"TaxiRank", "meterFare", "(LTaxiRank$Order;I)V"⟩, 7), (⟨"TaxiRank", "endRide", "(LTaxiRank$Cab;LTaxiRank$Order;)V"⟩, 7)]
theorem lw_r2 : ∀ q ∈ lw_privs_2, lw_okq q := List.forall_mem_cons.mpr ⟨lw_p16, List.forall_mem_cons.mpr ⟨lw_p17, List.forall_mem_cons.mpr ⟨lw_p18, List.forall_mem_cons.mpr ⟨lw_p19, List.forall_mem_cons.mpr ⟨lw_p20, List.forall_mem_cons.mpr ⟨lw_p21, List.forall_mem_cons.mpr ⟨lw_p22, List.forall_mem_cons.mpr ⟨lw_p23, List.forall_mem_cons.mpr ⟨lw_p24, List.forall_mem_cons.mpr ⟨lw_p25, List.forall_mem_cons.mpr ⟨lw_p26, fun _ h => absurd h List.not_mem_nil⟩⟩⟩⟩⟩⟩⟩⟩⟩⟩⟩
def lw_privs : List (MethodName × Nat) := lw_privs_1 ++ (lw_privs_2)
def lw_tbl : List Cond := k2_sels lw_privs ++ tables_1
theorem lw_privs_ok : ∀ q ∈ lw_privs, lw_okq q := by
  show ∀ q ∈ lw_privs_1 ++ (lw_privs_2), lw_okq q
  exact List.forall_mem_append.mpr ⟨lw_r1, lw_r2⟩
end
section
/-! ===== BEGIN words of one list among another's, by their places ===== -/
theorem goodIn_r {big : List Cond} (ws : List Cond) (ps : List Nat) (hp : ws = ps.filterMap (fun i => big[i]?)) (h : ws.all goodWord = true) : GoodIn big ws := by
  intro w hw
  have h1 := List.all_eq_true.mp h w hw
  rw [hp] at hw
  obtain ⟨i, -, hi⟩ := List.mem_filterMap.mp hw
  have hm : w ∈ big := by first | exact List.mem_of_getElem? hi | exact List.getElem?_mem hi
  exact ⟨hm, good_of_word h1⟩
theorem goodIn_app {big a b : List Cond} (ha : GoodIn big a) (hb : GoodIn big b) : GoodIn big (a ++ b) := fun w h => (List.mem_append.mp h).elim (ha w) (hb w)
theorem goodIn_ca {big a b : List Cond} {c : Cond} (ha : GoodIn big (c :: a)) (hb : GoodIn big b) : GoodIn big (c :: (a ++ b)) := fun w h => (List.mem_cons.mp h).elim (fun e => ha w (List.mem_cons.mpr (Or.inl e))) (fun h => (List.mem_append.mp h).elim (fun h => ha w (List.mem_cons.mpr (Or.inr h))) (hb w))
theorem goodIn_sub {big ws : List Cond} (hm : ∀ w ∈ ws, w ∈ big) (h : ws.all goodWord = true) : GoodIn big ws := fun w hw => ⟨hm w hw, good_of_word (List.all_eq_true.mp h w hw)⟩
/-! ===== END ===== -/


/-! ===== BEGIN exceptions that leave a method, and their catching by the caller (launches without stack traces) ===== -/
section VXA
/-! The laws vx_back, vx_callV, vx_callS, vx_callSW, vx_throw0, vx_throwS follow proofs of the library, with one case more: JvmDerived/Free/Laws.lean (Back.of_free), Shelf42/LK1.lean (callV, callS), Shelf/KitTraced.lean (throwNew0V, throwNewS). -/
/-- where a method has thrown q: the class by its name, the cell, what was written, the world -/
def vx_T (XC : String → State → State → Prop) (st : State) (q : Addr) (t : State) (mc ms : Nat) (free : Addr → Prop) : Prop :=
  ∃ (E : String) (ce : Cell) (L : List Loc), XC E st t ∧ t.heap[q]? = some ce ∧ ce.vm = .none ∧ st.vm.findClass E = some ce.cls ∧ st.WarmedH t.vm ∧ st.sameButNew ({ t with vm := st.vm } : State) L mc ms ∧ ∀ z ∈ L, free z.base
def vx_Q (Qc : Array Value → State → Outcome → State → Prop) (XC : String → State → State → Prop) (mc ms : Nat) (free : Addr → Prop) : Array Value → State → Outcome → State → Prop := fun a st o t =>
  (Qc a st o t ∧ ∃ L, FrameEnd st o t L mc ms ∧ ∀ q ∈ L, free q.base) ∨ ∃ q, o = .threw q ∧ vx_T XC st q t mc ms free
/-- a callee that returns or throws -/
def vx_Met (l : Launch) (y : MethodName) (ws : List Cond) (rm : Room) (Pc : Array Value → State → Prop) (Qc : Array Value → State → Outcome → State → Prop) (XC : String → State → State → Prop) (mc ms : Nat) (free : Addr → Prop) : Prop :=
  MetFree l y (headSpec ws rm) Pc (fun _ _ _ _ _ => True) (vx_Q Qc XC mc ms free)
def vx_Post (XC : String → State → State → Prop) (mc ms : Nat) (free : Addr → Prop) : Pt → Array Value → Addr → Pt → Prop := fun A a q B =>
  ∃ (g : JFrame) (mk : MethodId) (t : State) (L : List Loc) (E : String) (ce : Cell), B.U.heap = t.heap ∧ B.U.vm = t.vm ∧ XC E (A.U.calling g mk a) t ∧ t.heap[q]? = some ce ∧ ce.vm = .none ∧ A.U.vm.findClass E = some ce.cls ∧ B.locs = A.locs ++ L ∧ (∀ z ∈ L, free z.base) ∧ B.cells = A.cells + mc ∧ B.slots = A.slots + ms
def vx_Back (l : Launch) (R : Room) (p : Program) (e : Env) (below : List Frame) (s : State) (sargs : Array Value) (y : MethodName) (len W9 : Nat)
    (Pre : Pt → Array Value → Prop) (Post : Pt → Array Value → Option Value → Pt → Prop) (PostX : Pt → Array Value → Addr → Pt → Prop) : Prop :=
  ∀ (m : MethodId) (meth : Method) (c : Code) (A : Pt) (g : JFrame) (ig : Instr) (mk : MethodId) (a : Array Value),
    Stand p l e R s m sargs below meth c A.U A.locs A.cells A.slots → g.method = m → g.locals.size = c.maxLocals → decode c.code g.pc = .ok (ig, len) →
    2 * g.monitorRoom + (g.stack.map fun v => v.category).sum ≤ W9 → A.U.methodNamed? y = some mk → Pre A a →
    (∃ (v : Option Value) (B : Pt), Stand p l e R s m sargs below meth c B.U B.locs B.cells B.slots ∧ Post A a v B ∧
      Steps p.tables e below (doInvoke e (A.U.setTop g) [] mk a).1 (B.U.setTop { g with pc := g.pc + len, stack := v.toList ++ g.stack })) ∨
    (∃ (q : Addr) (B : Pt), Stand p l e R s m sargs below meth c B.U B.locs B.cells B.slots ∧ PostX A a q B ∧
      Steps p.tables e below (doInvoke e (A.U.setTop g) [] mk a).1 ((B.U.setTop g).pushFrame (.throwing q)))
section Payer
variable {l : Launch} {R : Room} {p : Program} {e : Env} {below : List Frame} {s : State} {sargs : Array Value} {y : MethodName} {len W9 : Nat}
theorem vx_back {ws : List Cond} {rm : Room} {Pc : Array Value → State → Prop} {Qc : Array Value → State → Outcome → State → Prop} {XC : String → State → State → Prop} {mc ms : Nat} {free : Addr → Prop} {bytes : ByteArray} {maxL : Nat} {ret : Option FieldType}
    (hM : vx_Met l y ws rm Pc Qc XC mc ms free) (hblind : FrameBlind Pc) (hrc : rm.cells = mc) (hrs : rm.slots = ms)
    (hframes : rm.frames + 1 ≤ R.frames) (hlocals : W9 + (maxL + 11) + rm.locals ≤ R.locals)
    (hws : ∀ w ∈ ws, ∀ a' U, s.WarmedH U.vm → w.before a' U = true) (hcode : Cond.code y bytes maxL ret ∈ ws) (hinit : ∀ a' U, s.WarmedH U.vm → (Cond.initialized y.cls).before a' U = true) :
    vx_Back l R p e below s sargs y len W9 (PreOf R mc ms Pc) (PostOf Qc mc ms free) (vx_Post XC mc ms free) := by
  intro m meth c A g ig mk a X hg hsize hdg hW hn hp
  have h1 : (headSpec ws rm).pre.before a A.U = true := atoms_intro fun w hw => hws w hw _ _ X.warmed
  have h2 : (Cond.code y bytes maxL ret).before a A.U = true := hws _ hcode _ _ X.warmed
  have h3 : (Cond.initialized y.cls).before a A.U = true := hinit _ _ X.warmed
  have h4 : A.cells + (headSpec ws rm).room.cells ≤ R.cells := by rw [show (headSpec ws rm).room.cells = mc from hrc]; exact hp.1
  have h5 : A.slots + (headSpec ws rm).room.slots ≤ R.slots := by rw [show (headSpec ws rm).room.slots = ms from hrs]; exact hp.2.1
  have hPc : Pc a (A.U.calling g mk a) := hblind _ _ _ _ hp.2.2
  obtain ⟨U, Ls, c0, s0⟩ := A
  dsimp only [Pt.U, Pt.locs, Pt.cells, Pt.slots] at h1 h2 h3 h4 h5 X hn hPc ⊢
  obtain ⟨methY, cY, hmY, hcY, -, hlY, -, -, -, -⟩ := Cond.code_spec hn h2
  obtain ⟨kY, hkY, -⟩ := className_of_methodNamed hn
  have hinitY : kY.init = .initialized := Cond.initialized_spec (findClass_of_methodNamed hn) hkY h3
  have h : At U g.method c below := by rw [hg]; exact X.here
  have hlocals9 : W9 + (maxL + 11) + (headSpec ws rm).room.locals ≤ R.locals := hlocals
  have happ : (headSpec ws rm).appliesLoose y e.platform (U.calling g mk a) = true :=
    Spec.appliesLoose_calling (g := g) h hdg hn hkY hinitY
      (X.room_calling (g := g) (R' := (headSpec ws rm).room) hsize hmY hcY hframes (by rw [hlY]; omega) h4 h5) h1
  obtain ⟨mid, hmid⟩ := h.above
  have hfr : (U.setTop g).frames = (.java g :: mid) ++ below := by rw [State.frames_setTop' g h.top, hmid]; rfl
  obtain ⟨o, s₂, hsteps, -, hend, hq⟩ := Steps.callFree hM p X.admits X.cas X.clock (acts := []) hfr happ hPc trivial
  have hq' : vx_Q Qc XC mc ms free a (U.calling g mk a) o s₂ := hq
  rw [State.frames_setTop' g h.top] at hend
  obtain ⟨g₀, hg0⟩ := Option.isSome_iff_exists.mp h.top
  obtain ⟨r, hr⟩ := State.topJava?_eq_some.mp hg0
  have hr' : (({ U with heap := s₂.heap, slotsUsed := s₂.slotsUsed } : State).setVm s₂.vm).frames = .java g₀ :: r := hr
  rcases hq' with ⟨hqc, L, hfe, hL⟩ | ⟨q, rfl, E, ce, L, hx, hce, hcv, hcl, hW₂, hsm, hL⟩
  · obtain ⟨⟨v, rfl⟩, hW₂, e2, q2, q3, q4, q5, q6⟩ := id hfe
    have e3 : s₂ = ({ (U.calling g mk a).setFrames s₂.frames with heap := s₂.heap, slotsUsed := s₂.slotsUsed } : State).setVm s₂.vm := by
      have : s₂ = ({ s₂ with vm := (U.calling g mk a).vm } : State).setVm s₂.vm := rfl
      rw [e2] at this
      exact this
    obtain ⟨c₂, i₂, len₂, hc₂, hd₂, hf₂⟩ := hend
    have hW' : U.WarmedH s₂.vm := hW₂
    have hcc : c₂ = c := by
      have h1 : s₂.code? g.method = U.code? g.method := by
        rw [State.code?_eq, State.code?_eq, hW'.alike.method?]
      exact Option.some.inj (hc₂.symm.trans (h1.trans h.code))
    subst hcc
    have hlen : len₂ = len := by rw [hdg] at hd₂; cases hd₂; rfl
    subst hlen
    have hs₂ : s₂ = (({ U with heap := s₂.heap, slotsUsed := s₂.slotsUsed } : State).setVm s₂.vm).setTop { g with pc := g.pc + len₂, stack := v.toList ++ g.stack } := by
      refine e3.trans ?_
      rw [hf₂, State.calling_eq h.top, State.setFrames_setFrames, State.setTop_of_frames _ hr', hr]
      rfl
    have hsame : U.sameButNew ({ U with heap := s₂.heap, slotsUsed := s₂.slotsUsed } : State) L mc ms := by
      refine ⟨?_, q2, q3, q4, q5, q6⟩
      obtain ⟨t, ht, -⟩ := State.frames_cons hr
      show ({ U with heap := s₂.heap, slotsUsed := s₂.slotsUsed } : State) = { U.setFrames U.frames with heap := s₂.heap, slotsUsed := s₂.slotsUsed }
      rw [State.setFrames_self ht]
    subst hg
    refine Or.inl ⟨v, ⟨(({ U with heap := s₂.heap, slotsUsed := s₂.slotsUsed } : State).setVm s₂.vm), Ls ++ L, c0 + mc, s0 + ms⟩,
      ⟨X.admits, X.cas, X.clock, X.frames, X.room, X.hears, X.method, X.code, (X.here.setHeapUsed s₂.heap s₂.slotsUsed).setVm hW'.alike, X.tail, State.WarmedH.trans X.warmed hW', X.limits, X.bytes, X.same.trans (hsame.setVm s.vm)⟩,
      ⟨g, mk, s₂, L, rfl, rfl, hqc, rfl, hL, rfl, rfl⟩, ?_⟩
    show Steps p.tables e below _ ((({ U with heap := s₂.heap, slotsUsed := s₂.slotsUsed } : State).setVm s₂.vm).setTop { g with pc := g.pc + len₂, stack := v.toList ++ g.stack })
    rw [← hs₂]
    exact hsteps
  · obtain ⟨e2, q2, q3, q4, q5, q6⟩ := id hsm
    have e3 : s₂ = ({ (U.calling g mk a).setFrames s₂.frames with heap := s₂.heap, slotsUsed := s₂.slotsUsed } : State).setVm s₂.vm := by
      have : s₂ = ({ s₂ with vm := (U.calling g mk a).vm } : State).setVm s₂.vm := rfl
      rw [e2] at this
      exact this
    have hf₂ : s₂.frames = .throwing q :: .java g :: U.frames.tail := hend
    have hW' : U.WarmedH s₂.vm := hW₂
    have hs₂ : s₂ = ((({ U with heap := s₂.heap, slotsUsed := s₂.slotsUsed } : State).setVm s₂.vm).setTop g).pushFrame (.throwing q) := by
      refine e3.trans ?_
      rw [hf₂, State.calling_eq h.top, State.setFrames_setFrames, State.pushFrame, State.frames_setTop _ hr', State.setTop_of_frames _ hr', State.setFrames_setFrames, hr]
      rfl
    have hsame : U.sameButNew ({ U with heap := s₂.heap, slotsUsed := s₂.slotsUsed } : State) L mc ms := by
      refine ⟨?_, q2, q3, q4, q5, q6⟩
      obtain ⟨t, ht, -⟩ := State.frames_cons hr
      show ({ U with heap := s₂.heap, slotsUsed := s₂.slotsUsed } : State) = { U.setFrames U.frames with heap := s₂.heap, slotsUsed := s₂.slotsUsed }
      rw [State.setFrames_self ht]
    subst hg
    refine Or.inr ⟨q, ⟨(({ U with heap := s₂.heap, slotsUsed := s₂.slotsUsed } : State).setVm s₂.vm), Ls ++ L, c0 + mc, s0 + ms⟩,
      ⟨X.admits, X.cas, X.clock, X.frames, X.room, X.hears, X.method, X.code, (X.here.setHeapUsed s₂.heap s₂.slotsUsed).setVm hW'.alike, X.tail, State.WarmedH.trans X.warmed hW', X.limits, X.bytes, X.same.trans (hsame.setVm s.vm)⟩,
      ⟨g, mk, s₂, L, E, ce, rfl, rfl, hx, hce, hcv, hcl, rfl, hL, rfl, rfl⟩, ?_⟩
    show Steps p.tables e below _ (((({ U with heap := s₂.heap, slotsUsed := s₂.slotsUsed } : State).setVm s₂.vm).setTop g).pushFrame (.throwing q))
    rw [← hs₂]
    exact hsteps
end Payer
section Calls
variable {p : Program} {l : Launch} {e : Env} {R : Room} {s : State} {m : MethodId} {args : Array Value} {below : List Frame} {meth : Method} {c : Code} {T : State} {locs : List Loc} {cells slots : Nat}
theorem vx_callV (X : Stand p l e R s m args below meth c T locs cells slots) (hexec : p.tables.exec = Jvm.exec) {own C : String} {index : Nat} {y : MethodName} {bytes : ByteArray} {maxL : Nat} {ret : Option FieldType}
    (hown : s.vm.findClass own = some m.cls) (hlink : (Cond.methodLink own index y).before args s = true) (hinst : (Cond.instanceMethod y).before args s = true) (hsel : (Cond.selects C y y).before args s = true)
    (hcode : (Cond.code y bytes maxL ret).before args s = true) (hy : y.cls ≠ "java/lang/invoke/MethodHandle" ∧ y.cls ≠ "java/lang/invoke/VarHandle")
    {W9 : Nat} {Pre : Pt → Array Value → Prop} {Post : Pt → Array Value → Option Value → Pt → Prop} {PostX : Pt → Array Value → Addr → Pt → Prop} (hK : vx_Back l R p e below s args y 3 W9 Pre Post PostX)
    {b : Addr} {cellB : Cell} (hcell : T.heap[b]? = some cellB) (hobj : cellB.vm.isStatics = false) (hcls : s.vm.findClass C = some cellB.cls)
    {g : JFrame} (hg : g.method = m) (hsize : g.locals.size = c.maxLocals) {argsL rest : List Value} (hlen : ∀ sig, parseMethodDescriptor y.desc = some sig → argsL.length = sig.parameters.length)
    (hstack : g.stack = argsL.reverse ++ .ref b :: rest) (hW : 2 * g.monitorRoom + (rest.map fun v => v.category).sum ≤ W9) (hdg : decode c.code g.pc = .ok (.invokevirtual index, 3))
    (hpre : ∀ vm₁, s.WarmedH vm₁ → Pre ⟨T.setVm vm₁, locs, cells, slots⟩ (Value.ref b :: argsL).toArray) :
    (∃ (v : Option Value) (vm₁ : Vm) (B : Pt), s.WarmedH vm₁ ∧ Stand p l e R s m args below meth c B.U B.locs B.cells B.slots ∧ Post ⟨T.setVm vm₁, locs, cells, slots⟩ (Value.ref b :: argsL).toArray v B ∧
      ∀ target, Steps p.tables e below (B.U.setTop { g with pc := g.pc + 3, stack := v.toList ++ rest }) target → Steps p.tables e below (T.setTop g) target) ∨
    (∃ (q : Addr) (vm₁ : Vm) (B : Pt), s.WarmedH vm₁ ∧ Stand p l e R s m args below meth c B.U B.locs B.cells B.slots ∧ PostX ⟨T.setVm vm₁, locs, cells, slots⟩ (Value.ref b :: argsL).toArray q B ∧
      Steps p.tables e below (T.setTop g) ((B.U.setTop { g with stack := rest }).pushFrame (.throwing q))) := by
  obtain ⟨mk, methM, hnamed, hmethM, hstM, habM⟩ := Cond.instanceMethod_spec hinst
  obtain ⟨methM', cM, hmethM', -, -, -, -, -, -, hsigM⟩ := Cond.code_spec hnamed hcode
  cases hmethM.symm.trans hmethM'
  obtain ⟨c2, r2, m2, q1, q2, q3, q4, kP, hkP, hkPi⟩ := Cond.selects_spec hsel
  cases hcls.symm.trans q1
  cases (State.methodFound?_of_named hnamed hy).symm.trans q2
  cases hnamed.symm.trans q3
  have hselP : selectMethod e.platform s.vm cellB.cls mk = .method mk := by rw [Launch.admits_selectMethod X.admits]; exact q4
  obtain ⟨vm₁, X₁, hstep₁⟩ := X.invokevirtual hexec hown hlink hnamed hmethM hstM hkP hkPi hy (a := b) (cell := cellB) hcell
    (fun z h => by rw [h] at hobj; cases hobj) hselP hmethM habM hkP hkPi (g := g) hg (argsL := argsL) (rest := rest) (hlen _ hsigM) hstack hdg
  rcases hK m meth c ⟨T.setVm vm₁, locs, cells, slots⟩ { g with stack := rest } (.invokevirtual index) mk (Value.ref b :: argsL).toArray X₁ hg hsize hdg hW (X₁.named hnamed) (hpre vm₁ X₁.warmed) with ⟨v, B, X', hpost, hsteps⟩ | ⟨q, B, X', hpost, hsteps⟩
  · exact Or.inl ⟨v, vm₁, B, X₁.warmed, X', hpost, fun target h => hstep₁ _ fun acts => by rw [doInvoke_state]; exact hsteps.trans h⟩
  · exact Or.inr ⟨q, vm₁, B, X₁.warmed, X', hpost, hstep₁ _ fun acts => by rw [doInvoke_state]; exact hsteps⟩
theorem vx_callS (X : Stand p l e R s m args below meth c T locs cells slots) (hexec : p.tables.exec = Jvm.exec) {own : String} {index : Nat} {y : MethodName} {bytes : ByteArray} {maxL : Nat} {ret : Option FieldType}
    (hown : s.vm.findClass own = some m.cls) (hlink : (Cond.methodLink own index y).before args s = true) (hstat : (Cond.static y).before args s = true) (hinit : (Cond.initialized y.cls).before args s = true)
    (hcode : (Cond.code y bytes maxL ret).before args s = true) (hy : y.cls ≠ "java/lang/invoke/MethodHandle" ∧ y.cls ≠ "java/lang/invoke/VarHandle")
    {W9 : Nat} {Pre : Pt → Array Value → Prop} {Post : Pt → Array Value → Option Value → Pt → Prop} {PostX : Pt → Array Value → Addr → Pt → Prop} (hK : vx_Back l R p e below s args y 3 W9 Pre Post PostX)
    {g : JFrame} (hg : g.method = m) (hsize : g.locals.size = c.maxLocals) {argsL rest : List Value} (hlen : ∀ sig, parseMethodDescriptor y.desc = some sig → argsL.length = sig.parameters.length)
    (hstack : g.stack = argsL.reverse ++ rest) (hW : 2 * g.monitorRoom + (rest.map fun v => v.category).sum ≤ W9) (hdg : decode c.code g.pc = .ok (.invokestatic index, 3))
    (hpre : ∀ vm₁, s.WarmedH vm₁ → Pre ⟨T.setVm vm₁, locs, cells, slots⟩ argsL.toArray) :
    (∃ (v : Option Value) (vm₁ : Vm) (B : Pt), s.WarmedH vm₁ ∧ Stand p l e R s m args below meth c B.U B.locs B.cells B.slots ∧ Post ⟨T.setVm vm₁, locs, cells, slots⟩ argsL.toArray v B ∧
      ∀ target, Steps p.tables e below (B.U.setTop { g with pc := g.pc + 3, stack := v.toList ++ rest }) target → Steps p.tables e below (T.setTop g) target) ∨
    (∃ (q : Addr) (vm₁ : Vm) (B : Pt), s.WarmedH vm₁ ∧ Stand p l e R s m args below meth c B.U B.locs B.cells B.slots ∧ PostX ⟨T.setVm vm₁, locs, cells, slots⟩ argsL.toArray q B ∧
      Steps p.tables e below (T.setTop g) ((B.U.setTop { g with stack := rest }).pushFrame (.throwing q))) := by
  obtain ⟨mk, hnamed⟩ := Cond.code_named hcode
  obtain ⟨methM, cM, hmethM, -, -, -, -, -, -, hsigM⟩ := Cond.code_spec hnamed hcode
  have hstatic : methM.isStatic = true := Cond.static_spec hnamed hmethM hstat
  obtain ⟨kP, hkP, -⟩ := className_of_methodNamed hnamed
  have hinitP : kP.init = .initialized := Cond.initialized_spec (findClass_of_methodNamed hnamed) hkP hinit
  obtain ⟨vm₁, X₁, hstep₁⟩ := X.invokestatic hexec hown hlink hnamed hmethM hstatic hkP hinitP hy (g := g) hg (argsL := argsL) (rest := rest) (hlen _ hsigM) hstack hdg
  rcases hK m meth c ⟨T.setVm vm₁, locs, cells, slots⟩ { g with stack := rest } (.invokestatic index) mk argsL.toArray X₁ hg hsize hdg hW (X₁.named hnamed) (hpre vm₁ X₁.warmed) with ⟨v, B, X', hpost, hsteps⟩ | ⟨q, B, X', hpost, hsteps⟩
  · exact Or.inl ⟨v, vm₁, B, X₁.warmed, X', hpost, fun target h => hstep₁ _ fun acts => by rw [doInvoke_state]; exact hsteps.trans h⟩
  · exact Or.inr ⟨q, vm₁, B, X₁.warmed, X', hpost, hstep₁ _ fun acts => by rw [doInvoke_state]; exact hsteps⟩
end Calls
theorem vx_cls {s : State} {T : State} {vm₁ : Vm} {E : String} {k : ClassId} (hW : s.WarmedH vm₁) (h : (T.setVm vm₁).vm.findClass E = some k) : s.vm.findClass E = some k := by
  have h1 : vm₁.findClass E = some k := h
  rw [hW.alike.findClass] at h1
  exact h1
/-- the method's frame g, with q thrown over it -/
def vx_W (p : Program) (l : Launch) (e : Env) (R : Room) (s : State) (m : MethodId) (args : Array Value) (below : List Frame) (meth : Method) (c : Code) (H : Heap) (locs : List Loc) (cells slots : Nat) (Q : State → Prop) (g : JFrame) (q : Addr) : Prop :=
  ∀ T : State, T.heap = H → Stand p l e R s m args below meth c T locs cells slots → ∃ t, Steps p.tables e below ((T.setTop g).pushFrame (.throwing q)) t ∧ Q t
def vx_Run (p : Program) (l : Launch) (e : Env) (R : Room) (s : State) (m : MethodId) (args : Array Value) (below : List Frame) (meth : Method) (c : Code) (H : Heap) (locs : List Loc) (cells slots mc ms : Nat) (g : JFrame) (rest : List Value) (Qa : State → Outcome → State → Prop) (XC : String → State → State → Prop) (free : Addr → Prop) : Prop :=
  ∀ T : State, T.heap = H → Stand p l e R s m args below meth c T locs cells slots →
    (∃ (v : Option Value) (st₀ t T' : State) (L : List Loc), st₀.heap = H ∧ Stand p l e R s m args below meth c T' (locs ++ L) (cells + mc) (slots + ms) ∧ (∀ q ∈ L, free q.base) ∧ T'.heap = t.heap ∧ T'.vm = t.vm ∧ Qa st₀ (.returned v) t ∧
      Goes p e below T g T' { g with pc := g.pc + 3, stack := v.toList ++ rest }) ∨
    (∃ (q : Addr) (st₀ t T' : State) (L : List Loc) (E : String) (ce : Cell), st₀.heap = H ∧ Stand p l e R s m args below meth c T' (locs ++ L) (cells + mc) (slots + ms) ∧ (∀ z ∈ L, free z.base) ∧ T'.heap = t.heap ∧ T'.vm = t.vm ∧ XC E st₀ t ∧ t.heap[q]? = some ce ∧ ce.vm = .none ∧ s.vm.findClass E = some ce.cls ∧
      Steps p.tables e below (T.setTop g) ((T'.setTop { g with stack := rest }).pushFrame (.throwing q)))
def vx_X {S : Type} (px : S → Prop) (B : String → S → State → Prop) (A : Nat → Prop) : String → State → State → Prop := fun E st t => ∃ u : S, px u ∧ B E u t ∧ va_F A st t
section Runs
variable {p : Program} {l : Launch} {e : Env} {R : Room} {s : State} {m : MethodId} {args : Array Value} {below : List Frame} {meth : Method} {c : Code} {H : Heap} {locs : List Loc} {cells slots : Nat}
variable {y : MethodName} {bytes cc : ByteArray} {maxL nL mc ms n index : Nat} {ret : Option FieldType} {ws : List Cond} {rm : Room} {Pc : Array Value → State → Prop} {Qc : Array Value → State → Outcome → State → Prop} {XC : String → State → State → Prop} {free : Addr → Prop} {Ts : List Cond} {own C : String} {b : Addr} {As rest : List Value} {g : JFrame}
theorem vx_callBack (cb : CallB R s args own index y bytes maxL ret ws rm mc ms n) (hM : vx_Met l y ws rm Pc Qc XC mc ms free) (hbl : FrameBlind Pc) : vx_Back l R p e below s args y 3 8 (PreOf R mc ms Pc) (PostOf Qc mc ms free) (vx_Post XC mc ms free) := by
  obtain ⟨hrc, hrs, hfr, hlo, hws, hcw, -, hini, -⟩ := cb
  exact vx_back (bytes := bytes) (maxL := maxL) (ret := ret) hM hbl hrc hrs hfr hlo hws hcw (fun a' U hW => word_at hW (Or.inl (by first | rfl | simp [Cond.onTables, Cond.keeps, Cond.steady])) hini)
theorem vx_runV (S : CallFix p m c cc nL s args Ts own) (hM : vx_Met l y ws rm Pc Qc XC mc ms free) (cw : CallW R s args own C index y bytes maxL ret ws rm mc ms n) (hp : PreV s H C b Pc As)
    (hg : g.method = m) (hn : As.length = n) (hsize : g.locals.size = nL) (hstack : g.stack = As.reverse ++ .ref b :: rest) (hW : 2 * g.monitorRoom + (rest.map fun v => v.category).sum ≤ 8) (hdg : decode cc g.pc = .ok (.invokevirtual index, 3)) (hf : cells + mc ≤ R.cells ∧ slots + ms ≤ R.slots) :
    vx_Run p l e R s m args below meth c H locs cells slots mc ms g rest (Qc (Value.ref b :: As).toArray) XC free := by
  have hK : vx_Back l R p e below s args y 3 8 (PreOf R mc ms Pc) (PostOf Qc mc ms free) (vx_Post XC mc ms free) := vx_callBack cw.1 hM hp.1
  obtain ⟨⟨-, -, -, -, -, -, hcode, -, hy, hlen, hl⟩, hin, hse⟩ := cw
  obtain ⟨hx, hb, hml, ho, -⟩ := S
  obtain ⟨-, ⟨cellB, hcB, hoB, hclB⟩, hPc⟩ := hp
  intro T hT X
  rcases vx_callV X hx (C := C) (bytes := bytes) (maxL := maxL) (ret := ret) ho hl hin hse hcode hy hK (by rw [hT]; exact hcB) hoB hclB hg (hsize.trans hml.symm) (argsL := As) (rest := rest) (fun sig h => hn.trans (hlen sig h)) hstack hW (by rw [hb]; exact hdg)
    (fun vm₁ hW₁ => ⟨hf.1, hf.2, hPc (T.setVm vm₁) hT hW₁⟩) with ⟨v, vm₁, ⟨U', l2, c2, s2⟩, hW₁, X', ⟨g', mk, t, L, e1, e2, hq, h1, hL, h2, h3⟩, st⟩ | ⟨q, vm₁, ⟨U', l2, c2, s2⟩, hW₁, X', ⟨g', mk, t, L, E, ce, e1, e2, hq, hce, hcv, hcl, h1, hL, h2, h3⟩, st⟩
  · dsimp only [Pt.U, Pt.locs, Pt.cells, Pt.slots] at X' e1 e2 h1 h2 h3 st
    subst h1; subst h2; subst h3
    exact Or.inl ⟨v, (T.setVm vm₁).calling g' mk (Value.ref b :: As).toArray, t, U', L, hT, X', hL, e1, e2, hq, st⟩
  · dsimp only [Pt.U, Pt.locs, Pt.cells, Pt.slots] at X' e1 e2 h1 h2 h3 st hcl
    subst h1; subst h2; subst h3
    exact Or.inr ⟨q, (T.setVm vm₁).calling g' mk (Value.ref b :: As).toArray, t, U', L, E, ce, hT, X', hL, e1, e2, hq, hce, hcv, vx_cls hW₁ hcl, st⟩
theorem vx_runS (S : CallFix p m c cc nL s args Ts own) (hM : vx_Met l y ws rm Pc Qc XC mc ms free) (cw : CallB R s args own index y bytes maxL ret ws rm mc ms n ∧ (Cond.static y).before args s = true) (hp : PreS s H Pc As)
    (hg : g.method = m) (hn : As.length = n) (hsize : g.locals.size = nL) (hstack : g.stack = As.reverse ++ rest) (hW : 2 * g.monitorRoom + (rest.map fun v => v.category).sum ≤ 8) (hdg : decode cc g.pc = .ok (.invokestatic index, 3)) (hf : cells + mc ≤ R.cells ∧ slots + ms ≤ R.slots) :
    vx_Run p l e R s m args below meth c H locs cells slots mc ms g rest (Qc As.toArray) XC free := by
  have hK : vx_Back l R p e below s args y 3 8 (PreOf R mc ms Pc) (PostOf Qc mc ms free) (vx_Post XC mc ms free) := vx_callBack cw.1 hM hp.1
  obtain ⟨⟨-, -, -, -, -, -, hcode, hini, hy, hlen, hl⟩, hstt⟩ := cw
  obtain ⟨hx, hb, hml, ho, -⟩ := S
  intro T hT X
  rcases vx_callS X hx (bytes := bytes) (maxL := maxL) (ret := ret) ho hl hstt hini hcode hy hK hg (hsize.trans hml.symm) (argsL := As) (rest := rest) (fun sig h => hn.trans (hlen sig h)) hstack hW (by rw [hb]; exact hdg)
    (fun vm₁ hW₁ => ⟨hf.1, hf.2, hp.2 (T.setVm vm₁) hT hW₁⟩) with ⟨v, vm₁, ⟨U', l2, c2, s2⟩, hW₁, X', ⟨g', mk, t, L, e1, e2, hq, h1, hL, h2, h3⟩, st⟩ | ⟨q, vm₁, ⟨U', l2, c2, s2⟩, hW₁, X', ⟨g', mk, t, L, E, ce, e1, e2, hq, hce, hcv, hcl, h1, hL, h2, h3⟩, st⟩
  · dsimp only [Pt.U, Pt.locs, Pt.cells, Pt.slots] at X' e1 e2 h1 h2 h3 st
    subst h1; subst h2; subst h3
    exact Or.inl ⟨v, (T.setVm vm₁).calling g' mk As.toArray, t, U', L, hT, X', hL, e1, e2, hq, st⟩
  · dsimp only [Pt.U, Pt.locs, Pt.cells, Pt.slots] at X' e1 e2 h1 h2 h3 st hcl
    subst h1; subst h2; subst h3
    exact Or.inr ⟨q, (T.setVm vm₁).calling g' mk As.toArray, t, U', L, E, ce, hT, X', hL, e1, e2, hq, hce, hcv, vx_cls hW₁ hcl, st⟩
end Runs
section Rows
variable {p : Program} {l : Launch} {e : Env} {R : Room} {s : State} {m : MethodId} {args : Array Value} {below : List Frame} {meth : Method} {c : Code} {H : Heap} {locs : List Loc} {cells slots : Nat} {Q : State → Prop}
variable {mc ms : Nat} {free : Addr → Prop} {A0 A1 : Nat → Prop} {H0 : Heap} {a : Array Value} {pc : Nat} {ls : Array Slot} {st0 rest : List Value}
theorem vx_keep {st₀ t T' : State} {L : List Loc} (h0 : st₀.heap = H) (e1 : T'.heap = t.heap) (hS : va_S A0 H0 H locs) (hA : ∀ q, q < H.size → A1 q → A0 q) (hf : ∀ q, free q → A0 q) (hL : ∀ q ∈ L, free q.base) (hF : va_F A1 st₀ t) :
    H.size ≤ T'.heap.size ∧ (∀ q : Nat, q < H.size → ¬ A1 q → T'.heap[q]? = H[q]?) ∧ va_S A0 H0 T'.heap (locs ++ L) := by
  obtain ⟨hz, hk⟩ := hF
  rw [h0] at hz hk
  exact ⟨by rw [e1]; exact hz, fun q h1 h2 => by rw [e1]; exact hk q h1 h2,
    ⟨Nat.le_trans hS.1 (by rw [e1]; exact hz), fun q h1 h2 => by rw [e1, hk q (Nat.lt_of_lt_of_le h1 hS.1) (fun z => h2 (hA q (Nat.lt_of_lt_of_le h1 hS.1) z))]; exact hS.2.1 q h1 h2, fun q hq => by
      rcases List.mem_append.mp hq with h | h
      · exact hS.2.2 q h
      · exact hf _ (hL q h)⟩⟩
theorem vx_calli {S SX : Type} {post : Int32 → S → Prop} {px : SX → Prop} {B : S → State → Prop} {BX : String → SX → State → Prop} {AX : Nat → Prop} (hr : vx_Run p l e R s m args below meth c H locs cells slots mc ms (F0 m pc ls st0) rest (va_Qi post B A1 a) (vx_X px BX AX) free) (hS : va_S A0 H0 H locs) (hA : ∀ q, q < H.size → A1 q → A0 q) (hf : ∀ q, free q → A0 q) (hAX : ∀ q, q < H.size → AX q → A0 q)
    (kx : ∀ (E : String) (ce : Cell) (q9 : Addr) (u : SX) (t : State) (H1 : Heap) (locs1 : List Loc), t.heap = H1 → s.vm.Alike t.vm → px u → BX E u t → H.size ≤ H1.size → (∀ q : Nat, q < H.size → ¬ AX q → H1[q]? = H[q]?) → va_S A0 H0 H1 locs1 → H1[q9]? = some ce → ce.vm = .none → s.vm.findClass E = some ce.cls → vx_W p l e R s m args below meth c H1 locs1 (cells + mc) (slots + ms) Q (F0 m pc ls rest) q9)
    (kk : ∀ (r : Int32) (u : S) (t : State) (H1 : Heap) (locs1 : List Loc), t.heap = H1 → s.vm.Alike t.vm → post r u → B u t → H.size ≤ H1.size → (∀ q : Nat, q < H.size → ¬ A1 q → H1[q]? = H[q]?) → va_S A0 H0 H1 locs1 → W p l e R s m args below meth c H1 locs1 (cells + mc) (slots + ms) Q (F0 m (pc + 3) ls (.int r :: rest))) : W p l e R s m args below meth c H locs cells slots Q (F0 m pc ls st0) := by
  intro T hT X
  rcases hr T hT X with ⟨v, st₀, t, T', L, h0, X', hL, e1, e2, ⟨⟨r, u, hv, hp, hb⟩, hF⟩, st⟩ | ⟨q, st₀, t, T', L, E, ce, h0, X', hL, e1, e2, ⟨u, hp, hb, hF⟩, hce, hcv, hcl, st⟩
  · cases hv
    obtain ⟨k1, k2, k3⟩ := vx_keep h0 e1 hS hA hf hL hF
    obtain ⟨t2, a1, b1⟩ := kk r u t T'.heap (locs ++ L) e1.symm (by rw [← e2]; exact X'.warmed.alike) hp hb k1 k2 k3 T' rfl X'
    exact ⟨t2, st t2 a1, b1⟩
  · obtain ⟨k1, k2, k3⟩ := vx_keep h0 e1 hS hAX hf hL hF
    obtain ⟨t2, a1, b1⟩ := kx E ce q u t T'.heap (locs ++ L) e1.symm (by rw [← e2]; exact X'.warmed.alike) hp hb k1 k2 k3 (by rw [e1]; exact hce) hcv hcl T' rfl X'
    exact ⟨t2, st.trans a1, b1⟩
theorem vx_calll {S SX : Type} {post : Int64 → S → Prop} {px : SX → Prop} {B : S → State → Prop} {BX : String → SX → State → Prop} {AX : Nat → Prop} (hr : vx_Run p l e R s m args below meth c H locs cells slots mc ms (F0 m pc ls st0) rest (va_Ql post B A1 a) (vx_X px BX AX) free) (hS : va_S A0 H0 H locs) (hA : ∀ q, q < H.size → A1 q → A0 q) (hf : ∀ q, free q → A0 q) (hAX : ∀ q, q < H.size → AX q → A0 q)
    (kx : ∀ (E : String) (ce : Cell) (q9 : Addr) (u : SX) (t : State) (H1 : Heap) (locs1 : List Loc), t.heap = H1 → s.vm.Alike t.vm → px u → BX E u t → H.size ≤ H1.size → (∀ q : Nat, q < H.size → ¬ AX q → H1[q]? = H[q]?) → va_S A0 H0 H1 locs1 → H1[q9]? = some ce → ce.vm = .none → s.vm.findClass E = some ce.cls → vx_W p l e R s m args below meth c H1 locs1 (cells + mc) (slots + ms) Q (F0 m pc ls rest) q9)
    (kk : ∀ (r : Int64) (u : S) (t : State) (H1 : Heap) (locs1 : List Loc), t.heap = H1 → s.vm.Alike t.vm → post r u → B u t → H.size ≤ H1.size → (∀ q : Nat, q < H.size → ¬ A1 q → H1[q]? = H[q]?) → va_S A0 H0 H1 locs1 → W p l e R s m args below meth c H1 locs1 (cells + mc) (slots + ms) Q (F0 m (pc + 3) ls (.long r :: rest))) : W p l e R s m args below meth c H locs cells slots Q (F0 m pc ls st0) := by
  intro T hT X
  rcases hr T hT X with ⟨v, st₀, t, T', L, h0, X', hL, e1, e2, ⟨⟨r, u, hv, hp, hb⟩, hF⟩, st⟩ | ⟨q, st₀, t, T', L, E, ce, h0, X', hL, e1, e2, ⟨u, hp, hb, hF⟩, hce, hcv, hcl, st⟩
  · cases hv
    obtain ⟨k1, k2, k3⟩ := vx_keep h0 e1 hS hA hf hL hF
    obtain ⟨t2, a1, b1⟩ := kk r u t T'.heap (locs ++ L) e1.symm (by rw [← e2]; exact X'.warmed.alike) hp hb k1 k2 k3 T' rfl X'
    exact ⟨t2, st t2 a1, b1⟩
  · obtain ⟨k1, k2, k3⟩ := vx_keep h0 e1 hS hAX hf hL hF
    obtain ⟨t2, a1, b1⟩ := kx E ce q u t T'.heap (locs ++ L) e1.symm (by rw [← e2]; exact X'.warmed.alike) hp hb k1 k2 k3 (by rw [e1]; exact hce) hcv hcl T' rfl X'
    exact ⟨t2, st.trans a1, b1⟩
theorem vx_callf {S SX : Type} {post : UInt32 → S → Prop} {px : SX → Prop} {B : S → State → Prop} {BX : String → SX → State → Prop} {AX : Nat → Prop} (hr : vx_Run p l e R s m args below meth c H locs cells slots mc ms (F0 m pc ls st0) rest (va_Qf post B A1 a) (vx_X px BX AX) free) (hS : va_S A0 H0 H locs) (hA : ∀ q, q < H.size → A1 q → A0 q) (hf : ∀ q, free q → A0 q) (hAX : ∀ q, q < H.size → AX q → A0 q)
    (kx : ∀ (E : String) (ce : Cell) (q9 : Addr) (u : SX) (t : State) (H1 : Heap) (locs1 : List Loc), t.heap = H1 → s.vm.Alike t.vm → px u → BX E u t → H.size ≤ H1.size → (∀ q : Nat, q < H.size → ¬ AX q → H1[q]? = H[q]?) → va_S A0 H0 H1 locs1 → H1[q9]? = some ce → ce.vm = .none → s.vm.findClass E = some ce.cls → vx_W p l e R s m args below meth c H1 locs1 (cells + mc) (slots + ms) Q (F0 m pc ls rest) q9)
    (kk : ∀ (r : UInt32) (u : S) (t : State) (H1 : Heap) (locs1 : List Loc), t.heap = H1 → s.vm.Alike t.vm → post r u → B u t → H.size ≤ H1.size → (∀ q : Nat, q < H.size → ¬ A1 q → H1[q]? = H[q]?) → va_S A0 H0 H1 locs1 → W p l e R s m args below meth c H1 locs1 (cells + mc) (slots + ms) Q (F0 m (pc + 3) ls (.float r :: rest))) : W p l e R s m args below meth c H locs cells slots Q (F0 m pc ls st0) := by
  intro T hT X
  rcases hr T hT X with ⟨v, st₀, t, T', L, h0, X', hL, e1, e2, ⟨⟨r, u, hv, hp, hb⟩, hF⟩, st⟩ | ⟨q, st₀, t, T', L, E, ce, h0, X', hL, e1, e2, ⟨u, hp, hb, hF⟩, hce, hcv, hcl, st⟩
  · cases hv
    obtain ⟨k1, k2, k3⟩ := vx_keep h0 e1 hS hA hf hL hF
    obtain ⟨t2, a1, b1⟩ := kk r u t T'.heap (locs ++ L) e1.symm (by rw [← e2]; exact X'.warmed.alike) hp hb k1 k2 k3 T' rfl X'
    exact ⟨t2, st t2 a1, b1⟩
  · obtain ⟨k1, k2, k3⟩ := vx_keep h0 e1 hS hAX hf hL hF
    obtain ⟨t2, a1, b1⟩ := kx E ce q u t T'.heap (locs ++ L) e1.symm (by rw [← e2]; exact X'.warmed.alike) hp hb k1 k2 k3 (by rw [e1]; exact hce) hcv hcl T' rfl X'
    exact ⟨t2, st.trans a1, b1⟩
theorem vx_calld {S SX : Type} {post : UInt64 → S → Prop} {px : SX → Prop} {B : S → State → Prop} {BX : String → SX → State → Prop} {AX : Nat → Prop} (hr : vx_Run p l e R s m args below meth c H locs cells slots mc ms (F0 m pc ls st0) rest (va_Qd post B A1 a) (vx_X px BX AX) free) (hS : va_S A0 H0 H locs) (hA : ∀ q, q < H.size → A1 q → A0 q) (hf : ∀ q, free q → A0 q) (hAX : ∀ q, q < H.size → AX q → A0 q)
    (kx : ∀ (E : String) (ce : Cell) (q9 : Addr) (u : SX) (t : State) (H1 : Heap) (locs1 : List Loc), t.heap = H1 → s.vm.Alike t.vm → px u → BX E u t → H.size ≤ H1.size → (∀ q : Nat, q < H.size → ¬ AX q → H1[q]? = H[q]?) → va_S A0 H0 H1 locs1 → H1[q9]? = some ce → ce.vm = .none → s.vm.findClass E = some ce.cls → vx_W p l e R s m args below meth c H1 locs1 (cells + mc) (slots + ms) Q (F0 m pc ls rest) q9)
    (kk : ∀ (r : UInt64) (u : S) (t : State) (H1 : Heap) (locs1 : List Loc), t.heap = H1 → s.vm.Alike t.vm → post r u → B u t → H.size ≤ H1.size → (∀ q : Nat, q < H.size → ¬ A1 q → H1[q]? = H[q]?) → va_S A0 H0 H1 locs1 → W p l e R s m args below meth c H1 locs1 (cells + mc) (slots + ms) Q (F0 m (pc + 3) ls (.double r :: rest))) : W p l e R s m args below meth c H locs cells slots Q (F0 m pc ls st0) := by
  intro T hT X
  rcases hr T hT X with ⟨v, st₀, t, T', L, h0, X', hL, e1, e2, ⟨⟨r, u, hv, hp, hb⟩, hF⟩, st⟩ | ⟨q, st₀, t, T', L, E, ce, h0, X', hL, e1, e2, ⟨u, hp, hb, hF⟩, hce, hcv, hcl, st⟩
  · cases hv
    obtain ⟨k1, k2, k3⟩ := vx_keep h0 e1 hS hA hf hL hF
    obtain ⟨t2, a1, b1⟩ := kk r u t T'.heap (locs ++ L) e1.symm (by rw [← e2]; exact X'.warmed.alike) hp hb k1 k2 k3 T' rfl X'
    exact ⟨t2, st t2 a1, b1⟩
  · obtain ⟨k1, k2, k3⟩ := vx_keep h0 e1 hS hAX hf hL hF
    obtain ⟨t2, a1, b1⟩ := kx E ce q u t T'.heap (locs ++ L) e1.symm (by rw [← e2]; exact X'.warmed.alike) hp hb k1 k2 k3 (by rw [e1]; exact hce) hcv hcl T' rfl X'
    exact ⟨t2, st.trans a1, b1⟩
theorem vx_callv {S SX : Type} {post : S → Prop} {px : SX → Prop} {B : S → State → Prop} {BX : String → SX → State → Prop} {AX : Nat → Prop} (hr : vx_Run p l e R s m args below meth c H locs cells slots mc ms (F0 m pc ls st0) rest (va_Qv post B A1 a) (vx_X px BX AX) free) (hS : va_S A0 H0 H locs) (hA : ∀ q, q < H.size → A1 q → A0 q) (hf : ∀ q, free q → A0 q) (hAX : ∀ q, q < H.size → AX q → A0 q)
    (kx : ∀ (E : String) (ce : Cell) (q9 : Addr) (u : SX) (t : State) (H1 : Heap) (locs1 : List Loc), t.heap = H1 → s.vm.Alike t.vm → px u → BX E u t → H.size ≤ H1.size → (∀ q : Nat, q < H.size → ¬ AX q → H1[q]? = H[q]?) → va_S A0 H0 H1 locs1 → H1[q9]? = some ce → ce.vm = .none → s.vm.findClass E = some ce.cls → vx_W p l e R s m args below meth c H1 locs1 (cells + mc) (slots + ms) Q (F0 m pc ls rest) q9)
    (kk : ∀ (u : S) (t : State) (H1 : Heap) (locs1 : List Loc), t.heap = H1 → s.vm.Alike t.vm → post u → B u t → H.size ≤ H1.size → (∀ q : Nat, q < H.size → ¬ A1 q → H1[q]? = H[q]?) → va_S A0 H0 H1 locs1 → W p l e R s m args below meth c H1 locs1 (cells + mc) (slots + ms) Q (F0 m (pc + 3) ls (rest))) : W p l e R s m args below meth c H locs cells slots Q (F0 m pc ls st0) := by
  intro T hT X
  rcases hr T hT X with ⟨v, st₀, t, T', L, h0, X', hL, e1, e2, ⟨⟨u, hv, hp, hb⟩, hF⟩, st⟩ | ⟨q, st₀, t, T', L, E, ce, h0, X', hL, e1, e2, ⟨u, hp, hb, hF⟩, hce, hcv, hcl, st⟩
  · cases hv
    obtain ⟨k1, k2, k3⟩ := vx_keep h0 e1 hS hA hf hL hF
    obtain ⟨t2, a1, b1⟩ := kk u t T'.heap (locs ++ L) e1.symm (by rw [← e2]; exact X'.warmed.alike) hp hb k1 k2 k3 T' rfl X'
    exact ⟨t2, st t2 a1, b1⟩
  · obtain ⟨k1, k2, k3⟩ := vx_keep h0 e1 hS hAX hf hL hF
    obtain ⟨t2, a1, b1⟩ := kx E ce q u t T'.heap (locs ++ L) e1.symm (by rw [← e2]; exact X'.warmed.alike) hp hb k1 k2 k3 (by rw [e1]; exact hce) hcv hcl T' rfl X'
    exact ⟨t2, st.trans a1, b1⟩
/-- caught by the row x of this method's table; the rows ahead don't take it -/
theorem vx_catch {own name : String} {E : String} {ce : Cell} {q : Addr} (hown : s.vm.findClass own = some m.cls) (pre : List ExceptionTableEntry) (x : ExceptionTableEntry) (suf : List ExceptionTableEntry) (hsplit : c.exceptionTable.toList = pre ++ x :: suf)
    (hpass : ∀ z ∈ pre, covers z pc = false ∨ (z.catchType ≠ 0 ∧ ∃ nm : String, (Cond.classLink own z.catchType nm).before args s = true ∧ va_Nc E nm s)) (hx : covers x pc = true) (h0 : x.catchType ≠ 0)
    (hlink : (Cond.classLink own x.catchType name).before args s = true) (hcast : (Cond.castable E name).before args s = true) (hcell : H[q]? = some ce) (hv : ce.vm = .none) (hcl : s.vm.findClass E = some ce.cls)
    (kk : W p l e R s m args below meth c H locs cells slots Q (F0 m x.handlerPc ls [.ref q])) : vx_W p l e R s m args below meth c H locs cells slots Q (F0 m pc ls rest) q := by
  intro T hT X
  have hpl : e.platform.magicAccessors = ({} : Platform).magicAccessors := by rw [X.admits.platform]
  obtain ⟨c3, c4, hc3, hc4, hasg⟩ := Cond.castable_spec hcast
  cases Option.some.inj (hc3.symm.trans hcl)
  obtain ⟨c5, hc5, hcl5⟩ := Cond.classLink_spec hown hlink e.platform hpl
  cases Option.some.inj (hc4.symm.trans hc5)
  obtain ⟨vm', X', st⟩ := X.thenCaughtThrough q (g := F0 m pc ls rest) rfl (Steps.refl _) (by rw [hT]; exact hcell) (by rw [hv]; rfl) (by obtain ⟨k9, h9, -⟩ := Vm.findClass_spec hcl; exact ⟨k9, h9⟩) pre x suf hsplit
    (fun z hz => by
      rcases hpass z hz with h | ⟨hz0, nm, hl1, hn1⟩
      · exact Or.inl h
      · obtain ⟨c6, hc6, hcl6⟩ := Cond.classLink_spec hown hl1 e.platform hpl
        obtain ⟨a8, b8, h1, h2, h3⟩ := hn1
        cases Option.some.inj (h1.symm.trans hcl)
        cases Option.some.inj (h2.symm.trans hc6)
        exact Or.inr ⟨hz0, _, hcl6, h3⟩) hx (Or.inr ⟨h0, c4, hcl5, hasg⟩)
  obtain ⟨t, a1, b1⟩ := kk (T.setVm vm') hT X'
  exact ⟨t, st.trans a1, b1⟩
end Rows
section Ends
variable {p : Program} {l : Launch} {e : Env} {R : Room} {s : State} {m : MethodId} {args : Array Value} {below : List Frame} {meth : Method} {c : Code} {H : Heap} {locs : List Loc} {cells slots : Nat} {Q : State → Prop}
variable {mc ms : Nat} {free : Addr → Prop} {A0 A1 : Nat → Prop} {H0 : Heap} {a : Array Value} {ls : Array Slot} {st0 rest : List Value}
variable {Qc : Array Value → State → Outcome → State → Prop} {XC : String → State → State → Prop}
/-- what a body that may throw owes at its end -/
def vx_MQ (below : List Frame) (Qc : Array Value → State → Outcome → State → Prop) (XC : String → State → State → Prop) (a : Array Value) (s : State) (mc ms : Nat) (free : Addr → Prop) : State → Prop := fun t =>
  ∃ o, t.status = .running ∧ Ended t below o ∧ vx_Q Qc XC mc ms free a s o t
theorem vx_ret {g : JFrame} {mc ms : Nat} (k : W p l e R s m args below meth c H locs cells slots (MQ below Qc args s mc ms free) g) : W p l e R s m args below meth c H locs cells slots (vx_MQ below Qc XC args s mc ms free) g := by
  intro T hT X
  obtain ⟨t, a1, o, b1, b2, b3, b4⟩ := k T hT X
  exact ⟨t, a1, o, b1, b2, Or.inl ⟨b3, b4⟩⟩
/-- not caught here: it goes on to the caller -/
theorem vx_widen {g : JFrame} {q : Addr} {k n : Nat} (h1 : cells ≤ k) (h2 : slots ≤ n) (kk : vx_W p l e R s m args below meth c H locs k n Q g q) : vx_W p l e R s m args below meth c H locs cells slots Q g q := fun T hT X => kk T hT (stand_widen X h1 h2)
theorem vx_out {pc : Nat} {E : String} {ce : Cell} {q : Addr} {mc ms : Nat} (hout : ∀ x ∈ c.exceptionTable.toList, covers x pc = false) (hlocks : meth.locks = false) (hcell : H[q]? = some ce) (hv : ce.vm = .none) (hcl : s.vm.findClass E = some ce.cls)
    (hx : ∀ t : State, t.heap = H → s.vm.Alike t.vm → XC E s t) (hf : ∀ z ∈ locs, free z.base) (hc : cells ≤ mc) (hs : slots ≤ ms) :
    vx_W p l e R s m args below meth c H locs cells slots (vx_MQ below Qc XC args s mc ms free) (F0 m pc ls rest) q := by
  intro T hT X
  obtain ⟨st1, hrun, hend, hW, hsm⟩ := X.leaveThrown q (g := F0 m pc ls rest) rfl rfl rfl hout hlocks
  have hcell9 : (T.setFrames (.throwing q :: below)).heap[q]? = some ce := by
    show T.heap[q]? = some ce
    rw [hT]; exact hcell
  exact ⟨_, st1, .threw q, hrun, hend, Or.inr ⟨q, rfl, E, ce, locs, hx _ hT hW.alike, hcell9, hv, hcl, hW, hsm.mono hc hs, hf⟩⟩
theorem vx_frame {U : State} {k n : Nat} (h : s.sameButNew ({ U with vm := s.vm } : State) locs k n) : s.heap.size ≤ U.heap.size ∧ ∀ q : Nat, q < s.heap.size → (∀ z ∈ locs, z.base ≠ q) → U.heap[q]? = s.heap[q]? := by
  obtain ⟨-, h2, -, -, -, h6⟩ := h
  refine ⟨h2, fun q hq hz => ?_⟩
  obtain ⟨c9, e1, e2, e3, e4⟩ := h6 q _ (Array.getElem?_eq_getElem hq)
  have hs : c9.slots = (s.heap[q]).slots := Array.ext_getElem? fun i => e4 i fun hm => hz _ hm rfl
  have h9 : c9 = s.heap[q] := by
    rw [hs] at e2
    exact e2
  have e5 : U.heap[q]? = some c9 := e1
  rw [e5, h9, Array.getElem?_eq_getElem hq]
/-- the words of a throw but the four that speak of the heap -/
def vx_no (w : Cond) : Bool := decide (w ≠ .isRef (.static Bundle.tN "UNASSIGNED_STACK" Bundle.steD)) && decide (w ≠ .isRef (.static Bundle.tN "SUPPRESSED_SENTINEL" Bundle.listD)) && decide (w ≠ .laysStatic Bundle.tN "UNASSIGNED_STACK" Bundle.steD) && decide (w ≠ .laysStatic Bundle.tN "SUPPRESSED_SENTINEL" Bundle.listD)
def vx_at0 (own : String) (ic : Nat) (X : String) (names : List String) : List Cond := (Bundle.ownAtoms0 own ic X names).filter vx_no
def vx_atS (own : String) (ic : Nat) (X : String) (names : List String) : List Cond := (Bundle.ownAtoms own ic X names).filter vx_no
/-- a word that the tables alone decide, or a good one -/
def vx_ot (w : Cond) : Bool := w.onTables || goodWord w
theorem vx_ot_at {args a' : Array Value} {s U : State} {w : Cond} (hW : s.WarmedH U.vm) (hvm : s.vm = U.vm) (hg : vx_ot w = true) (h : w.before args s = true) : w.before a' U = true := by
  simp only [vx_ot, Bool.or_eq_true] at hg
  rcases hg with hg | hg
  · exact va_tabs hg hvm h
  · exact word_at hW (good_of_word hg) h
/-- a list's words: the good ones out of the method's own list, the others by premises of their own -/
theorem vx_hat {args : Array Value} {s : State} {L B : List Cond} (h1 : ∀ w ∈ L.filter goodWord, w.before args s = true) (h2 : ∀ w ∈ L.filter (fun w => !goodWord w), w ∈ B) (h3 : ∀ w ∈ B, w.before args s = true) : ∀ w ∈ L, w.before args s = true := by
  intro w hw
  by_cases g : goodWord w = true
  · exact h1 w (List.mem_filter.mpr ⟨hw, g⟩)
  · refine h3 w (h2 w (List.mem_filter.mpr ⟨hw, ?_⟩))
    show (!goodWord w) = true
    cases hgw : goodWord w
    · rfl
    · exact absurd hgw g
theorem vx_c {args : Array Value} {s : State} {w : Cond} {B : List Cond} (h : w.before args s = true) (t : ∀ w ∈ B, w.before args s = true) : ∀ w' ∈ w :: B, w'.before args s = true := fun w' h' => (List.mem_cons.mp h').elim (fun e => by rw [e]; exact h) (t w')
theorem vx_n {args : Array Value} {s : State} : ∀ w ∈ ([] : List Cond), w.before args s = true := fun _ h => nomatch h
theorem vx_own {args : Array Value} {s : State} {L : List Cond} (h1 : ∀ w ∈ L.filter vx_no, w.before args s = true)
    (hU : (Cond.isRef (.static Bundle.tN "UNASSIGNED_STACK" Bundle.steD)).before args s = true) (hN : (Cond.isRef (.static Bundle.tN "SUPPRESSED_SENTINEL" Bundle.listD)).before args s = true)
    (lU : (Cond.laysStatic Bundle.tN "UNASSIGNED_STACK" Bundle.steD).before args s = true) (lN : (Cond.laysStatic Bundle.tN "SUPPRESSED_SENTINEL" Bundle.listD).before args s = true) : ∀ w ∈ L, w.before args s = true := by
  intro w hw
  by_cases e1 : w = .isRef (.static Bundle.tN "UNASSIGNED_STACK" Bundle.steD)
  · rw [e1]; exact hU
  · by_cases e2 : w = .isRef (.static Bundle.tN "SUPPRESSED_SENTINEL" Bundle.listD)
    · rw [e2]; exact hN
    · by_cases e3 : w = .laysStatic Bundle.tN "UNASSIGNED_STACK" Bundle.steD
      · rw [e3]; exact lU
      · by_cases e4 : w = .laysStatic Bundle.tN "SUPPRESSED_SENTINEL" Bundle.listD
        · rw [e4]; exact lN
        · exact h1 w (List.mem_filter.mpr ⟨hw, by unfold vx_no; rw [decide_eq_true e1, decide_eq_true e2, decide_eq_true e3, decide_eq_true e4]; rfl⟩)
/-- where a static field lies, its class's statics cell in H -/
def vx_L (C n d : String) (A : Nat → Prop) (U : State) (H : Heap) : Prop := ∃ (c : ClassId) (k : Class) (i : Nat) (f : Field) (a : Nat) (cell : Cell), U.vm.findClass C = some c ∧ U.fieldFound? C n d = some (c, k, i, f) ∧ f.isStatic = true ∧ k.statics = some a ∧ H[a]? = some cell ∧ cell.vm.isStatics = true ∧ cell.cls = c ∧ f.slot < cell.slots.size ∧ k.staticTypes[f.slot]? = some f.type ∧ ¬ A a
theorem vx_L.moved {C n d : String} {A : Nat → Prop} {u U : State} {H : Heap} (hvm : u.vm.Alike U.vm) (h : vx_L C n d A u H) : vx_L C n d A U H := by
  obtain ⟨c, k, i, f, a, cell, h1, h2, h3, h4, h5, h6, h7, h8, h9, h10⟩ := h
  obtain ⟨k', hi', he⟩ := State.fieldFound?_setVm hvm h2
  exact ⟨c, k', i, f, a, cell, by rw [hvm.findClass]; exact h1, hi', h3, by rw [he]; exact h4, h5, h6, h7, h8, by rw [he]; exact h9, h10⟩
theorem vx_L.kept {C n d : String} {A : Nat → Prop} {U : State} {H H1 : Heap} (h : vx_L C n d A U H) (hq : ∀ a : Nat, a < H.size → ¬ A a → H1[a]? = H[a]?) : vx_L C n d A U H1 := by
  obtain ⟨c, k, i, f, a, cell, h1, h2, h3, h4, h5, h6, h7, h8, h9, h10⟩ := h
  exact ⟨c, k, i, f, a, cell, h1, h2, h3, h4, by rw [hq a (Array.getElem?_eq_some_iff.mp h5).1 h10]; exact h5, h6, h7, h8, h9, h10⟩
theorem vx_L.narrow {C n d : String} {A B : Nat → Prop} {U : State} {H : Heap} (h : vx_L C n d A U H) (hAB : ∀ q, B q → A q) : vx_L C n d B U H := by
  obtain ⟨c, k, i, f, a, cell, h1, h2, h3, h4, h5, h6, h7, h8, h9, h10⟩ := h
  exact ⟨c, k, i, f, a, cell, h1, h2, h3, h4, h5, h6, h7, h8, h9, fun z => h10 (hAB _ z)⟩
theorem vx_L.word {C n d : String} {A : Nat → Prop} {s : State} {args : Array Value} (h : vx_L C n d A s s.heap) : (Cond.laysStatic C n d).before args s = true := by
  obtain ⟨c, k, i, f, a, cell, h1, h2, h3, h4, h5, h6, h7, h8, h9, -⟩ := h
  show (Cond.laysStatic C n d).holds args s none s [] = true
  exact Cond.laysStatic_of h1 h2 h3 h4 h5 h6 h7 h8 h9
/-- .. and what it holds: null or some reference -/
def vx_Zq (C n d : String) (A : Nat → Prop) (U : State) (H : Heap) : Prop := va_Zq C n d A U H ∧ vx_L C n d A U H
theorem vx_Zq.moved {C n d : String} {A : Nat → Prop} {u U : State} {H : Heap} (hvm : u.vm.Alike U.vm) (h : vx_Zq C n d A u H) : vx_Zq C n d A U H := ⟨va_Zq.moved hvm h.1, vx_L.moved hvm h.2⟩
theorem vx_Zq.kept {C n d : String} {A : Nat → Prop} {U : State} {H H1 : Heap} (h : vx_Zq C n d A U H) (hq : ∀ a : Nat, a < H.size → ¬ A a → H1[a]? = H[a]?) : vx_Zq C n d A U H1 := ⟨va_Zq.kept h.1 hq, vx_L.kept h.2 hq⟩
theorem vx_Zq.narrow {C n d : String} {A B : Nat → Prop} {U : State} {H : Heap} (h : vx_Zq C n d A U H) (hAB : ∀ q, B q → A q) : vx_Zq C n d B U H := ⟨va_Zq.narrow h.1 hAB, vx_L.narrow h.2 hAB⟩
theorem vx_Zqof {args : Array Value} {s : State} {C n d : String} {A : Nat → Prop} (hl : (Cond.laysStatic C n d).before args s = true) (hini : (Cond.initialized C).before args s = true) (h : (Cond.isRef (.static C n d)).before args s = true) (hA : ∀ a : Nat, a < s.heap.size → ¬ A a) : vx_Zq C n d A s s.heap := by
  refine ⟨va_Zqof hl hini h hA, ?_⟩
  obtain ⟨c, k, i, f, a, cell, h1, h2, h3, h4, h5, h6, h7, h8, h9⟩ := Cond.laysStatic_spec hl
  exact ⟨c, k, i, f, a, cell, h1, h2, h3, h4, h5, h6, h7, h8, h9, hA a (Array.getElem?_eq_some_iff.mp h5).1⟩
theorem vx_isRef {C n d : String} {v : Value} {A : Nat → Prop} {s : State} {args : Array Value} (h : va_Z C n d v A s s.heap) (hv : v.isRef = true) : (Cond.isRef (.static C n d)).before args s = true := by
  obtain ⟨cf, kf, fi, f, a, cell, h1, h2, h3, h4, h5, h6, h7, -⟩ := h
  have he : (Term.static C n d).eval args s none [] s = some v := by
    simp [Term.eval, State.fieldNamed?, h1, h2, h4, h5, h6, h7]
  simp only [Cond.before, Cond.holds, Cond.value, he]
  cases v <;> simp_all [Value.isRef]
theorem vx_isRefq {C n d : String} {A : Nat → Prop} {s : State} {args : Array Value} (h : va_Zq C n d A s s.heap) : (Cond.isRef (.static C n d)).before args s = true := by
  rcases h with h | ⟨t, h⟩
  · exact vx_isRef h rfl
  · exact vx_isRef h rfl
/-- the same frame, seen from here: as if the method were called anew in this heap -/
theorem vx_rebase {T : State} (X : Stand p l e R s m args below meth c T locs cells slots) {R' : Room} (hf : R'.frames ≤ R.frames) (hl : R'.locals ≤ R.locals) (hc : cells + R'.cells ≤ R.cells) (hs : slots + R'.slots ≤ R.slots) :
    Stand p l e R' ((T.setVm s.vm).setFrames (.invoking m args :: below)) m args below meth c T [] 0 0 := by
  have htop : (T.setVm s.vm).topJava?.isSome := X.here.top
  have hF : ((T.setVm s.vm).setFrames (.invoking m args :: below)).frames = .invoking m args :: below := State.frames_setFrames _ (State.cur_lt_of_top htop)
  obtain ⟨g₀, hg0⟩ := Option.isSome_iff_exists.mp htop
  obtain ⟨r, hr⟩ := State.topJava?_eq_some.mp hg0
  have hl9 : e.platform.stackLimits (T.setVm s.vm).me = e.platform.stackLimits s.me := X.limits
  have hb9 : (T.setVm s.vm).me.stackBytes = s.me.stackBytes := X.bytes
  refine ⟨X.admits, X.cas, X.clock, hF, ?_, X.hears, X.method, X.code, X.here, X.tail, X.warmed, ?_, ?_, ?_⟩
  · have h := X.room
    have hU : ((T.setVm s.vm).setFrames (.invoking m args :: below)).localsInUse = s.localsInUse := by
      rw [State.localsInUse_invoking hF (meth := meth) (c := c) X.method X.code, State.localsInUse_invoking X.frames X.method X.code]
    simp only [State.hasRoom, Bool.and_eq_true, decide_eq_true_eq] at h ⊢
    obtain ⟨⟨⟨⟨h1, h2, h3, h4, h5, h6⟩, h7⟩, h8⟩, h9⟩ := h
    rw [X.frames, List.length_cons] at h2 h3
    have q1 := X.heapSize
    have q2 := X.used
    simp only [hF, hU, List.length_cons, State.stackLimits_setFrames, State.stackBytes_setFrames, hl9, hb9]
    refine ⟨⟨⟨⟨by omega, by omega, by omega, by omega, by omega, h6⟩, ?_⟩, ?_⟩, X.book⟩
    · show T.heap.size + R'.cells ≤ e.platform.maxCells
      omega
    · show T.slotsUsed + R'.slots ≤ e.platform.maxSlots
      omega
  · rw [State.stackLimits_setFrames]; rfl
  · rw [State.stackBytes_setFrames]; rfl
  · refine ⟨?_, Nat.le_refl _, Nat.le_refl _, ?_, ?_, fun a c9 h9 => ⟨c9, h9, rfl, rfl, fun _ _ => rfl⟩⟩
    · obtain ⟨t, ht, -⟩ := State.frames_cons hr
      show T.setVm s.vm = { ((T.setVm s.vm).setFrames (.invoking m args :: below)).setFrames (T.setVm s.vm).frames with heap := T.heap, slotsUsed := T.slotsUsed }
      rw [State.setFrames_setFrames, State.setFrames_self ht]
      rfl
    · show T.slotsUsed = T.slotsUsed + ((T.heap.toList.drop T.heap.size).map (·.slots.size)).sum
      rw [List.drop_eq_nil_of_le (Nat.le_of_eq Array.length_toList)]
      rfl
    · show ((T.heap.toList.drop T.heap.size).map (·.slots.size)).sum ≤ 0
      rw [List.drop_eq_nil_of_le (Nat.le_of_eq Array.length_toList)]
      exact Nat.le_refl _
/-- 'throw new E()': new; dup; invokespecial; athrow -/
theorem vx_throw0 {cc : ByteArray} {pc : Nat} (hexec : p.tables.exec = Jvm.exec) (hb : c.code = cc) (hl : l.stackTraces = false) {own cls : String} {names : List String} {ik ic mc ms : Nat} {A : Nat → Prop}
    (hown : s.vm.findClass own = some m.cls) (hcls : Bundle.fit cls = true) (hnames : ∀ n ∈ names, Bundle.fit n = true)
    (hk : (Cond.classLink own ik cls).before args s = true) (hini : (Cond.initialized cls).before args s = true) (hat : ∀ w ∈ vx_at0 own ic cls names, w.before args s = true)
    (hgood : ∀ w ∈ Cond.classLink own ik cls :: Cond.initialized cls :: vx_at0 own ic cls names, vx_ot w = true)
    (hU : vx_Zq Bundle.tN "UNASSIGNED_STACK" Bundle.steD A s s.heap) (hN : vx_Zq Bundle.tN "SUPPRESSED_SENTINEL" Bundle.listD A s s.heap) (hS : va_S A s.heap H locs) (hsize : ls.size = c.maxLocals)
    (d0 : decode cc pc = .ok (.new ik, 3)) (d3 : decode cc (pc + 3) = .ok (.dup, 1)) (d4 : decode cc (pc + 4) = .ok (.invokespecial ic, 3)) (d7 : decode cc (pc + 7) = .ok (.athrow, 1))
    (hout : ∀ x ∈ c.exceptionTable.toList, covers x (pc + 7) = false)
    (hRframes : names.length + 3 < R.frames) (hRlocals : (rest.map fun v => v.category).sum + (13 * (names.length + 1) + 42) ≤ R.locals) (hRcells : cells + 1 ≤ R.cells) (hRslots : slots + 6 ≤ R.slots) (hlocks : meth.locks = false)
    (hx : ∀ t : State, s.vm.Alike t.vm → H.size ≤ t.heap.size → (∀ q : Nat, q < H.size → t.heap[q]? = H[q]?) → XC cls s t)
    (hf : ∀ z ∈ locs, free z.base) (hc : cells + 1 ≤ mc) (hs : slots + 6 ≤ ms) :
    W p l e R s m args below meth c H locs cells slots (vx_MQ below Qc XC args s mc ms free) (F0 m pc ls rest) := by
  intro T hT X
  have htr : e.platform.stackTraces = false := (show e.platform.stackTraces = l.stackTraces by rw [X.admits.platform]).trans hl
  have Y := vx_rebase X (R' := { frames := R.frames, locals := R.locals, cells := 1, slots := 6 }) (Nat.le_refl _) (Nat.le_refl _) hRcells hRslots
  obtain ⟨s', hA⟩ : ∃ z, z = (T.setVm s.vm).setFrames (.invoking m args :: below) := ⟨_, rfl⟩
  rw [← hA] at Y
  have hvm : s'.vm = s.vm := by rw [hA]; rfl
  have hhp : s'.heap = H := by rw [hA]; exact hT
  have hW0 : s.WarmedH s'.vm := by rw [hvm]; exact State.WarmedH.refl s
  have hat' : ∀ w ∈ vx_at0 own ic cls names, w.before args s' = true := fun w hw => vx_ot_at hW0 hvm.symm (hgood w (List.mem_cons_of_mem _ (List.mem_cons_of_mem _ hw))) (hat w hw)
  have hk' : (Cond.classLink own ik cls).before args s' = true := vx_ot_at hW0 hvm.symm (hgood _ List.mem_cons_self) hk
  have hini' : (Cond.initialized cls).before args s' = true := vx_ot_at hW0 hvm.symm (hgood _ (List.mem_cons_of_mem _ List.mem_cons_self)) hini
  have hU' : vx_Zq Bundle.tN "UNASSIGNED_STACK" Bundle.steD A s' s'.heap := by rw [hhp]; exact vx_Zq.moved hW0.alike (hU.kept hS.2.1)
  have hN' : vx_Zq Bundle.tN "SUPPRESSED_SENTINEL" Bundle.listD A s' s'.heap := by rw [hhp]; exact vx_Zq.moved hW0.alike (hN.kept hS.2.1)
  have h : ∀ w ∈ Bundle.ownAtoms0 own ic cls names, w.before args s' = true := vx_own hat' (vx_isRefq hU'.1) (vx_isRefq hN'.1) hU'.2.word hN'.2.word
  have hown' : s'.vm.findClass own = some m.cls := by rw [hvm]; exact hown
  have hins : (Cond.instantiable cls 6).before args s' = true := h _ (by simp [Bundle.ownAtoms0])
  obtain ⟨vm₁, cX, kX, hfX, hkX, -, -, X₁, st1⟩ := Y.newCold hexec (own := own) (C := cls) (index := ik) (n := 6) hown' hk' hins hini'
    (g := F0 m pc ls rest) rfl (by rw [hb]; exact d0) (Nat.le_refl _) (Nat.le_refl _)
  generalize hT1 : (T.setVm vm₁).pushCell { cls := cX, slots := kX.instanceTypes.map defaultValue, vm := .none } = T1 at X₁ st1
  have hcat : (Value.ref T.heap.size).category = 1 := rfl
  have hcellA : T1.heap[T.heap.size]? = some (freshCell cX kX) := by rw [← hT1]; exact State.heap_pushCell_size _ _
  have d3' : decode c.code (pc + 3) = .ok (.dup, 1) := by rw [hb]; exact d3
  obtain ⟨U, hsteps, hrun, hend, hW, hsame, ce, hce, hO⟩ := X₁.ctorThrow0 hexec htr (own := own) (cls := cls) (names := names) (ic := ic) hown' hcls hnames h (fun x hx => nomatch hx) hfX hkX hcellA (by rw [hhp, hT]; exact Nat.le_refl _)
    (g := { method := m, pc := pc + 4, locals := ls, stack := .ref T.heap.size :: .ref T.heap.size :: rest, locked := none }) rfl hsize rfl rfl (rest := rest) rfl
    (by rw [hb]; exact d4) (by rw [hb]; exact d7) hout hRframes (by simp only [List.map_cons, List.sum_cons, hcat]; omega) hlocks
  obtain ⟨f1, f2⟩ := vx_frame hsame
  rw [hhp] at f1 f2
  have hWs : s.WarmedH U.vm := State.WarmedH.trans hW0 hW
  have hcl : s.vm.findClass cls = some ce.cls := by
    have h9 := hO.cls
    rw [hvm] at h9
    exact h9
  have hall : s.sameButNew ({ U with vm := s.vm } : State) locs mc ms := by
    subst hA
    obtain ⟨e1, e2⟩ := hsame
    rw [State.setFrames_setFrames] at e1
    have h2 : (T.setVm s.vm).sameButNew ({ U with vm := s.vm } : State) [] (0 + 1) (0 + 6) := ⟨e1, e2⟩
    have h3 := X.same.trans h2
    rw [List.append_nil] at h3
    exact h3.mono hc hs
  refine ⟨U, ?_, .threw T.heap.size, hrun, hend, Or.inr ⟨T.heap.size, rfl, cls, ce, locs, hx U hWs.alike f1 (fun q hq => f2 q hq (fun z hz => nomatch hz)), hce, hO.vm, hcl, hWs, hall, hf⟩⟩
  refine st1 _ ?_
  show Steps p.tables e below (T1.setTop { method := m, pc := pc + 3, locals := ls, stack := .ref T.heap.size :: rest, locked := none }) _
  jvm_step X₁.here [X₁.here.top, hexec, d3', Value.category]
  exact hsteps
/-- 'throw new E("text")': new; dup; ldc; invokespecial; athrow -/
theorem vx_throwS {cc : ByteArray} {pc : Nat} (hexec : p.tables.exec = Jvm.exec) (hb : c.code = cc) (hl : l.stackTraces = false) {own cls text : String} {names : List String} {ik is ic mc ms sa : Nat} {A : Nat → Prop}
    (hown : s.vm.findClass own = some m.cls) (hcls : Bundle.fit cls = true) (hnames : ∀ n ∈ names, Bundle.fit n = true)
    (hk : (Cond.classLink own ik cls).before args s = true) (hini : (Cond.initialized cls).before args s = true) (hstr : vk_R own is text sa s) (hat : ∀ w ∈ vx_atS own ic cls names, w.before args s = true)
    (hgood : ∀ w ∈ Cond.classLink own ik cls :: Cond.initialized cls :: vx_atS own ic cls names, vx_ot w = true)
    (hU : vx_Zq Bundle.tN "UNASSIGNED_STACK" Bundle.steD A s s.heap) (hN : vx_Zq Bundle.tN "SUPPRESSED_SENTINEL" Bundle.listD A s s.heap) (hS : va_S A s.heap H locs) (hsize : ls.size = c.maxLocals)
    (d0 : decode cc pc = .ok (.new ik, 3)) (d3 : decode cc (pc + 3) = .ok (.dup, 1)) (d4 : decode cc (pc + 4) = .ok (.ldc is, 2)) (d6 : decode cc (pc + 6) = .ok (.invokespecial ic, 3)) (d9 : decode cc (pc + 9) = .ok (.athrow, 1))
    (hout : ∀ x ∈ c.exceptionTable.toList, covers x (pc + 9) = false)
    (hRframes : names.length + 3 < R.frames) (hRlocals : (rest.map fun v => v.category).sum + (13 * (names.length + 1) + 43) ≤ R.locals) (hRcells : cells + 1 ≤ R.cells) (hRslots : slots + 6 ≤ R.slots) (hlocks : meth.locks = false)
    (hx : ∀ t : State, s.vm.Alike t.vm → H.size ≤ t.heap.size → (∀ q : Nat, q < H.size → t.heap[q]? = H[q]?) → XC cls s t)
    (hf : ∀ z ∈ locs, free z.base) (hc : cells + 1 ≤ mc) (hs : slots + 6 ≤ ms) :
    W p l e R s m args below meth c H locs cells slots (vx_MQ below Qc XC args s mc ms free) (F0 m pc ls rest) := by
  intro T hT X
  have htr : e.platform.stackTraces = false := (show e.platform.stackTraces = l.stackTraces by rw [X.admits.platform]).trans hl
  have Y := vx_rebase X (R' := { frames := R.frames, locals := R.locals, cells := 1, slots := 6 }) (Nat.le_refl _) (Nat.le_refl _) hRcells hRslots
  obtain ⟨s', hA⟩ : ∃ z, z = (T.setVm s.vm).setFrames (.invoking m args :: below) := ⟨_, rfl⟩
  rw [← hA] at Y
  have hvm : s'.vm = s.vm := by rw [hA]; rfl
  have hhp : s'.heap = H := by rw [hA]; exact hT
  have hW0 : s.WarmedH s'.vm := by rw [hvm]; exact State.WarmedH.refl s
  have hat' : ∀ w ∈ vx_atS own ic cls names, w.before args s' = true := fun w hw => vx_ot_at hW0 hvm.symm (hgood w (List.mem_cons_of_mem _ (List.mem_cons_of_mem _ hw))) (hat w hw)
  have hk' : (Cond.classLink own ik cls).before args s' = true := vx_ot_at hW0 hvm.symm (hgood _ List.mem_cons_self) hk
  have hini' : (Cond.initialized cls).before args s' = true := vx_ot_at hW0 hvm.symm (hgood _ (List.mem_cons_of_mem _ List.mem_cons_self)) hini
  have hU' : vx_Zq Bundle.tN "UNASSIGNED_STACK" Bundle.steD A s' s'.heap := by rw [hhp]; exact vx_Zq.moved hW0.alike (hU.kept hS.2.1)
  have hN' : vx_Zq Bundle.tN "SUPPRESSED_SENTINEL" Bundle.listD A s' s'.heap := by rw [hhp]; exact vx_Zq.moved hW0.alike (hN.kept hS.2.1)
  have h : ∀ w ∈ Bundle.ownAtoms own ic cls names, w.before args s' = true := vx_own hat' (vx_isRefq hU'.1) (vx_isRefq hN'.1) hU'.2.word hN'.2.word
  have hown' : s'.vm.findClass own = some m.cls := by rw [hvm]; exact hown
  have hins : (Cond.instantiable cls 6).before args s' = true := h _ (by simp [Bundle.ownAtoms])
  obtain ⟨vm₁, cX, kX, hfX, hkX, -, -, X₁, st1⟩ := Y.newCold hexec (own := own) (C := cls) (index := ik) (n := 6) hown' hk' hins hini'
    (g := F0 m pc ls rest) rfl (by rw [hb]; exact d0) (Nat.le_refl _) (Nat.le_refl _)
  generalize hT1 : (T.setVm vm₁).pushCell { cls := cX, slots := kX.instanceTypes.map defaultValue, vm := .none } = T1 at X₁ st1
  have hcat : (Value.ref T.heap.size).category = 1 := rfl
  have hcellA : T1.heap[T.heap.size]? = some (freshCell cX kX) := by rw [← hT1]; exact State.heap_pushCell_size _ _
  have d3' : decode c.code (pc + 3) = .ok (.dup, 1) := by rw [hb]; exact d3
  have d4' : decode c.code (pc + 4) = .ok (.ldc is, 2) := by rw [hb]; exact d4
  have hstr' : vk_R own is text sa s' := vk_R.warm hW0 hstr
  obtain ⟨U, hsteps, hrun, hend, hW, hsame, ce, hce, hO⟩ := X₁.ctorThrowS hexec htr (own := own) (cls := cls) (names := names) (ic := ic) hown' hcls hnames h (fun x hx => nomatch hx) hfX hkX hcellA (by rw [hhp, hT]; exact Nat.le_refl _) (msg := .ref sa) rfl
    (g := { method := m, pc := pc + 6, locals := ls, stack := .ref sa :: .ref T.heap.size :: .ref T.heap.size :: rest, locked := none }) rfl hsize rfl rfl (rest := rest) rfl
    (by rw [hb]; exact d6) (by rw [hb]; exact d9) hout hRframes (by simp only [List.map_cons, List.sum_cons, hcat]; omega) hlocks
  obtain ⟨f1, f2⟩ := vx_frame hsame
  rw [hhp] at f1 f2
  have hWs : s.WarmedH U.vm := State.WarmedH.trans hW0 hW
  have hcl : s.vm.findClass cls = some ce.cls := by
    have h9 := hO.cls
    rw [hvm] at h9
    exact h9
  have hall : s.sameButNew ({ U with vm := s.vm } : State) locs mc ms := by
    subst hA
    obtain ⟨e1, e2⟩ := hsame
    rw [State.setFrames_setFrames] at e1
    have h2 : (T.setVm s.vm).sameButNew ({ U with vm := s.vm } : State) [] (0 + 1) (0 + 6) := ⟨e1, e2⟩
    have h3 := X.same.trans h2
    rw [List.append_nil] at h3
    exact h3.mono hc hs
  refine ⟨U, ?_, .threw T.heap.size, hrun, hend, Or.inr ⟨T.heap.size, rfl, cls, ce, locs, hx U hWs.alike f1 (fun q hq => f2 q hq (fun z hz => nomatch hz)), hce, hO.vm, hcl, hWs, hall, hf⟩⟩
  refine st1 _ ?_
  show Steps p.tables e below (T1.setTop { method := m, pc := pc + 3, locals := ls, stack := .ref T.heap.size :: rest, locked := none }) _
  jvm_step X₁.here [X₁.here.top, hexec, d3', Value.category]
  exact X₁.ldcString hexec (own := own) (text := text) (index := is) (a := sa) hown' hstr'.1 hstr'.2
    (g := { method := m, pc := pc + 4, locals := ls, stack := .ref T.heap.size :: .ref T.heap.size :: rest, locked := none }) rfl d4' _ hsteps
/-- 'throw new E("text")', the text by a wide index -/
theorem vx_throwSW {cc : ByteArray} {pc : Nat} (hexec : p.tables.exec = Jvm.exec) (hb : c.code = cc) (hl : l.stackTraces = false) {own cls text : String} {names : List String} {ik is ic mc ms sa : Nat} {A : Nat → Prop}
    (hown : s.vm.findClass own = some m.cls) (hcls : Bundle.fit cls = true) (hnames : ∀ n ∈ names, Bundle.fit n = true)
    (hk : (Cond.classLink own ik cls).before args s = true) (hini : (Cond.initialized cls).before args s = true) (hstr : vk_R own is text sa s) (hat : ∀ w ∈ vx_atS own ic cls names, w.before args s = true)
    (hgood : ∀ w ∈ Cond.classLink own ik cls :: Cond.initialized cls :: vx_atS own ic cls names, vx_ot w = true)
    (hU : vx_Zq Bundle.tN "UNASSIGNED_STACK" Bundle.steD A s s.heap) (hN : vx_Zq Bundle.tN "SUPPRESSED_SENTINEL" Bundle.listD A s s.heap) (hS : va_S A s.heap H locs) (hsize : ls.size = c.maxLocals)
    (d0 : decode cc pc = .ok (.new ik, 3)) (d3 : decode cc (pc + 3) = .ok (.dup, 1)) (d4 : decode cc (pc + 4) = .ok (.ldc_w is, 3)) (d7 : decode cc (pc + 7) = .ok (.invokespecial ic, 3)) (d10 : decode cc (pc + 10) = .ok (.athrow, 1))
    (hout : ∀ x ∈ c.exceptionTable.toList, covers x (pc + 10) = false)
    (hRframes : names.length + 3 < R.frames) (hRlocals : (rest.map fun v => v.category).sum + (13 * (names.length + 1) + 43) ≤ R.locals) (hRcells : cells + 1 ≤ R.cells) (hRslots : slots + 6 ≤ R.slots) (hlocks : meth.locks = false)
    (hx : ∀ t : State, s.vm.Alike t.vm → H.size ≤ t.heap.size → (∀ q : Nat, q < H.size → t.heap[q]? = H[q]?) → XC cls s t)
    (hf : ∀ z ∈ locs, free z.base) (hc : cells + 1 ≤ mc) (hs : slots + 6 ≤ ms) :
    W p l e R s m args below meth c H locs cells slots (vx_MQ below Qc XC args s mc ms free) (F0 m pc ls rest) := by
  intro T hT X
  have htr : e.platform.stackTraces = false := (show e.platform.stackTraces = l.stackTraces by rw [X.admits.platform]).trans hl
  have Y := vx_rebase X (R' := { frames := R.frames, locals := R.locals, cells := 1, slots := 6 }) (Nat.le_refl _) (Nat.le_refl _) hRcells hRslots
  obtain ⟨s', hA⟩ : ∃ z, z = (T.setVm s.vm).setFrames (.invoking m args :: below) := ⟨_, rfl⟩
  rw [← hA] at Y
  have hvm : s'.vm = s.vm := by rw [hA]; rfl
  have hhp : s'.heap = H := by rw [hA]; exact hT
  have hW0 : s.WarmedH s'.vm := by rw [hvm]; exact State.WarmedH.refl s
  have hat' : ∀ w ∈ vx_atS own ic cls names, w.before args s' = true := fun w hw => vx_ot_at hW0 hvm.symm (hgood w (List.mem_cons_of_mem _ (List.mem_cons_of_mem _ hw))) (hat w hw)
  have hk' : (Cond.classLink own ik cls).before args s' = true := vx_ot_at hW0 hvm.symm (hgood _ List.mem_cons_self) hk
  have hini' : (Cond.initialized cls).before args s' = true := vx_ot_at hW0 hvm.symm (hgood _ (List.mem_cons_of_mem _ List.mem_cons_self)) hini
  have hU' : vx_Zq Bundle.tN "UNASSIGNED_STACK" Bundle.steD A s' s'.heap := by rw [hhp]; exact vx_Zq.moved hW0.alike (hU.kept hS.2.1)
  have hN' : vx_Zq Bundle.tN "SUPPRESSED_SENTINEL" Bundle.listD A s' s'.heap := by rw [hhp]; exact vx_Zq.moved hW0.alike (hN.kept hS.2.1)
  have h : ∀ w ∈ Bundle.ownAtoms own ic cls names, w.before args s' = true := vx_own hat' (vx_isRefq hU'.1) (vx_isRefq hN'.1) hU'.2.word hN'.2.word
  have hown' : s'.vm.findClass own = some m.cls := by rw [hvm]; exact hown
  have hins : (Cond.instantiable cls 6).before args s' = true := h _ (by simp [Bundle.ownAtoms])
  obtain ⟨vm₁, cX, kX, hfX, hkX, -, -, X₁, st1⟩ := Y.newCold hexec (own := own) (C := cls) (index := ik) (n := 6) hown' hk' hins hini'
    (g := F0 m pc ls rest) rfl (by rw [hb]; exact d0) (Nat.le_refl _) (Nat.le_refl _)
  generalize hT1 : (T.setVm vm₁).pushCell { cls := cX, slots := kX.instanceTypes.map defaultValue, vm := .none } = T1 at X₁ st1
  have hcat : (Value.ref T.heap.size).category = 1 := rfl
  have hcellA : T1.heap[T.heap.size]? = some (freshCell cX kX) := by rw [← hT1]; exact State.heap_pushCell_size _ _
  have d3' : decode c.code (pc + 3) = .ok (.dup, 1) := by rw [hb]; exact d3
  have d4' : decode c.code (pc + 4) = .ok (.ldc_w is, 3) := by rw [hb]; exact d4
  have hstr' : vk_R own is text sa s' := vk_R.warm hW0 hstr
  obtain ⟨U, hsteps, hrun, hend, hW, hsame, ce, hce, hO⟩ := X₁.ctorThrowS hexec htr (own := own) (cls := cls) (names := names) (ic := ic) hown' hcls hnames h (fun x hx => nomatch hx) hfX hkX hcellA (by rw [hhp, hT]; exact Nat.le_refl _) (msg := .ref sa) rfl
    (g := { method := m, pc := pc + 7, locals := ls, stack := .ref sa :: .ref T.heap.size :: .ref T.heap.size :: rest, locked := none }) rfl hsize rfl rfl (rest := rest) rfl
    (by rw [hb]; exact d7) (by rw [hb]; exact d10) hout hRframes (by simp only [List.map_cons, List.sum_cons, hcat]; omega) hlocks
  obtain ⟨f1, f2⟩ := vx_frame hsame
  rw [hhp] at f1 f2
  have hWs : s.WarmedH U.vm := State.WarmedH.trans hW0 hW
  have hcl : s.vm.findClass cls = some ce.cls := by
    have h9 := hO.cls
    rw [hvm] at h9
    exact h9
  have hall : s.sameButNew ({ U with vm := s.vm } : State) locs mc ms := by
    subst hA
    obtain ⟨e1, e2⟩ := hsame
    rw [State.setFrames_setFrames] at e1
    have h2 : (T.setVm s.vm).sameButNew ({ U with vm := s.vm } : State) [] (0 + 1) (0 + 6) := ⟨e1, e2⟩
    have h3 := X.same.trans h2
    rw [List.append_nil] at h3
    exact h3.mono hc hs
  refine ⟨U, ?_, .threw T.heap.size, hrun, hend, Or.inr ⟨T.heap.size, rfl, cls, ce, locs, hx U hWs.alike f1 (fun q hq => f2 q hq (fun z hz => nomatch hz)), hce, hO.vm, hcl, hWs, hall, hf⟩⟩
  refine st1 _ ?_
  show Steps p.tables e below (T1.setTop { method := m, pc := pc + 3, locals := ls, stack := .ref T.heap.size :: rest, locked := none }) _
  jvm_step X₁.here [X₁.here.top, hexec, d3', Value.category]
  exact X₁.ldcStringW hexec (own := own) (text := text) (index := is) (a := sa) hown' hstr'.1 hstr'.2
    (g := { method := m, pc := pc + 4, locals := ls, stack := .ref T.heap.size :: .ref T.heap.size :: rest, locked := none }) rfl d4' _ hsteps
end Ends
section Bodies
variable {l : Launch}
theorem vx_ofW {y : MethodName} {ws ws' : List Cond} {rm : Room} {Pc : Array Value → State → Prop} {Qc : Array Value → State → Outcome → State → Prop} {XC : String → State → State → Prop} {mc ms : Nat} {free : Addr → Prop} {cc : ByteArray} {maxL : Nat} {ret : Option FieldType}
    (hy : plainName y.cls = true) (hw : ws = Cond.code y cc maxL ret :: ws')
    (body : ∀ p e s m args below meth c s₁, BodyLoose p l y (headSpec ws rm) cc maxL ret e s m args below meth c s₁ → c.maxLocals = maxL → (∀ x ∈ c.exceptionTable.toList, False) → Pc args s →
      W p l e (headSpec ws rm).room s m args below meth c s.heap [] 0 0 (vx_MQ below Qc XC args s mc ms free) (entryFrame m args maxL)) : vx_Met l y ws rm Pc Qc XC mc ms free := by
  refine MetFree.of_bodyS (code := cc) (maxLocals := maxL) (ret := ret) hy ?_ ?_
  · intro args s m h hn
    obtain ⟨meth, c, h1, h2, h3, h4, h5, h6, -, -⟩ := Cond.code_spec hn (atoms_spec (ws := ws) h _ (by rw [hw]; exact List.mem_cons_self))
    exact ⟨meth, c, h1, h2, h3, h4, h5, h6⟩
  · intro p e s m args below meth c s₁ B hml hP _
    have hh0 : s₁.heap = s.heap := by rw [B.state]; rfl
    have ht : ∀ x ∈ c.exceptionTable.toList, False := by
      obtain ⟨meth9, c9, h1, h2, -, -, -, -, h7, -⟩ := Cond.code_spec B.named (atoms_spec (ws := ws) B.pre _ (by rw [hw]; exact List.mem_cons_self))
      cases Option.some.inj (h1.symm.trans B.method)
      cases Option.some.inj (h2.symm.trans (Stand.of_body B).code)
      intro x hx
      rw [Array.isEmpty_iff.mp h7] at hx
      cases hx
    obtain ⟨t, a1, o, b1, b2, b3⟩ := body p e s m args below meth c s₁ B hml ht hP s₁ hh0 (Stand.of_body B)
    exact ⟨t, o, a1, b1, b2, b3⟩
/-- the table of a body with handlers -/
theorem vx_table {p : Program} {x y : MethodName} {S : Spec} {cc bytes : ByteArray} {maxL maxL' : Nat} {ret ret' : Option FieldType} {e : Env} {s s₁ : State} {m : MethodId} {args : Array Value} {below : List Frame} {meth : Method} {c : Code} {hh : List (Nat × Nat × Nat × Nat)}
    (B : BodyLoose p l y S cc maxL ret e s m args below meth c s₁) (h : (Cond.codeWith y bytes maxL' ret' hh).before args s = true) : c.exceptionTable.toList = tableOf hh := by
  obtain ⟨m9, meth9, c9, hn9, h1, h2, -, -, h6, -⟩ := Cond.codeWith_spec h
  cases Option.some.inj (hn9.symm.trans B.named)
  cases Option.some.inj (h1.symm.trans B.method)
  cases Option.some.inj (h2.symm.trans (Stand.of_body B).code)
  rw [← h6, table_eq]
end Bodies
end VXA
/-! ===== END ===== -/
/-! ===== BEGIN a static call of a method with an exception table ===== -/
section VXS
variable {p : Program} {l : Launch} {e : Env} {R : Room} {s : State} {m : MethodId} {args : Array Value} {below : List Frame} {meth : Method} {c : Code} {T : State} {H : Heap} {locs : List Loc} {cells slots : Nat}
abbrev vx_CSW (R : Room) (s : State) (args : Array Value) (own : String) (index : Nat) (y : MethodName) (bytes : ByteArray) (maxL : Nat) (ret : Option FieldType) (hh : List (Nat × Nat × Nat × Nat)) (ws : List Cond) (rm : Room) (mc ms n : Nat) : Prop :=
  (rm.cells = mc ∧ rm.slots = ms ∧ rm.frames + 1 ≤ R.frames ∧ 8 + (maxL + 11) + rm.locals ≤ R.locals ∧ (∀ w ∈ ws, ∀ (a' : Array Value) (U : State), s.WarmedH U.vm → w.before a' U = true) ∧ Cond.codeWith y bytes maxL ret hh ∈ ws) ∧
  (Cond.codeWith y bytes maxL ret hh).before args s = true ∧ (Cond.initialized y.cls).before args s = true ∧ (y.cls ≠ "java/lang/invoke/MethodHandle" ∧ y.cls ≠ "java/lang/invoke/VarHandle") ∧
  (∀ sig, parseMethodDescriptor y.desc = some sig → n = sig.parameters.length) ∧ (Cond.methodLink own index y).before args s = true ∧ (Cond.static y).before args s = true
theorem vx_cwSW {own : String} {index maxL mc ms : Nat} {y : MethodName} {bytes : ByteArray} {ret : Option FieldType} {hh : List (Nat × Nat × Nat × Nat)} {Ts ws ws' : List Cond} {rm : Room} (n : Nat) (ht : ∀ w ∈ Ts, w.before args s = true) (hT : GoodIn Ts (va_wsS own index y ws)) (hw : ws = Cond.codeWith y bytes maxL ret hh :: ws') (hrc : rm.cells = mc) (hrs : rm.slots = ms)
    (hd : y.cls ≠ "java/lang/invoke/MethodHandle" ∧ y.cls ≠ "java/lang/invoke/VarHandle" ∧ (parseMethodDescriptor y.desc).map (fun d => d.parameters.length) = some n) (hR : rm.frames + 1 ≤ R.frames ∧ 8 + (maxL + 11) + rm.locals ≤ R.locals) :
    vx_CSW R s args own index y bytes maxL ret hh ws rm mc ms n := by
  have ok : ∀ w ∈ va_wsS own index y ws, w.before args s = true := fun w h => ht w (hT w h).1
  have hG : GoodIn Ts ws := fun w h => hT w (by unfold va_wsS; exact List.mem_append_right _ h)
  have hc : Cond.codeWith y bytes maxL ret hh ∈ ws := by rw [hw]; exact List.mem_cons_self
  refine ⟨⟨hrc, hrs, hR.1, hR.2, pay_in ht hG, hc⟩, ht _ (hG _ hc).1, ok _ (by simp [va_wsS]), ⟨hd.1, hd.2.1⟩, fun sig h => ?_, ok _ (by simp [va_wsS]), ok _ (by simp [va_wsS])⟩
  have h2 := hd.2.2
  rw [h] at h2
  exact (Option.some.inj h2).symm
theorem vx_callSW (X : Stand p l e R s m args below meth c T locs cells slots) (hexec : p.tables.exec = Jvm.exec) {own : String} {index : Nat} {y : MethodName} {bytes : ByteArray} {maxL : Nat} {ret : Option FieldType} {hh : List (Nat × Nat × Nat × Nat)}
    (hown : s.vm.findClass own = some m.cls) (hlink : (Cond.methodLink own index y).before args s = true) (hstat : (Cond.static y).before args s = true) (hinit : (Cond.initialized y.cls).before args s = true)
    (hcode : (Cond.codeWith y bytes maxL ret hh).before args s = true) (hy : y.cls ≠ "java/lang/invoke/MethodHandle" ∧ y.cls ≠ "java/lang/invoke/VarHandle")
    {W9 : Nat} {Pre : Pt → Array Value → Prop} {Post : Pt → Array Value → Option Value → Pt → Prop} (hK : Back l R p e below s args y 3 W9 Pre Post)
    {g : JFrame} (hg : g.method = m) (hsize : g.locals.size = c.maxLocals) {argsL rest : List Value} (hlen : ∀ sig, parseMethodDescriptor y.desc = some sig → argsL.length = sig.parameters.length)
    (hstack : g.stack = argsL.reverse ++ rest) (hW : 2 * g.monitorRoom + (rest.map fun v => v.category).sum ≤ W9) (hdg : decode c.code g.pc = .ok (.invokestatic index, 3))
    (hpre : ∀ vm₁, s.WarmedH vm₁ → Pre ⟨T.setVm vm₁, locs, cells, slots⟩ argsL.toArray) :
    ∃ (v : Option Value) (vm₁ : Vm) (B : Pt), s.WarmedH vm₁ ∧ Stand p l e R s m args below meth c B.U B.locs B.cells B.slots ∧ Post ⟨T.setVm vm₁, locs, cells, slots⟩ argsL.toArray v B ∧
      ∀ target, Steps p.tables e below (B.U.setTop { g with pc := g.pc + 3, stack := v.toList ++ rest }) target → Steps p.tables e below (T.setTop g) target := by
  obtain ⟨mk, methM, cM, hnamed, hmethM, -, -, -, -, -, -, hsigM⟩ := Cond.codeWith_spec hcode
  have hstatic : methM.isStatic = true := Cond.static_spec hnamed hmethM hstat
  obtain ⟨kP, hkP, -⟩ := className_of_methodNamed hnamed
  have hinitP : kP.init = .initialized := Cond.initialized_spec (findClass_of_methodNamed hnamed) hkP hinit
  obtain ⟨vm₁, X₁, hstep₁⟩ := X.invokestatic hexec hown hlink hnamed hmethM hstatic hkP hinitP hy (g := g) hg (argsL := argsL) (rest := rest) (hlen _ hsigM) hstack hdg
  obtain ⟨v, B, X', hpost, hsteps⟩ := hK m meth c ⟨T.setVm vm₁, locs, cells, slots⟩ { g with stack := rest } (.invokestatic index) mk argsL.toArray X₁ hg hsize hdg hW (X₁.named hnamed) (hpre vm₁ X₁.warmed)
  exact ⟨v, vm₁, B, X₁.warmed, X', hpost, fun target h => hstep₁ _ fun acts => by rw [doInvoke_state]; exact hsteps.trans h⟩
theorem vx_runSW {y : MethodName} {bytes cc : ByteArray} {maxL nL mc ms n index : Nat} {ret : Option FieldType} {hh : List (Nat × Nat × Nat × Nat)} {ws : List Cond} {rm : Room} {Pc : Array Value → State → Prop} {Qc : Array Value → State → Outcome → State → Prop} {free : Addr → Prop} {Ts : List Cond} {own : String} {As rest : List Value} {g : JFrame}
    (S : CallFix p m c cc nL s args Ts own) (hM : Met l y ws rm Pc Qc mc ms free) (cw : vx_CSW R s args own index y bytes maxL ret hh ws rm mc ms n) (hp : PreS s H Pc As)
    (hg : g.method = m) (hn : As.length = n) (hsize : g.locals.size = nL) (hstack : g.stack = As.reverse ++ rest) (hW : 2 * g.monitorRoom + (rest.map fun v => v.category).sum ≤ 8) (hdg : decode cc g.pc = .ok (.invokestatic index, 3)) (hf : cells + mc ≤ R.cells ∧ slots + ms ≤ R.slots) :
    va_Run p l e R s m args below meth c H locs cells slots mc ms g rest (Qc As.toArray) (free) := by
  obtain ⟨⟨hrc, hrs, hfr, hlo, hws, hcw⟩, hcode, hini, hy, hlen, hl, hstt⟩ := cw
  have hK : Back l R p e below s args y 3 8 (PreOf R mc ms Pc) (PostOf Qc mc ms free) := va_backW (hh := hh) (bytes := bytes) (maxL := maxL) (ret := ret) hM hp.1 hrc hrs hfr hlo hws hcw (fun a' U hW => word_at hW (Or.inl (by first | rfl | simp [Cond.onTables, Cond.keeps, Cond.steady])) hini)
  obtain ⟨hx, hb, hml, ho, -⟩ := S
  intro T hT X
  obtain ⟨v, vm₁, ⟨U', l2, c2, s2⟩, hW₁, X', ⟨g', mk, t, L, e1, e2, hq, h1, hL, h2, h3⟩, st⟩ := vx_callSW X hx (hh := hh) (bytes := bytes) (maxL := maxL) (ret := ret) ho hl hstt hini hcode hy hK hg (hsize.trans hml.symm) (argsL := As) (rest := rest) (fun sig h => hn.trans (hlen sig h)) hstack hW (by rw [hb]; exact hdg)
    (fun vm₁ hW₁ => ⟨hf.1, hf.2, hp.2 (T.setVm vm₁) hT hW₁⟩)
  dsimp only [Pt.U, Pt.locs, Pt.cells, Pt.slots] at X' e1 e2 h1 h2 h3 st
  subst h1; subst h2; subst h3
  exact ⟨v, (T.setVm vm₁).calling g' mk As.toArray, t, U', L, hT, X', hL, e1, e2, hq, st⟩
/-- not caught here, past rows that name other classes: it goes on to the caller -/
theorem vx_outP {p : Program} {l : Launch} {e : Env} {R : Room} {s : State} {m : MethodId} {args : Array Value} {below : List Frame} {meth : Method} {c : Code} {H : Heap} {locs : List Loc} {cells slots : Nat} {free : Addr → Prop} {ls : Array Slot} {rest : List Value} {Qc : Array Value → State → Outcome → State → Prop} {XC : String → State → State → Prop}
    {pc : Nat} {own E : String} {ce : Cell} {q : Addr} {mc ms : Nat} (hown : s.vm.findClass own = some m.cls) (hlocks : meth.locks = false)
    (hpass : ∀ z ∈ c.exceptionTable.toList, covers z pc = false ∨ (z.catchType ≠ 0 ∧ ∃ nm : String, (Cond.classLink own z.catchType nm).before args s = true ∧ va_Nc E nm s)) (hcell : H[q]? = some ce) (hv : ce.vm = .none) (hcl : s.vm.findClass E = some ce.cls)
    (hx : ∀ t : State, t.heap = H → s.vm.Alike t.vm → XC E s t) (hf : ∀ z ∈ locs, free z.base) (hc : cells ≤ mc) (hs : slots ≤ ms) :
    vx_W p l e R s m args below meth c H locs cells slots (vx_MQ below Qc XC args s mc ms free) (F0 m pc ls rest) q := by
  intro T hT X
  have hpl : e.platform.magicAccessors = ({} : Platform).magicAccessors := by rw [X.admits.platform]
  obtain ⟨vm', hW', X', st⟩ := X.outThrough hlocks q (g := F0 m pc ls rest) rfl rfl rfl (cell := ce) (by rw [hT]; exact hcell) (by rw [hv]; rfl)
    (by obtain ⟨k9, h9, -⟩ := Vm.findClass_spec hcl; exact ⟨k9, h9⟩) (fun z hz => by
      rcases hpass z hz with h | ⟨hz0, nm, hl1, hn1⟩
      · exact Or.inl h
      · obtain ⟨c6, hc6, hcl6⟩ := Cond.classLink_spec hown hl1 e.platform hpl
        obtain ⟨a8, b8, h1, h2, h3⟩ := hn1
        cases Option.some.inj (h1.symm.trans hcl)
        cases Option.some.inj (h2.symm.trans hc6)
        exact Or.inr ⟨hz0, _, hcl6, h3⟩)
  obtain ⟨g₀, hfr⟩ := X'.frames_eq
  have hcell9 : ((T.setVm vm').setFrames (.throwing q :: below)).heap[q]? = some ce := by
    show T.heap[q]? = some ce
    rw [hT]; exact hcell
  have hend : Ended ((T.setVm vm').setFrames (.throwing q :: below)) below (.threw q) := State.frames_setFrames _ (State.cur_lt_of_frames hfr)
  refine ⟨(T.setVm vm').setFrames (.throwing q :: below), ?_, .threw q, X'.here.running, hend, Or.inr ⟨q, rfl, E, ce, locs, hx _ hT (X'.ends _).1.alike, hcell9, hv, hcl, (X'.ends _).1, (X'.ends _).2.mono hc hs, hf⟩⟩
  rw [X.pushThrowing_eq]
  exact st
/-- a thing of a world lies in the heap -/
theorem vx_lt {D : va_G} {cl : List vw_C} {ws : va_W} {H1 : Heap} (h : va_P D cl ws H1) {k : Nat} {q : Nat × va_E} (hk : ws[k]? = some q) : q.1 < H1.size := (h k q hk).lt
end VXS
/-! ===== END ===== -/
/-! ===== BEGIN methods with a table of their own: called by a name, returning or throwing ===== -/
section VXH
/-! vx_backW, vx_callVX, vx_callSX, vx_callVW, vx_runVW, vx_runVX, vx_runSX, vx_ofWH follow the same proofs as their sisters above (Free/Laws.lean, Shelf42/LK1.lean); vx_outP calls Shelf42/NT130.lean (outThrough). -/
section
variable {l : Launch} {R : Room} {p : Program} {e : Env} {below : List Frame} {s : State} {sargs : Array Value} {y : MethodName} {len W9 : Nat}
theorem vx_backW {ws : List Cond} {rm : Room} {Pc : Array Value → State → Prop} {Qc : Array Value → State → Outcome → State → Prop} {XC : String → State → State → Prop} {mc ms : Nat} {free : Addr → Prop} {bytes : ByteArray} {maxL : Nat} {ret : Option FieldType} {hh : List (Nat × Nat × Nat × Nat)}
    (hM : vx_Met l y ws rm Pc Qc XC mc ms free) (hblind : FrameBlind Pc) (hrc : rm.cells = mc) (hrs : rm.slots = ms)
    (hframes : rm.frames + 1 ≤ R.frames) (hlocals : W9 + (maxL + 11) + rm.locals ≤ R.locals)
    (hws : ∀ w ∈ ws, ∀ a' U, s.WarmedH U.vm → w.before a' U = true) (hcode : Cond.codeWith y bytes maxL ret hh ∈ ws) (hinit : ∀ a' U, s.WarmedH U.vm → (Cond.initialized y.cls).before a' U = true) :
    vx_Back l R p e below s sargs y len W9 (PreOf R mc ms Pc) (PostOf Qc mc ms free) (vx_Post XC mc ms free) := by
  intro m meth c A g ig mk a X hg hsize hdg hW hn hp
  have h1 : (headSpec ws rm).pre.before a A.U = true := atoms_intro fun w hw => hws w hw _ _ X.warmed
  have h2 : (Cond.codeWith y bytes maxL ret hh).before a A.U = true := hws _ hcode _ _ X.warmed
  have h3 : (Cond.initialized y.cls).before a A.U = true := hinit _ _ X.warmed
  have h4 : A.cells + (headSpec ws rm).room.cells ≤ R.cells := by rw [show (headSpec ws rm).room.cells = mc from hrc]; exact hp.1
  have h5 : A.slots + (headSpec ws rm).room.slots ≤ R.slots := by rw [show (headSpec ws rm).room.slots = ms from hrs]; exact hp.2.1
  have hPc : Pc a (A.U.calling g mk a) := hblind _ _ _ _ hp.2.2
  obtain ⟨U, Ls, c0, s0⟩ := A
  dsimp only [Pt.U, Pt.locs, Pt.cells, Pt.slots] at h1 h2 h3 h4 h5 X hn hPc ⊢
  obtain ⟨m9, methY, cY, hn9, hmY, hcY, -, hlY, -⟩ := Cond.codeWith_spec h2
  cases Option.some.inj (hn9.symm.trans hn)
  obtain ⟨kY, hkY, -⟩ := className_of_methodNamed hn
  have hinitY : kY.init = .initialized := Cond.initialized_spec (findClass_of_methodNamed hn) hkY h3
  have h : At U g.method c below := by rw [hg]; exact X.here
  have hlocals9 : W9 + (maxL + 11) + (headSpec ws rm).room.locals ≤ R.locals := hlocals
  have happ : (headSpec ws rm).appliesLoose y e.platform (U.calling g mk a) = true :=
    Spec.appliesLoose_calling (g := g) h hdg hn hkY hinitY
      (X.room_calling (g := g) (R' := (headSpec ws rm).room) hsize hmY hcY hframes (by rw [hlY]; omega) h4 h5) h1
  obtain ⟨mid, hmid⟩ := h.above
  have hfr : (U.setTop g).frames = (.java g :: mid) ++ below := by rw [State.frames_setTop' g h.top, hmid]; rfl
  obtain ⟨o, s₂, hsteps, -, hend, hq⟩ := Steps.callFree hM p X.admits X.cas X.clock (acts := []) hfr happ hPc trivial
  have hq' : vx_Q Qc XC mc ms free a (U.calling g mk a) o s₂ := hq
  rw [State.frames_setTop' g h.top] at hend
  obtain ⟨g₀, hg0⟩ := Option.isSome_iff_exists.mp h.top
  obtain ⟨r, hr⟩ := State.topJava?_eq_some.mp hg0
  have hr' : (({ U with heap := s₂.heap, slotsUsed := s₂.slotsUsed } : State).setVm s₂.vm).frames = .java g₀ :: r := hr
  rcases hq' with ⟨hqc, L, hfe, hL⟩ | ⟨q, rfl, E, ce, L, hx, hce, hcv, hcl, hW₂, hsm, hL⟩
  · obtain ⟨⟨v, rfl⟩, hW₂, e2, q2, q3, q4, q5, q6⟩ := id hfe
    have e3 : s₂ = ({ (U.calling g mk a).setFrames s₂.frames with heap := s₂.heap, slotsUsed := s₂.slotsUsed } : State).setVm s₂.vm := by
      have : s₂ = ({ s₂ with vm := (U.calling g mk a).vm } : State).setVm s₂.vm := rfl
      rw [e2] at this
      exact this
    obtain ⟨c₂, i₂, len₂, hc₂, hd₂, hf₂⟩ := hend
    have hW' : U.WarmedH s₂.vm := hW₂
    have hcc : c₂ = c := by
      have h1 : s₂.code? g.method = U.code? g.method := by
        rw [State.code?_eq, State.code?_eq, hW'.alike.method?]
      exact Option.some.inj (hc₂.symm.trans (h1.trans h.code))
    subst hcc
    have hlen : len₂ = len := by rw [hdg] at hd₂; cases hd₂; rfl
    subst hlen
    have hs₂ : s₂ = (({ U with heap := s₂.heap, slotsUsed := s₂.slotsUsed } : State).setVm s₂.vm).setTop { g with pc := g.pc + len₂, stack := v.toList ++ g.stack } := by
      refine e3.trans ?_
      rw [hf₂, State.calling_eq h.top, State.setFrames_setFrames, State.setTop_of_frames _ hr', hr]
      rfl
    have hsame : U.sameButNew ({ U with heap := s₂.heap, slotsUsed := s₂.slotsUsed } : State) L mc ms := by
      refine ⟨?_, q2, q3, q4, q5, q6⟩
      obtain ⟨t, ht, -⟩ := State.frames_cons hr
      show ({ U with heap := s₂.heap, slotsUsed := s₂.slotsUsed } : State) = { U.setFrames U.frames with heap := s₂.heap, slotsUsed := s₂.slotsUsed }
      rw [State.setFrames_self ht]
    subst hg
    refine Or.inl ⟨v, ⟨(({ U with heap := s₂.heap, slotsUsed := s₂.slotsUsed } : State).setVm s₂.vm), Ls ++ L, c0 + mc, s0 + ms⟩,
      ⟨X.admits, X.cas, X.clock, X.frames, X.room, X.hears, X.method, X.code, (X.here.setHeapUsed s₂.heap s₂.slotsUsed).setVm hW'.alike, X.tail, State.WarmedH.trans X.warmed hW', X.limits, X.bytes, X.same.trans (hsame.setVm s.vm)⟩,
      ⟨g, mk, s₂, L, rfl, rfl, hqc, rfl, hL, rfl, rfl⟩, ?_⟩
    show Steps p.tables e below _ ((({ U with heap := s₂.heap, slotsUsed := s₂.slotsUsed } : State).setVm s₂.vm).setTop { g with pc := g.pc + len₂, stack := v.toList ++ g.stack })
    rw [← hs₂]
    exact hsteps
  · obtain ⟨e2, q2, q3, q4, q5, q6⟩ := id hsm
    have e3 : s₂ = ({ (U.calling g mk a).setFrames s₂.frames with heap := s₂.heap, slotsUsed := s₂.slotsUsed } : State).setVm s₂.vm := by
      have : s₂ = ({ s₂ with vm := (U.calling g mk a).vm } : State).setVm s₂.vm := rfl
      rw [e2] at this
      exact this
    have hf₂ : s₂.frames = .throwing q :: .java g :: U.frames.tail := hend
    have hW' : U.WarmedH s₂.vm := hW₂
    have hs₂ : s₂ = ((({ U with heap := s₂.heap, slotsUsed := s₂.slotsUsed } : State).setVm s₂.vm).setTop g).pushFrame (.throwing q) := by
      refine e3.trans ?_
      rw [hf₂, State.calling_eq h.top, State.setFrames_setFrames, State.pushFrame, State.frames_setTop _ hr', State.setTop_of_frames _ hr', State.setFrames_setFrames, hr]
      rfl
    have hsame : U.sameButNew ({ U with heap := s₂.heap, slotsUsed := s₂.slotsUsed } : State) L mc ms := by
      refine ⟨?_, q2, q3, q4, q5, q6⟩
      obtain ⟨t, ht, -⟩ := State.frames_cons hr
      show ({ U with heap := s₂.heap, slotsUsed := s₂.slotsUsed } : State) = { U.setFrames U.frames with heap := s₂.heap, slotsUsed := s₂.slotsUsed }
      rw [State.setFrames_self ht]
    subst hg
    refine Or.inr ⟨q, ⟨(({ U with heap := s₂.heap, slotsUsed := s₂.slotsUsed } : State).setVm s₂.vm), Ls ++ L, c0 + mc, s0 + ms⟩,
      ⟨X.admits, X.cas, X.clock, X.frames, X.room, X.hears, X.method, X.code, (X.here.setHeapUsed s₂.heap s₂.slotsUsed).setVm hW'.alike, X.tail, State.WarmedH.trans X.warmed hW', X.limits, X.bytes, X.same.trans (hsame.setVm s.vm)⟩,
      ⟨g, mk, s₂, L, E, ce, rfl, rfl, hx, hce, hcv, hcl, rfl, hL, rfl, rfl⟩, ?_⟩
    show Steps p.tables e below _ (((({ U with heap := s₂.heap, slotsUsed := s₂.slotsUsed } : State).setVm s₂.vm).setTop g).pushFrame (.throwing q))
    rw [← hs₂]
    exact hsteps
end
variable {p : Program} {l : Launch} {e : Env} {R : Room} {s : State} {m : MethodId} {args : Array Value} {below : List Frame} {meth : Method} {c : Code} {T : State} {H : Heap} {locs : List Loc} {cells slots : Nat}
theorem vx_callVX (X : Stand p l e R s m args below meth c T locs cells slots) (hexec : p.tables.exec = Jvm.exec) {own C : String} {index : Nat} {y : MethodName} {bytes : ByteArray} {maxL : Nat} {ret : Option FieldType} {hh : List (Nat × Nat × Nat × Nat)}
    (hown : s.vm.findClass own = some m.cls) (hlink : (Cond.methodLink own index y).before args s = true) (hinst : (Cond.instanceMethod y).before args s = true) (hsel : (Cond.selects C y y).before args s = true)
    (hcode : (Cond.codeWith y bytes maxL ret hh).before args s = true) (hy : y.cls ≠ "java/lang/invoke/MethodHandle" ∧ y.cls ≠ "java/lang/invoke/VarHandle")
    {W9 : Nat} {Pre : Pt → Array Value → Prop} {Post : Pt → Array Value → Option Value → Pt → Prop} {PostX : Pt → Array Value → Addr → Pt → Prop} (hK : vx_Back l R p e below s args y 3 W9 Pre Post PostX)
    {b : Addr} {cellB : Cell} (hcell : T.heap[b]? = some cellB) (hobj : cellB.vm.isStatics = false) (hcls : s.vm.findClass C = some cellB.cls)
    {g : JFrame} (hg : g.method = m) (hsize : g.locals.size = c.maxLocals) {argsL rest : List Value} (hlen : ∀ sig, parseMethodDescriptor y.desc = some sig → argsL.length = sig.parameters.length)
    (hstack : g.stack = argsL.reverse ++ .ref b :: rest) (hW : 2 * g.monitorRoom + (rest.map fun v => v.category).sum ≤ W9) (hdg : decode c.code g.pc = .ok (.invokevirtual index, 3))
    (hpre : ∀ vm₁, s.WarmedH vm₁ → Pre ⟨T.setVm vm₁, locs, cells, slots⟩ (Value.ref b :: argsL).toArray) :
    (∃ (v : Option Value) (vm₁ : Vm) (B : Pt), s.WarmedH vm₁ ∧ Stand p l e R s m args below meth c B.U B.locs B.cells B.slots ∧ Post ⟨T.setVm vm₁, locs, cells, slots⟩ (Value.ref b :: argsL).toArray v B ∧
      ∀ target, Steps p.tables e below (B.U.setTop { g with pc := g.pc + 3, stack := v.toList ++ rest }) target → Steps p.tables e below (T.setTop g) target) ∨
    (∃ (q : Addr) (vm₁ : Vm) (B : Pt), s.WarmedH vm₁ ∧ Stand p l e R s m args below meth c B.U B.locs B.cells B.slots ∧ PostX ⟨T.setVm vm₁, locs, cells, slots⟩ (Value.ref b :: argsL).toArray q B ∧
      Steps p.tables e below (T.setTop g) ((B.U.setTop { g with stack := rest }).pushFrame (.throwing q))) := by
  obtain ⟨mk, methM, hnamed, hmethM, hstM, habM⟩ := Cond.instanceMethod_spec hinst
  obtain ⟨m8, methM', cM, hn8, hmethM', -, -, -, -, -, -, hsigM⟩ := Cond.codeWith_spec hcode
  cases Option.some.inj (hn8.symm.trans hnamed)
  cases hmethM.symm.trans hmethM'
  obtain ⟨c2, r2, m2, q1, q2, q3, q4, kP, hkP, hkPi⟩ := Cond.selects_spec hsel
  cases hcls.symm.trans q1
  cases (State.methodFound?_of_named hnamed hy).symm.trans q2
  cases hnamed.symm.trans q3
  have hselP : selectMethod e.platform s.vm cellB.cls mk = .method mk := by rw [Launch.admits_selectMethod X.admits]; exact q4
  obtain ⟨vm₁, X₁, hstep₁⟩ := X.invokevirtual hexec hown hlink hnamed hmethM hstM hkP hkPi hy (a := b) (cell := cellB) hcell
    (fun z h => by rw [h] at hobj; cases hobj) hselP hmethM habM hkP hkPi (g := g) hg (argsL := argsL) (rest := rest) (hlen _ hsigM) hstack hdg
  rcases hK m meth c ⟨T.setVm vm₁, locs, cells, slots⟩ { g with stack := rest } (.invokevirtual index) mk (Value.ref b :: argsL).toArray X₁ hg hsize hdg hW (X₁.named hnamed) (hpre vm₁ X₁.warmed) with ⟨v, B, X', hpost, hsteps⟩ | ⟨q, B, X', hpost, hsteps⟩
  · exact Or.inl ⟨v, vm₁, B, X₁.warmed, X', hpost, fun target h => hstep₁ _ fun acts => by rw [doInvoke_state]; exact hsteps.trans h⟩
  · exact Or.inr ⟨q, vm₁, B, X₁.warmed, X', hpost, hstep₁ _ fun acts => by rw [doInvoke_state]; exact hsteps⟩
theorem vx_callSX (X : Stand p l e R s m args below meth c T locs cells slots) (hexec : p.tables.exec = Jvm.exec) {own : String} {index : Nat} {y : MethodName} {bytes : ByteArray} {maxL : Nat} {ret : Option FieldType} {hh : List (Nat × Nat × Nat × Nat)}
    (hown : s.vm.findClass own = some m.cls) (hlink : (Cond.methodLink own index y).before args s = true) (hstat : (Cond.static y).before args s = true) (hinit : (Cond.initialized y.cls).before args s = true)
    (hcode : (Cond.codeWith y bytes maxL ret hh).before args s = true) (hy : y.cls ≠ "java/lang/invoke/MethodHandle" ∧ y.cls ≠ "java/lang/invoke/VarHandle")
    {W9 : Nat} {Pre : Pt → Array Value → Prop} {Post : Pt → Array Value → Option Value → Pt → Prop} {PostX : Pt → Array Value → Addr → Pt → Prop} (hK : vx_Back l R p e below s args y 3 W9 Pre Post PostX)
    {g : JFrame} (hg : g.method = m) (hsize : g.locals.size = c.maxLocals) {argsL rest : List Value} (hlen : ∀ sig, parseMethodDescriptor y.desc = some sig → argsL.length = sig.parameters.length)
    (hstack : g.stack = argsL.reverse ++ rest) (hW : 2 * g.monitorRoom + (rest.map fun v => v.category).sum ≤ W9) (hdg : decode c.code g.pc = .ok (.invokestatic index, 3))
    (hpre : ∀ vm₁, s.WarmedH vm₁ → Pre ⟨T.setVm vm₁, locs, cells, slots⟩ argsL.toArray) :
    (∃ (v : Option Value) (vm₁ : Vm) (B : Pt), s.WarmedH vm₁ ∧ Stand p l e R s m args below meth c B.U B.locs B.cells B.slots ∧ Post ⟨T.setVm vm₁, locs, cells, slots⟩ argsL.toArray v B ∧
      ∀ target, Steps p.tables e below (B.U.setTop { g with pc := g.pc + 3, stack := v.toList ++ rest }) target → Steps p.tables e below (T.setTop g) target) ∨
    (∃ (q : Addr) (vm₁ : Vm) (B : Pt), s.WarmedH vm₁ ∧ Stand p l e R s m args below meth c B.U B.locs B.cells B.slots ∧ PostX ⟨T.setVm vm₁, locs, cells, slots⟩ argsL.toArray q B ∧
      Steps p.tables e below (T.setTop g) ((B.U.setTop { g with stack := rest }).pushFrame (.throwing q))) := by
  obtain ⟨mk, methM, cM, hnamed, hmethM, -, -, -, -, -, -, hsigM⟩ := Cond.codeWith_spec hcode
  have hstatic : methM.isStatic = true := Cond.static_spec hnamed hmethM hstat
  obtain ⟨kP, hkP, -⟩ := className_of_methodNamed hnamed
  have hinitP : kP.init = .initialized := Cond.initialized_spec (findClass_of_methodNamed hnamed) hkP hinit
  obtain ⟨vm₁, X₁, hstep₁⟩ := X.invokestatic hexec hown hlink hnamed hmethM hstatic hkP hinitP hy (g := g) hg (argsL := argsL) (rest := rest) (hlen _ hsigM) hstack hdg
  rcases hK m meth c ⟨T.setVm vm₁, locs, cells, slots⟩ { g with stack := rest } (.invokestatic index) mk argsL.toArray X₁ hg hsize hdg hW (X₁.named hnamed) (hpre vm₁ X₁.warmed) with ⟨v, B, X', hpost, hsteps⟩ | ⟨q, B, X', hpost, hsteps⟩
  · exact Or.inl ⟨v, vm₁, B, X₁.warmed, X', hpost, fun target h => hstep₁ _ fun acts => by rw [doInvoke_state]; exact hsteps.trans h⟩
  · exact Or.inr ⟨q, vm₁, B, X₁.warmed, X', hpost, hstep₁ _ fun acts => by rw [doInvoke_state]; exact hsteps⟩
theorem vx_callVW (X : Stand p l e R s m args below meth c T locs cells slots) (hexec : p.tables.exec = Jvm.exec) {own C : String} {index : Nat} {y : MethodName} {bytes : ByteArray} {maxL : Nat} {ret : Option FieldType} {hh : List (Nat × Nat × Nat × Nat)}
    (hown : s.vm.findClass own = some m.cls) (hlink : (Cond.methodLink own index y).before args s = true) (hinst : (Cond.instanceMethod y).before args s = true) (hsel : (Cond.selects C y y).before args s = true)
    (hcode : (Cond.codeWith y bytes maxL ret hh).before args s = true) (hy : y.cls ≠ "java/lang/invoke/MethodHandle" ∧ y.cls ≠ "java/lang/invoke/VarHandle")
    {W9 : Nat} {Pre : Pt → Array Value → Prop} {Post : Pt → Array Value → Option Value → Pt → Prop} (hK : Back l R p e below s args y 3 W9 Pre Post)
    {b : Addr} {cellB : Cell} (hcell : T.heap[b]? = some cellB) (hobj : cellB.vm.isStatics = false) (hcls : s.vm.findClass C = some cellB.cls)
    {g : JFrame} (hg : g.method = m) (hsize : g.locals.size = c.maxLocals) {argsL rest : List Value} (hlen : ∀ sig, parseMethodDescriptor y.desc = some sig → argsL.length = sig.parameters.length)
    (hstack : g.stack = argsL.reverse ++ .ref b :: rest) (hW : 2 * g.monitorRoom + (rest.map fun v => v.category).sum ≤ W9) (hdg : decode c.code g.pc = .ok (.invokevirtual index, 3))
    (hpre : ∀ vm₁, s.WarmedH vm₁ → Pre ⟨T.setVm vm₁, locs, cells, slots⟩ (Value.ref b :: argsL).toArray) :
    ∃ (v : Option Value) (vm₁ : Vm) (B : Pt), s.WarmedH vm₁ ∧ Stand p l e R s m args below meth c B.U B.locs B.cells B.slots ∧ Post ⟨T.setVm vm₁, locs, cells, slots⟩ (Value.ref b :: argsL).toArray v B ∧
      ∀ target, Steps p.tables e below (B.U.setTop { g with pc := g.pc + 3, stack := v.toList ++ rest }) target → Steps p.tables e below (T.setTop g) target := by
  obtain ⟨mk, methM, hnamed, hmethM, hstM, habM⟩ := Cond.instanceMethod_spec hinst
  obtain ⟨m8, methM', cM, hn8, hmethM', -, -, -, -, -, -, hsigM⟩ := Cond.codeWith_spec hcode
  cases Option.some.inj (hn8.symm.trans hnamed)
  cases hmethM.symm.trans hmethM'
  obtain ⟨c2, r2, m2, q1, q2, q3, q4, kP, hkP, hkPi⟩ := Cond.selects_spec hsel
  cases hcls.symm.trans q1
  cases (State.methodFound?_of_named hnamed hy).symm.trans q2
  cases hnamed.symm.trans q3
  have hselP : selectMethod e.platform s.vm cellB.cls mk = .method mk := by rw [Launch.admits_selectMethod X.admits]; exact q4
  obtain ⟨vm₁, X₁, hstep₁⟩ := X.invokevirtual hexec hown hlink hnamed hmethM hstM hkP hkPi hy (a := b) (cell := cellB) hcell
    (fun z h => by rw [h] at hobj; cases hobj) hselP hmethM habM hkP hkPi (g := g) hg (argsL := argsL) (rest := rest) (hlen _ hsigM) hstack hdg
  obtain ⟨v, B, X', hpost, hsteps⟩ := hK m meth c ⟨T.setVm vm₁, locs, cells, slots⟩ { g with stack := rest } (.invokevirtual index) mk (Value.ref b :: argsL).toArray X₁ hg hsize hdg hW (X₁.named hnamed) (hpre vm₁ X₁.warmed)
  exact ⟨v, vm₁, B, X₁.warmed, X', hpost, fun target h => hstep₁ _ fun acts => by rw [doInvoke_state]; exact hsteps.trans h⟩
abbrev vx_CVW (R : Room) (s : State) (args : Array Value) (own C : String) (index : Nat) (y : MethodName) (bytes : ByteArray) (maxL : Nat) (ret : Option FieldType) (hh : List (Nat × Nat × Nat × Nat)) (ws : List Cond) (rm : Room) (mc ms n : Nat) : Prop :=
  (rm.cells = mc ∧ rm.slots = ms ∧ rm.frames + 1 ≤ R.frames ∧ 8 + (maxL + 11) + rm.locals ≤ R.locals ∧ (∀ w ∈ ws, ∀ (a' : Array Value) (U : State), s.WarmedH U.vm → w.before a' U = true) ∧ Cond.codeWith y bytes maxL ret hh ∈ ws) ∧
  (Cond.codeWith y bytes maxL ret hh).before args s = true ∧ (Cond.initialized y.cls).before args s = true ∧ (y.cls ≠ "java/lang/invoke/MethodHandle" ∧ y.cls ≠ "java/lang/invoke/VarHandle") ∧
  (∀ sig, parseMethodDescriptor y.desc = some sig → n = sig.parameters.length) ∧ (Cond.methodLink own index y).before args s = true ∧ (Cond.instanceMethod y).before args s = true ∧ (Cond.selects C y y).before args s = true
theorem vx_cwVW {own C : String} {index maxL mc ms : Nat} {y : MethodName} {bytes : ByteArray} {ret : Option FieldType} {hh : List (Nat × Nat × Nat × Nat)} {Ts ws ws' : List Cond} {rm : Room} (n : Nat) (ht : ∀ w ∈ Ts, w.before args s = true) (hT : GoodIn Ts (wsV own index C y ws)) (hw : ws = Cond.codeWith y bytes maxL ret hh :: ws') (hrc : rm.cells = mc) (hrs : rm.slots = ms)
    (hd : y.cls = C ∧ y.cls ≠ "java/lang/invoke/MethodHandle" ∧ y.cls ≠ "java/lang/invoke/VarHandle" ∧ (parseMethodDescriptor y.desc).map (fun d => d.parameters.length) = some n) (hR : rm.frames + 1 ≤ R.frames ∧ 8 + (maxL + 11) + rm.locals ≤ R.locals) :
    vx_CVW R s args own C index y bytes maxL ret hh ws rm mc ms n := by
  obtain ⟨hC, hd⟩ := hd
  subst hC
  have ok : ∀ w ∈ wsV own index y.cls y ws, w.before args s = true := fun w h => ht w (hT w h).1
  have hG : GoodIn Ts ws := fun w h => hT w (by unfold wsV; exact List.mem_append_right _ h)
  have hc : Cond.codeWith y bytes maxL ret hh ∈ ws := by rw [hw]; exact List.mem_cons_self
  refine ⟨⟨hrc, hrs, hR.1, hR.2, pay_in ht hG, hc⟩, ht _ (hG _ hc).1, ok _ (by simp [wsV]), ⟨hd.1, hd.2.1⟩, fun sig h => ?_, ok _ (by simp [wsV]), ok _ (by simp [wsV]), ok _ (by simp [wsV])⟩
  have h2 := hd.2.2
  rw [h] at h2
  exact (Option.some.inj h2).symm
theorem vx_runVW {y : MethodName} {bytes cc : ByteArray} {maxL nL mc ms n index : Nat} {ret : Option FieldType} {hh : List (Nat × Nat × Nat × Nat)} {ws : List Cond} {rm : Room} {Pc : Array Value → State → Prop} {Qc : Array Value → State → Outcome → State → Prop} {free : Addr → Prop} {Ts : List Cond} {own C : String} {b : Addr} {As rest : List Value} {g : JFrame}
    (S : CallFix p m c cc nL s args Ts own) (hM : Met l y ws rm Pc Qc mc ms free) (cw : vx_CVW R s args own C index y bytes maxL ret hh ws rm mc ms n) (hp : PreV s H C b Pc As)
    (hg : g.method = m) (hn : As.length = n) (hsize : g.locals.size = nL) (hstack : g.stack = As.reverse ++ .ref b :: rest) (hW : 2 * g.monitorRoom + (rest.map fun v => v.category).sum ≤ 8) (hdg : decode cc g.pc = .ok (.invokevirtual index, 3)) (hf : cells + mc ≤ R.cells ∧ slots + ms ≤ R.slots) :
    va_Run p l e R s m args below meth c H locs cells slots mc ms g rest (Qc (Value.ref b :: As).toArray) free := by
  obtain ⟨⟨hrc, hrs, hfr, hlo, hws, hcw⟩, hcode, hini, hy, hlen, hl, hin, hse⟩ := cw
  have hK : Back l R p e below s args y 3 8 (PreOf R mc ms Pc) (PostOf Qc mc ms free) := va_backW (hh := hh) (bytes := bytes) (maxL := maxL) (ret := ret) hM hp.1 hrc hrs hfr hlo hws hcw (fun a' U hW => word_at hW (Or.inl (by first | rfl | simp [Cond.onTables, Cond.keeps, Cond.steady])) hini)
  obtain ⟨hx, hb, hml, ho, -⟩ := S
  obtain ⟨-, ⟨cellB, hcB, hoB, hclB⟩, hPc⟩ := hp
  intro T hT X
  obtain ⟨v, vm₁, ⟨U', l2, c2, s2⟩, hW₁, X', ⟨g', mk, t, L, e1, e2, hq, h1, hL, h2, h3⟩, st⟩ := vx_callVW X hx (C := C) (hh := hh) (bytes := bytes) (maxL := maxL) (ret := ret) ho hl hin hse hcode hy hK (by rw [hT]; exact hcB) hoB hclB hg (hsize.trans hml.symm) (argsL := As) (rest := rest) (fun sig h => hn.trans (hlen sig h)) hstack hW (by rw [hb]; exact hdg)
    (fun vm₁ hW₁ => ⟨hf.1, hf.2, hPc (T.setVm vm₁) hT hW₁⟩)
  dsimp only [Pt.U, Pt.locs, Pt.cells, Pt.slots] at X' e1 e2 h1 h2 h3 st
  subst h1; subst h2; subst h3
  exact ⟨v, (T.setVm vm₁).calling g' mk (Value.ref b :: As).toArray, t, U', L, hT, X', hL, e1, e2, hq, st⟩
section
variable {y : MethodName} {bytes cc : ByteArray} {maxL nL mc ms n index : Nat} {ret : Option FieldType} {ws : List Cond} {rm : Room} {Pc : Array Value → State → Prop} {Qc : Array Value → State → Outcome → State → Prop} {XC : String → State → State → Prop} {free : Addr → Prop} {Ts : List Cond} {own C : String} {b : Addr} {As rest : List Value} {g : JFrame}
theorem vx_runVX {hh : List (Nat × Nat × Nat × Nat)} (S : CallFix p m c cc nL s args Ts own) (hM : vx_Met l y ws rm Pc Qc XC mc ms free) (cw : vx_CVW R s args own C index y bytes maxL ret hh ws rm mc ms n) (hp : PreV s H C b Pc As)
    (hg : g.method = m) (hn : As.length = n) (hsize : g.locals.size = nL) (hstack : g.stack = As.reverse ++ .ref b :: rest) (hW : 2 * g.monitorRoom + (rest.map fun v => v.category).sum ≤ 8) (hdg : decode cc g.pc = .ok (.invokevirtual index, 3)) (hf : cells + mc ≤ R.cells ∧ slots + ms ≤ R.slots) :
    vx_Run p l e R s m args below meth c H locs cells slots mc ms g rest (Qc (Value.ref b :: As).toArray) XC free := by
  obtain ⟨⟨hrc, hrs, hfr, hlo, hws, hcw⟩, hcode, hini, hy, hlen, hl, hin, hse⟩ := cw
  have hK : vx_Back l R p e below s args y 3 8 (PreOf R mc ms Pc) (PostOf Qc mc ms free) (vx_Post XC mc ms free) := vx_backW (hh := hh) (bytes := bytes) (maxL := maxL) (ret := ret) hM hp.1 hrc hrs hfr hlo hws hcw (fun a' U hW => word_at hW (Or.inl (by first | rfl | simp [Cond.onTables, Cond.keeps, Cond.steady])) hini)
  obtain ⟨hx, hb, hml, ho, -⟩ := S
  obtain ⟨-, ⟨cellB, hcB, hoB, hclB⟩, hPc⟩ := hp
  intro T hT X
  rcases vx_callVX X hx (C := C) (hh := hh) (bytes := bytes) (maxL := maxL) (ret := ret) ho hl hin hse hcode hy hK (by rw [hT]; exact hcB) hoB hclB hg (hsize.trans hml.symm) (argsL := As) (rest := rest) (fun sig h => hn.trans (hlen sig h)) hstack hW (by rw [hb]; exact hdg)
    (fun vm₁ hW₁ => ⟨hf.1, hf.2, hPc (T.setVm vm₁) hT hW₁⟩) with ⟨v, vm₁, ⟨U', l2, c2, s2⟩, hW₁, X', ⟨g', mk, t, L, e1, e2, hq, h1, hL, h2, h3⟩, st⟩ | ⟨q, vm₁, ⟨U', l2, c2, s2⟩, hW₁, X', ⟨g', mk, t, L, E, ce, e1, e2, hq, hce, hcv, hcl, h1, hL, h2, h3⟩, st⟩
  · dsimp only [Pt.U, Pt.locs, Pt.cells, Pt.slots] at X' e1 e2 h1 h2 h3 st
    subst h1; subst h2; subst h3
    exact Or.inl ⟨v, (T.setVm vm₁).calling g' mk (Value.ref b :: As).toArray, t, U', L, hT, X', hL, e1, e2, hq, st⟩
  · dsimp only [Pt.U, Pt.locs, Pt.cells, Pt.slots] at X' e1 e2 h1 h2 h3 st hcl
    subst h1; subst h2; subst h3
    exact Or.inr ⟨q, (T.setVm vm₁).calling g' mk (Value.ref b :: As).toArray, t, U', L, E, ce, hT, X', hL, e1, e2, hq, hce, hcv, vx_cls hW₁ hcl, st⟩
theorem vx_runSX {hh : List (Nat × Nat × Nat × Nat)} (S : CallFix p m c cc nL s args Ts own) (hM : vx_Met l y ws rm Pc Qc XC mc ms free) (cw : vx_CSW R s args own index y bytes maxL ret hh ws rm mc ms n) (hp : PreS s H Pc As)
    (hg : g.method = m) (hn : As.length = n) (hsize : g.locals.size = nL) (hstack : g.stack = As.reverse ++ rest) (hW : 2 * g.monitorRoom + (rest.map fun v => v.category).sum ≤ 8) (hdg : decode cc g.pc = .ok (.invokestatic index, 3)) (hf : cells + mc ≤ R.cells ∧ slots + ms ≤ R.slots) :
    vx_Run p l e R s m args below meth c H locs cells slots mc ms g rest (Qc As.toArray) XC free := by
  obtain ⟨⟨hrc, hrs, hfr, hlo, hws, hcw⟩, hcode, hini, hy, hlen, hl, hstt⟩ := cw
  have hK : vx_Back l R p e below s args y 3 8 (PreOf R mc ms Pc) (PostOf Qc mc ms free) (vx_Post XC mc ms free) := vx_backW (hh := hh) (bytes := bytes) (maxL := maxL) (ret := ret) hM hp.1 hrc hrs hfr hlo hws hcw (fun a' U hW => word_at hW (Or.inl (by first | rfl | simp [Cond.onTables, Cond.keeps, Cond.steady])) hini)
  obtain ⟨hx, hb, hml, ho, -⟩ := S
  intro T hT X
  rcases vx_callSX X hx (hh := hh) (bytes := bytes) (maxL := maxL) (ret := ret) ho hl hstt hini hcode hy hK hg (hsize.trans hml.symm) (argsL := As) (rest := rest) (fun sig h => hn.trans (hlen sig h)) hstack hW (by rw [hb]; exact hdg)
    (fun vm₁ hW₁ => ⟨hf.1, hf.2, hp.2 (T.setVm vm₁) hT hW₁⟩) with ⟨v, vm₁, ⟨U', l2, c2, s2⟩, hW₁, X', ⟨g', mk, t, L, e1, e2, hq, h1, hL, h2, h3⟩, st⟩ | ⟨q, vm₁, ⟨U', l2, c2, s2⟩, hW₁, X', ⟨g', mk, t, L, E, ce, e1, e2, hq, hce, hcv, hcl, h1, hL, h2, h3⟩, st⟩
  · dsimp only [Pt.U, Pt.locs, Pt.cells, Pt.slots] at X' e1 e2 h1 h2 h3 st
    subst h1; subst h2; subst h3
    exact Or.inl ⟨v, (T.setVm vm₁).calling g' mk As.toArray, t, U', L, hT, X', hL, e1, e2, hq, st⟩
  · dsimp only [Pt.U, Pt.locs, Pt.cells, Pt.slots] at X' e1 e2 h1 h2 h3 st hcl
    subst h1; subst h2; subst h3
    exact Or.inr ⟨q, (T.setVm vm₁).calling g' mk As.toArray, t, U', L, E, ce, hT, X', hL, e1, e2, hq, hce, hcv, vx_cls hW₁ hcl, st⟩
end
end VXH
theorem vx_ofWH {l : Launch} {y : MethodName} {ws ws' : List Cond} {rm : Room} {Pc : Array Value → State → Prop} {Qc : Array Value → State → Outcome → State → Prop} {XC : String → State → State → Prop} {mc ms : Nat} {free : Addr → Prop} {cc : ByteArray} {maxL : Nat} {ret : Option FieldType} {hh : List (Nat × Nat × Nat × Nat)}
    (hy : plainName y.cls = true) (hw : ws = Cond.codeWith y cc maxL ret hh :: ws')
    (body : ∀ p e s m args below meth c s₁, BodyLoose p l y (headSpec ws rm) cc maxL ret e s m args below meth c s₁ → c.maxLocals = maxL → Pc args s →
      W p l e (headSpec ws rm).room s m args below meth c s.heap [] 0 0 (vx_MQ below Qc XC args s mc ms free) (entryFrame m args maxL)) : vx_Met l y ws rm Pc Qc XC mc ms free := by
  refine MetFree.of_bodyS (code := cc) (maxLocals := maxL) (ret := ret) hy ?_ ?_
  · intro args s m h hn
    obtain ⟨m9, meth, c, hn9, h1, h2, h3, h4, -, h5, h6, -⟩ := Cond.codeWith_spec (atoms_spec (ws := ws) h _ (by rw [hw]; exact List.mem_cons_self))
    cases hn.symm.trans hn9
    exact ⟨meth, c, h1, h2, h3, h4, h5, h6⟩
  · intro p e s m args below meth c s₁ B hml hP _
    have hh0 : s₁.heap = s.heap := by rw [B.state]; rfl
    obtain ⟨t, a1, o, b1, b2, b3⟩ := body p e s m args below meth c s₁ B hml hP s₁ hh0 (Stand.of_body B)
    exact ⟨t, o, a1, b1, b2, b3⟩
/-! ===== END ===== -/
end
section
/-! ===== BEGIN printed: names, fields, word lists, decode rows ===== -/
def RX0 : String := "TaxiRank$Cab"
def TX0 : u_T := fun k => match k with
  | 0 => ("TaxiRank$Cab", "number", "I", true)
  | 1 => ("TaxiRank$Cab", "seats", "I", true)
  | 2 => ("TaxiRank$Cab", "zone", "I", false)
  | 3 => ("TaxiRank$Cab", "state", "I", false)
  | 4 => ("TaxiRank$Cab", "turn", "I", false)
  | 5 => ("TaxiRank$Cab", "arrival", "I", false)
  | 6 => ("TaxiRank$Cab", "order", "LTaxiRank$Order;", false)
  | 7 => ("TaxiRank$Cab", "kept", "I", false)
  | _ => ("TaxiRank$Cab", "due", "I", false)
def tyX0 : Nat → FieldType := fun k => match k with
  | 0 => .int
  | 1 => .int
  | 2 => .int
  | 3 => .int
  | 4 => .int
  | 5 => .int
  | 6 => .object "TaxiRank$Order"
  | 7 => .int
  | _ => .int
abbrev wsX00 : List Cond := u_ws RX0 TX0 9
theorem nmX0 : ∀ a, a < 9 → ∀ b, b < 9 → a ≠ b → (TX0 a).2.1 ≠ (TX0 b).2.1 := by decide +kernel
theorem tyX0_ok : ∀ k, k < 9 → parseFieldDescriptor (TX0 k).2.2.1 = some (tyX0 k) := by decide +kernel
abbrev cX0_init : ByteArray := prog_2_method_1_code
def yX0_init : MethodName := ⟨RX0, "<init>", "(III)V"⟩
def RX1 : String := "TaxiRank$Order"
def TX1 : u_T := fun k => match k with
  | 0 => ("TaxiRank$Order", "number", "I", true)
  | 1 => ("TaxiRank$Order", "from", "I", true)
  | 2 => ("TaxiRank$Order", "to", "I", true)
  | 3 => ("TaxiRank$Order", "passengers", "I", true)
  | 4 => ("TaxiRank$Order", "due", "I", true)
  | 5 => ("TaxiRank$Order", "state", "I", false)
  | 6 => ("TaxiRank$Order", "cab", "LTaxiRank$Cab;", false)
  | 7 => ("TaxiRank$Order", "offeredAt", "I", false)
  | 8 => ("TaxiRank$Order", "refusers", "I", false)
  | 9 => ("TaxiRank$Order", "begunAt", "I", false)
  | 10 => ("TaxiRank$Order", "doneAt", "I", false)
  | 11 => ("TaxiRank$Order", "base", "I", false)
  | 12 => ("TaxiRank$Order", "way", "I", false)
  | 13 => ("TaxiRank$Order", "waiting", "I", false)
  | _ => ("TaxiRank$Order", "night", "I", false)
def tyX1 : Nat → FieldType := fun k => match k with
  | 0 => .int
  | 1 => .int
  | 2 => .int
  | 3 => .int
  | 4 => .int
  | 5 => .int
  | 6 => .object "TaxiRank$Cab"
  | 7 => .int
  | 8 => .int
  | 9 => .int
  | 10 => .int
  | 11 => .int
  | 12 => .int
  | 13 => .int
  | _ => .int
abbrev wsX10 : List Cond := u_ws RX1 TX1 15
theorem nmX1 : ∀ a, a < 15 → ∀ b, b < 15 → a ≠ b → (TX1 a).2.1 ≠ (TX1 b).2.1 := by decide +kernel
theorem tyX1_ok : ∀ k, k < 15 → parseFieldDescriptor (TX1 k).2.2.1 = some (tyX1 k) := by decide +kernel
abbrev cX1_init : ByteArray := prog_3_method_1_code
def yX1_init : MethodName := ⟨RX1, "<init>", "(IIIII)V"⟩
def RX2 : String := "TaxiRank"
def TX2 : u_T := fun k => match k with
  | 0 => ("TaxiRank", "ways", "[I", true)
  | 1 => ("TaxiRank", "cabs", "Ljava/util/ArrayList;", true)
  | 2 => ("TaxiRank", "orders", "Ljava/util/ArrayList;", true)
  | 3 => ("TaxiRank", "time", "I", false)
  | 4 => ("TaxiRank", "baseRate", "I", false)
  | 5 => ("TaxiRank", "wayRate", "I", false)
  | _ => ("TaxiRank", "turnsGiven", "I", false)
def tyX2 : Nat → FieldType := fun k => match k with
  | 0 => .array .int
  | 1 => .object "java/util/ArrayList"
  | 2 => .object "java/util/ArrayList"
  | 3 => .int
  | 4 => .int
  | 5 => .int
  | _ => .int
abbrev wsX20 : List Cond := u_ws RX2 TX2 7
theorem nmX2 : ∀ a, a < 7 → ∀ b, b < 7 → a ≠ b → (TX2 a).2.1 ≠ (TX2 b).2.1 := by decide +kernel
theorem tyX2_ok : ∀ k, k < 7 → parseFieldDescriptor (TX2 k).2.2.1 = some (tyX2 k) := by decide +kernel
abbrev cX2_init : ByteArray := prog_1_method_1_code
def yX2_init : MethodName := ⟨RX2, "<init>", "()V"⟩
abbrev cX2_setWay : ByteArray := prog_1_method_2_code
def yX2_setWay : MethodName := ⟨RX2, "setWay", "(III)I"⟩
abbrev cX2_addCab : ByteArray := prog_1_method_3_code
def yX2_addCab : MethodName := ⟨RX2, "addCab", "(II)I"⟩
abbrev cX2_start : ByteArray := prog_1_method_4_code
def yX2_start : MethodName := ⟨RX2, "start", "(I)I"⟩
abbrev cX2_stop : ByteArray := prog_1_method_5_code
def yX2_stop : MethodName := ⟨RX2, "stop", "(I)I"⟩
abbrev cX2_cab : ByteArray := prog_1_method_7_code
def yX2_cab : MethodName := ⟨RX2, "cab", "(II)I"⟩
abbrev cX2_order : ByteArray := prog_1_method_8_code
def yX2_order : MethodName := ⟨RX2, "order", "(IIII)I"⟩
abbrev cX2_accept : ByteArray := prog_1_method_9_code
def yX2_accept : MethodName := ⟨RX2, "accept", "(I)I"⟩
abbrev cX2_refuse : ByteArray := prog_1_method_10_code
def yX2_refuse : MethodName := ⟨RX2, "refuse", "(I)I"⟩
abbrev cX2_cancel : ByteArray := prog_1_method_11_code
def yX2_cancel : MethodName := ⟨RX2, "cancel", "(I)I"⟩
abbrev cX2_told : ByteArray := prog_1_method_12_code
def yX2_told : MethodName := ⟨RX2, "told", "(II)I"⟩
abbrev cX2_tick : ByteArray := prog_1_method_14_code
def yX2_tick : MethodName := ⟨RX2, "tick", "(I)I"⟩
abbrev cX2_now : ByteArray := prog_1_method_15_code
def yX2_now : MethodName := ⟨RX2, "now", "()I"⟩
abbrev cX2_count : ByteArray := prog_1_method_17_code
def yX2_count : MethodName := ⟨RX2, "count", "(I)I"⟩
abbrev cX2_isZone : ByteArray := prog_1_method_23_code
def yX2_isZone : MethodName := ⟨RX2, "isZone", "(I)Z"⟩
abbrev cX2_requireZone : ByteArray := prog_1_method_24_code
def yX2_requireZone : MethodName := ⟨RX2, "requireZone", "(I)V"⟩
abbrev cX2_requirePassengers : ByteArray := prog_1_method_25_code
def yX2_requirePassengers : MethodName := ⟨RX2, "requirePassengers", "(I)V"⟩
abbrev cX2_cabNumbered : ByteArray := prog_1_method_26_code
def yX2_cabNumbered : MethodName := ⟨RX2, "cabNumbered", "(I)LTaxiRank$Cab;"⟩
abbrev cX2_orderNumbered : ByteArray := prog_1_method_27_code
def yX2_orderNumbered : MethodName := ⟨RX2, "orderNumbered", "(I)LTaxiRank$Order;"⟩
abbrev cX2_wayBetween : ByteArray := prog_1_method_28_code
def yX2_wayBetween : MethodName := ⟨RX2, "wayBetween", "(II)I"⟩
abbrev cX2_putWay : ByteArray := prog_1_method_29_code
def yX2_putWay : MethodName := ⟨RX2, "putWay", "(III)V"⟩
abbrev cX2_joinQueue : ByteArray := prog_1_method_30_code
def yX2_joinQueue : MethodName := ⟨RX2, "joinQueue", "(LTaxiRank$Cab;)V"⟩
abbrev cX2_isInQueue : ByteArray := prog_1_method_31_code
def yX2_isInQueue : MethodName := ⟨RX2, "isInQueue", "(LTaxiRank$Cab;I)Z"⟩
abbrev cX2_placeOf : ByteArray := prog_1_method_32_code
def yX2_placeOf : MethodName := ⟨RX2, "placeOf", "(LTaxiRank$Cab;)I"⟩
abbrev cX2_isIdle : ByteArray := prog_1_method_34_code
def yX2_isIdle : MethodName := ⟨RX2, "isIdle", "(LTaxiRank$Cab;)Z"⟩
abbrev cX2_offeredTo : ByteArray := prog_1_method_35_code
def yX2_offeredTo : MethodName := ⟨RX2, "offeredTo", "(LTaxiRank$Cab;)LTaxiRank$Order;"⟩
abbrev cX2_makeOffers : ByteArray := prog_1_method_36_code
def yX2_makeOffers : MethodName := ⟨RX2, "makeOffers", "()V"⟩
abbrev cX2_makeNextOffer : ByteArray := prog_1_method_37_code
def yX2_makeNextOffer : MethodName := ⟨RX2, "makeNextOffer", "()Z"⟩
abbrev cX2_isLookedAt : ByteArray := prog_1_method_38_code
def yX2_isLookedAt : MethodName := ⟨RX2, "isLookedAt", "(LTaxiRank$Order;)Z"⟩
abbrev cX2_cabFor : ByteArray := prog_1_method_39_code
def yX2_cabFor : MethodName := ⟨RX2, "cabFor", "(LTaxiRank$Order;)LTaxiRank$Cab;"⟩
abbrev cX2_rankOfZone : ByteArray := prog_1_method_40_code
def yX2_rankOfZone : MethodName := ⟨RX2, "rankOfZone", "(II)I"⟩
abbrev cX2_canBeOffered : ByteArray := prog_1_method_41_code
def yX2_canBeOffered : MethodName := ⟨RX2, "canBeOffered", "(LTaxiRank$Order;LTaxiRank$Cab;)Z"⟩
abbrev cX2_refuserBit : ByteArray := prog_1_method_42_code
def yX2_refuserBit : MethodName := ⟨RX2, "refuserBit", "(LTaxiRank$Cab;)I"⟩
abbrev cX2_turnDown : ByteArray := prog_1_method_43_code
def yX2_turnDown : MethodName := ⟨RX2, "turnDown", "(LTaxiRank$Cab;)V"⟩
abbrev cX2_releaseCab : ByteArray := prog_1_method_44_code
def yX2_releaseCab : MethodName := ⟨RX2, "releaseCab", "(LTaxiRank$Order;)V"⟩
abbrev cX2_passMinute : ByteArray := prog_1_method_45_code
def yX2_passMinute : MethodName := ⟨RX2, "passMinute", "()I"⟩
abbrev cX2_refuseOldOffers : ByteArray := prog_1_method_46_code
def yX2_refuseOldOffers : MethodName := ⟨RX2, "refuseOldOffers", "()V"⟩
abbrev cX2_bringCabsOn : ByteArray := prog_1_method_47_code
def yX2_bringCabsOn : MethodName := ⟨RX2, "bringCabsOn", "()I"⟩
abbrev cX2_beginRide : ByteArray := prog_1_method_48_code
def yX2_beginRide : MethodName := ⟨RX2, "beginRide", "(LTaxiRank$Cab;LTaxiRank$Order;)V"⟩
abbrev cX2_meterFare : ByteArray := prog_1_method_49_code
def yX2_meterFare : MethodName := ⟨RX2, "meterFare", "(LTaxiRank$Order;I)V"⟩
abbrev cX2_endRide : ByteArray := prog_1_method_50_code
def yX2_endRide : MethodName := ⟨RX2, "endRide", "(LTaxiRank$Cab;LTaxiRank$Order;)V"⟩
abbrev cX2_cabDetail : ByteArray := prog_1_method_51_code
def yX2_cabDetail : MethodName := ⟨RX2, "cabDetail", "(LTaxiRank$Cab;I)I"⟩
abbrev cX2_orderDetail : ByteArray := prog_1_method_52_code
def yX2_orderDetail : MethodName := ⟨RX2, "orderDetail", "(LTaxiRank$Order;I)I"⟩
abbrev cX2_wholeFare : ByteArray := prog_1_method_54_code
def yX2_wholeFare : MethodName := ⟨RX2, "wholeFare", "(LTaxiRank$Order;)I"⟩
abbrev cX2_ordersInState : ByteArray := prog_1_method_55_code
def yX2_ordersInState : MethodName := ⟨RX2, "ordersInState", "(I)I"⟩
def RX3 : String := "TaxiRankLaw$Rank"
def TX3 : u_T := fun k => match k with
  | 0 => ("TaxiRankLaw$Rank", "ways", "[[I", true)
  | 1 => ("TaxiRankLaw$Rank", "cabs", "[[I", true)
  | 2 => ("TaxiRankLaw$Rank", "orders", "[[I", true)
  | 3 => ("TaxiRankLaw$Rank", "queues", "[[I", true)
  | 4 => ("TaxiRankLaw$Rank", "refused", "[[Z", true)
  | 5 => ("TaxiRankLaw$Rank", "money", "[[I", true)
  | 6 => ("TaxiRankLaw$Rank", "many", "I", false)
  | 7 => ("TaxiRankLaw$Rank", "all", "I", false)
  | 8 => ("TaxiRankLaw$Rank", "now", "I", false)
  | 9 => ("TaxiRankLaw$Rank", "base", "I", false)
  | _ => ("TaxiRankLaw$Rank", "rate", "I", false)
def tyX3 : Nat → FieldType := fun k => match k with
  | 0 => .array (.array .int)
  | 1 => .array (.array .int)
  | 2 => .array (.array .int)
  | 3 => .array (.array .int)
  | 4 => .array (.array .boolean)
  | 5 => .array (.array .int)
  | 6 => .int
  | 7 => .int
  | 8 => .int
  | 9 => .int
  | _ => .int
abbrev wsX30 : List Cond := u_ws RX3 TX3 11
theorem nmX3 : ∀ a, a < 11 → ∀ b, b < 11 → a ≠ b → (TX3 a).2.1 ≠ (TX3 b).2.1 := by decide +kernel
theorem tyX3_ok : ∀ k, k < 11 → parseFieldDescriptor (TX3 k).2.2.1 = some (tyX3 k) := by decide +kernel
abbrev cX3_init : ByteArray := prog_5_method_1_code
def yX3_init : MethodName := ⟨RX3, "<init>", "()V"⟩
abbrev cX3_join : ByteArray := prog_5_method_2_code
def yX3_join : MethodName := ⟨RX3, "join", "(II)I"⟩
abbrev cX3_leave : ByteArray := prog_5_method_3_code
def yX3_leave : MethodName := ⟨RX3, "leave", "(II)V"⟩
abbrev cX3_first : ByteArray := prog_5_method_4_code
def yX3_first : MethodName := ⟨RX3, "first", "(II)I"⟩
abbrev cX3_choose : ByteArray := prog_5_method_5_code
def yX3_choose : MethodName := ⟨RX3, "choose", "(I)I"⟩
abbrev cX3_offer : ByteArray := prog_5_method_6_code
def yX3_offer : MethodName := ⟨RX3, "offer", "()V"⟩
abbrev cX3_refuse : ByteArray := prog_5_method_7_code
def yX3_refuse : MethodName := ⟨RX3, "refuse", "(I)V"⟩
abbrev cX3_back : ByteArray := prog_5_method_8_code
def yX3_back : MethodName := ⟨RX3, "back", "(I)V"⟩
abbrev cX3_accept : ByteArray := prog_5_method_9_code
def yX3_accept : MethodName := ⟨RX3, "accept", "(I)I"⟩
abbrev cX3_cancel : ByteArray := prog_5_method_10_code
def yX3_cancel : MethodName := ⟨RX3, "cancel", "(I)I"⟩
abbrev cX3_free : ByteArray := prog_5_method_11_code
def yX3_free : MethodName := ⟨RX3, "free", "(II)V"⟩
abbrev cX3_minute : ByteArray := prog_5_method_12_code
def yX3_minute : MethodName := ⟨RX3, "minute", "()I"⟩
def RX4 : String := "TaxiRankModel"
def TX4 : u_T := fun k => match k with
  | _ => ("", "", "", false)
def tyX4 : Nat → FieldType := fun k => match k with
  | _ => .int
abbrev wsX40 : List Cond := u_ws RX4 TX4 0
theorem nmX4 : ∀ a, a < 0 → ∀ b, b < 0 → a ≠ b → (TX4 a).2.1 ≠ (TX4 b).2.1 := by decide +kernel
theorem tyX4_ok : ∀ k, k < 0 → parseFieldDescriptor (TX4 k).2.2.1 = some (tyX4 k) := by decide +kernel
def RJx145de : String := "java/io/Serializable"
def TJx145de : u_T := fun k => match k with
  | _ => ("", "", "", false)
def tyJx145de : Nat → FieldType := fun k => match k with
  | _ => .int
abbrev wsJx145de0 : List Cond := u_ws RJx145de TJx145de 0
theorem nmJx145de : ∀ a, a < 0 → ∀ b, b < 0 → a ≠ b → (TJx145de a).2.1 ≠ (TJx145de b).2.1 := by decide +kernel
theorem tyJx145de_ok : ∀ k, k < 0 → parseFieldDescriptor (TJx145de k).2.2.1 = some (tyJx145de k) := by decide +kernel
def RJx8e188 : String := "java/lang/Cloneable"
def TJx8e188 : u_T := fun k => match k with
  | _ => ("", "", "", false)
def tyJx8e188 : Nat → FieldType := fun k => match k with
  | _ => .int
abbrev wsJx8e1880 : List Cond := u_ws RJx8e188 TJx8e188 0
theorem nmJx8e188 : ∀ a, a < 0 → ∀ b, b < 0 → a ≠ b → (TJx8e188 a).2.1 ≠ (TJx8e188 b).2.1 := by decide +kernel
theorem tyJx8e188_ok : ∀ k, k < 0 → parseFieldDescriptor (TJx8e188 k).2.2.1 = some (tyJx8e188 k) := by decide +kernel
def RJ6 : String := "java/lang/Integer"
def TJ6 : u_T := fun k => match k with
  | _ => ("", "", "", false)
def tyJ6 : Nat → FieldType := fun k => match k with
  | _ => .int
abbrev wsJ60 : List Cond := u_ws RJ6 TJ6 0
theorem nmJ6 : ∀ a, a < 0 → ∀ b, b < 0 → a ≠ b → (TJ6 a).2.1 ≠ (TJ6 b).2.1 := by decide +kernel
theorem tyJ6_ok : ∀ k, k < 0 → parseFieldDescriptor (TJ6 k).2.2.1 = some (tyJ6 k) := by decide +kernel
abbrev cJ6_bitCount_0f7a4 : ByteArray := prog_13_method_49_code
def yJ6_bitCount_0f7a4 : MethodName := ⟨RJ6, "bitCount", "(I)I"⟩
def RJxab1ab : String := "java/lang/Iterable"
def TJxab1ab : u_T := fun k => match k with
  | _ => ("", "", "", false)
def tyJxab1ab : Nat → FieldType := fun k => match k with
  | _ => .int
abbrev wsJxab1ab0 : List Cond := u_ws RJxab1ab TJxab1ab 0
theorem nmJxab1ab : ∀ a, a < 0 → ∀ b, b < 0 → a ≠ b → (TJxab1ab a).2.1 ≠ (TJxab1ab b).2.1 := by decide +kernel
theorem tyJxab1ab_ok : ∀ k, k < 0 → parseFieldDescriptor (TJxab1ab k).2.2.1 = some (tyJxab1ab k) := by decide +kernel
def RJ9 : String := "java/lang/Math"
def TJ9 : u_T := fun k => match k with
  | _ => ("", "", "", false)
def tyJ9 : Nat → FieldType := fun k => match k with
  | _ => .int
abbrev wsJ90 : List Cond := u_ws RJ9 TJ9 0
theorem nmJ9 : ∀ a, a < 0 → ∀ b, b < 0 → a ≠ b → (TJ9 a).2.1 ≠ (TJ9 b).2.1 := by decide +kernel
theorem tyJ9_ok : ∀ k, k < 0 → parseFieldDescriptor (TJ9 k).2.2.1 = some (tyJ9 k) := by decide +kernel
abbrev cJ9_max_7cf53 : ByteArray := prog_15_method_65_code
def yJ9_max_7cf53 : MethodName := ⟨RJ9, "max", "(II)I"⟩
abbrev cJ9_min_7cf53 : ByteArray := prog_15_method_69_code
def yJ9_min_7cf53 : MethodName := ⟨RJ9, "min", "(II)I"⟩
def RJ0 : String := "java/lang/String"
def TJ0 : u_T := fun k => match k with
  | _ => ("", "", "", false)
def tyJ0 : Nat → FieldType := fun k => match k with
  | _ => .int
abbrev wsJ00 : List Cond := u_ws RJ0 TJ0 0
theorem nmJ0 : ∀ a, a < 0 → ∀ b, b < 0 → a ≠ b → (TJ0 a).2.1 ≠ (TJ0 b).2.1 := by decide +kernel
theorem tyJ0_ok : ∀ k, k < 0 → parseFieldDescriptor (TJ0 k).2.2.1 = some (tyJ0 k) := by decide +kernel
def RJ10 : String := "java/lang/System"
def TJ10 : u_T := fun k => match k with
  | _ => ("", "", "", false)
def tyJ10 : Nat → FieldType := fun k => match k with
  | _ => .int
abbrev wsJ100 : List Cond := u_ws RJ10 TJ10 0
theorem nmJ10 : ∀ a, a < 0 → ∀ b, b < 0 → a ≠ b → (TJ10 a).2.1 ≠ (TJ10 b).2.1 := by decide +kernel
theorem tyJ10_ok : ∀ k, k < 0 → parseFieldDescriptor (TJ10 k).2.2.1 = some (tyJ10 k) := by decide +kernel
def RJxa1e45 : String := "java/util/AbstractCollection"
def TJxa1e45 : u_T := fun k => match k with
  | _ => ("", "", "", false)
def tyJxa1e45 : Nat → FieldType := fun k => match k with
  | _ => .int
abbrev wsJxa1e450 : List Cond := u_ws RJxa1e45 TJxa1e45 0
theorem nmJxa1e45 : ∀ a, a < 0 → ∀ b, b < 0 → a ≠ b → (TJxa1e45 a).2.1 ≠ (TJxa1e45 b).2.1 := by decide +kernel
theorem tyJxa1e45_ok : ∀ k, k < 0 → parseFieldDescriptor (TJxa1e45 k).2.2.1 = some (tyJxa1e45 k) := by decide +kernel
abbrev cJxa1e45_init_da8c8 : ByteArray := prog_20_method_1_code
def yJxa1e45_init_da8c8 : MethodName := ⟨RJxa1e45, "<init>", "()V"⟩
def RJxc12de : String := "java/util/AbstractList"
def TJxc12de : u_T := fun k => match k with
  | _ => ("", "", "", false)
def tyJxc12de : Nat → FieldType := fun k => match k with
  | _ => .int
abbrev wsJxc12de0 : List Cond := u_ws RJxc12de TJxc12de 0
theorem nmJxc12de : ∀ a, a < 0 → ∀ b, b < 0 → a ≠ b → (TJxc12de a).2.1 ≠ (TJxc12de b).2.1 := by decide +kernel
theorem tyJxc12de_ok : ∀ k, k < 0 → parseFieldDescriptor (TJxc12de k).2.2.1 = some (tyJxc12de k) := by decide +kernel
abbrev cJxc12de_init_da8c8 : ByteArray := prog_21_method_1_code
def yJxc12de_init_da8c8 : MethodName := ⟨RJxc12de, "<init>", "()V"⟩
def RJx4a65c : String := "java/util/ArrayList"
def TJx4a65c : u_T := fun k => match k with
  | 0 => ("java/util/AbstractList", "modCount", "I", false)
  | 1 => ("java/util/ArrayList", "elementData", "[Ljava/lang/Object;", false)
  | _ => ("java/util/ArrayList", "size", "I", false)
def tyJx4a65c : Nat → FieldType := fun k => match k with
  | 0 => .int
  | 1 => .array (.object "java/lang/Object")
  | _ => .int
abbrev wsJx4a65c0 : List Cond := u_ws RJx4a65c TJx4a65c 3
theorem nmJx4a65c : ∀ a, a < 3 → ∀ b, b < 3 → a ≠ b → (TJx4a65c a).2.1 ≠ (TJx4a65c b).2.1 := by decide +kernel
theorem tyJx4a65c_ok : ∀ k, k < 3 → parseFieldDescriptor (TJx4a65c k).2.2.1 = some (tyJx4a65c k) := by decide +kernel
abbrev cJx4a65c_init_da8c8 : ByteArray := prog_22_method_2_code
def yJx4a65c_init_da8c8 : MethodName := ⟨RJx4a65c, "<init>", "()V"⟩
abbrev cJx4a65c_grow_92f84 : ByteArray := prog_22_method_6_code
def yJx4a65c_grow_92f84 : MethodName := ⟨RJx4a65c, "grow", "(I)[Ljava/lang/Object;"⟩
abbrev cJx4a65c_grow_d5877 : ByteArray := prog_22_method_7_code
def yJx4a65c_grow_d5877 : MethodName := ⟨RJx4a65c, "grow", "()[Ljava/lang/Object;"⟩
abbrev cJx4a65c_size_8abf5 : ByteArray := prog_22_method_8_code
def yJx4a65c_size_8abf5 : MethodName := ⟨RJx4a65c, "size", "()I"⟩
abbrev cJx4a65c_elementData_915e3 : ByteArray := prog_22_method_18_code
def yJx4a65c_elementData_915e3 : MethodName := ⟨RJx4a65c, "elementData", "(I)Ljava/lang/Object;"⟩
abbrev cJx4a65c_get_915e3 : ByteArray := prog_22_method_20_code
def yJx4a65c_get_915e3 : MethodName := ⟨RJx4a65c, "get", "(I)Ljava/lang/Object;"⟩
abbrev cJx4a65c_add_72be8 : ByteArray := prog_22_method_24_code
def yJx4a65c_add_72be8 : MethodName := ⟨RJx4a65c, "add", "(Ljava/lang/Object;[Ljava/lang/Object;I)V"⟩
abbrev cJx4a65c_add_9ea2d : ByteArray := prog_22_method_25_code
def yJx4a65c_add_9ea2d : MethodName := ⟨RJx4a65c, "add", "(Ljava/lang/Object;)Z"⟩
def RJ7 : String := "java/util/Arrays"
def TJ7 : u_T := fun k => match k with
  | _ => ("", "", "", false)
def tyJ7 : Nat → FieldType := fun k => match k with
  | _ => .int
abbrev wsJ70 : List Cond := u_ws RJ7 TJ7 0
theorem nmJ7 : ∀ a, a < 0 → ∀ b, b < 0 → a ≠ b → (TJ7 a).2.1 ≠ (TJ7 b).2.1 := by decide +kernel
theorem tyJ7_ok : ∀ k, k < 0 → parseFieldDescriptor (TJ7 k).2.2.1 = some (tyJ7 k) := by decide +kernel
abbrev cJ7_copyOf_1904c : ByteArray := prog_23_method_119_code
def yJ7_copyOf_1904c : MethodName := ⟨RJ7, "copyOf", "([Ljava/lang/Object;I)[Ljava/lang/Object;"⟩
abbrev cJ7_copyOf_6403c : ByteArray := prog_23_method_120_code
def yJ7_copyOf_6403c : MethodName := ⟨RJ7, "copyOf", "([Ljava/lang/Object;ILjava/lang/Class;)[Ljava/lang/Object;"⟩
def RJx5ef63 : String := "java/util/Collection"
def TJx5ef63 : u_T := fun k => match k with
  | _ => ("", "", "", false)
def tyJx5ef63 : Nat → FieldType := fun k => match k with
  | _ => .int
abbrev wsJx5ef630 : List Cond := u_ws RJx5ef63 TJx5ef63 0
theorem nmJx5ef63 : ∀ a, a < 0 → ∀ b, b < 0 → a ≠ b → (TJx5ef63 a).2.1 ≠ (TJx5ef63 b).2.1 := by decide +kernel
theorem tyJx5ef63_ok : ∀ k, k < 0 → parseFieldDescriptor (TJx5ef63 k).2.2.1 = some (tyJx5ef63 k) := by decide +kernel
def RJxbd725 : String := "java/util/List"
def TJxbd725 : u_T := fun k => match k with
  | _ => ("", "", "", false)
def tyJxbd725 : Nat → FieldType := fun k => match k with
  | _ => .int
abbrev wsJxbd7250 : List Cond := u_ws RJxbd725 TJxbd725 0
theorem nmJxbd725 : ∀ a, a < 0 → ∀ b, b < 0 → a ≠ b → (TJxbd725 a).2.1 ≠ (TJxbd725 b).2.1 := by decide +kernel
theorem tyJxbd725_ok : ∀ k, k < 0 → parseFieldDescriptor (TJxbd725 k).2.2.1 = some (tyJxbd725 k) := by decide +kernel
def RJ15 : String := "java/util/Objects"
def TJ15 : u_T := fun k => match k with
  | _ => ("", "", "", false)
def tyJ15 : Nat → FieldType := fun k => match k with
  | _ => .int
abbrev wsJ150 : List Cond := u_ws RJ15 TJ15 0
theorem nmJ15 : ∀ a, a < 0 → ∀ b, b < 0 → a ≠ b → (TJ15 a).2.1 ≠ (TJ15 b).2.1 := by decide +kernel
theorem tyJ15_ok : ∀ k, k < 0 → parseFieldDescriptor (TJ15 k).2.2.1 = some (tyJ15 k) := by decide +kernel
abbrev cJ15_checkIndex_7cf53 : ByteArray := prog_26_method_17_code
def yJ15_checkIndex_7cf53 : MethodName := ⟨RJ15, "checkIndex", "(II)I"⟩
def RJxf0a74 : String := "java/util/RandomAccess"
def TJxf0a74 : u_T := fun k => match k with
  | _ => ("", "", "", false)
def tyJxf0a74 : Nat → FieldType := fun k => match k with
  | _ => .int
abbrev wsJxf0a740 : List Cond := u_ws RJxf0a74 TJxf0a74 0
theorem nmJxf0a74 : ∀ a, a < 0 → ∀ b, b < 0 → a ≠ b → (TJxf0a74 a).2.1 ≠ (TJxf0a74 b).2.1 := by decide +kernel
theorem tyJxf0a74_ok : ∀ k, k < 0 → parseFieldDescriptor (TJxf0a74 k).2.2.1 = some (tyJxf0a74 k) := by decide +kernel
def RJxa66e6 : String := "java/util/SequencedCollection"
def TJxa66e6 : u_T := fun k => match k with
  | _ => ("", "", "", false)
def tyJxa66e6 : Nat → FieldType := fun k => match k with
  | _ => .int
abbrev wsJxa66e60 : List Cond := u_ws RJxa66e6 TJxa66e6 0
theorem nmJxa66e6 : ∀ a, a < 0 → ∀ b, b < 0 → a ≠ b → (TJxa66e6 a).2.1 ≠ (TJxa66e6 b).2.1 := by decide +kernel
theorem tyJxa66e6_ok : ∀ k, k < 0 → parseFieldDescriptor (TJxa66e6 k).2.2.1 = some (tyJxa66e6 k) := by decide +kernel
def RJ8 : String := "jdk/internal/util/ArraysSupport"
def TJ8 : u_T := fun k => match k with
  | _ => ("", "", "", false)
def tyJ8 : Nat → FieldType := fun k => match k with
  | _ => .int
abbrev wsJ80 : List Cond := u_ws RJ8 TJ8 0
theorem nmJ8 : ∀ a, a < 0 → ∀ b, b < 0 → a ≠ b → (TJ8 a).2.1 ≠ (TJ8 b).2.1 := by decide +kernel
theorem tyJ8_ok : ∀ k, k < 0 → parseFieldDescriptor (TJ8 k).2.2.1 = some (tyJ8 k) := by decide +kernel
abbrev cJ8_newLength_cabcc : ByteArray := prog_29_method_27_code
def yJ8_newLength_cabcc : MethodName := ⟨RJ8, "newLength", "(III)I"⟩
abbrev cJ8_hugeLength_7cf53 : ByteArray := prog_29_method_28_code
def yJ8_hugeLength_7cf53 : MethodName := ⟨RJ8, "hugeLength", "(II)I"⟩
def RJ3 : String := "jdk/internal/util/Preconditions"
def TJ3 : u_T := fun k => match k with
  | _ => ("", "", "", false)
def tyJ3 : Nat → FieldType := fun k => match k with
  | _ => .int
abbrev wsJ30 : List Cond := u_ws RJ3 TJ3 0
theorem nmJ3 : ∀ a, a < 0 → ∀ b, b < 0 → a ≠ b → (TJ3 a).2.1 ≠ (TJ3 b).2.1 := by decide +kernel
theorem tyJ3_ok : ∀ k, k < 0 → parseFieldDescriptor (TJ3 k).2.2.1 = some (tyJ3 k) := by decide +kernel
abbrev cJ3_checkIndex_8e157 : ByteArray := prog_30_method_11_code
def yJ3_checkIndex_8e157 : MethodName := ⟨RJ3, "checkIndex", "(IILjava/util/function/BiFunction;)I"⟩
def RL : String := "TaxiRankLaw"
abbrev cL_below : ByteArray := method_2_code
def yL_below : MethodName := ⟨RL, "below", "(II)I"⟩
abbrev cL_cell : ByteArray := method_3_code
def yL_cell : MethodName := ⟨RL, "cell", "([II)I"⟩
abbrev cL_act : ByteArray := method_4_code
def yL_act : MethodName := ⟨RL, "act", "(LTaxiRank;LTaxiRankLaw$Rank;I)Z"⟩
abbrev cL_law : ByteArray := code
def yL_law : MethodName := ⟨RL, "law", "([I)Z"⟩
def wsX0_init : List Cond := .code yX0_init cX0_init 4 none :: ([.methodLink RX0 3 objectInit, .instanceMethod objectInit, .code objectInit ⟨#[0xb1]⟩ 1 none, .fieldLink RX0 9 "TaxiRank$Cab" "state" "I", .fieldLink RX0 15 "TaxiRank$Cab" "number" "I", .fieldLink RX0 18 "TaxiRank$Cab" "seats" "I", .fieldLink RX0 21 "TaxiRank$Cab" "zone" "I"] ++ wsX00)
def wsX1_init : List Cond := .code yX1_init cX1_init 6 none :: ([.methodLink RX1 3 objectInit, .instanceMethod objectInit, .code objectInit ⟨#[0xb1]⟩ 1 none, .fieldLink RX1 9 "TaxiRank$Order" "state" "I", .fieldLink RX1 15 "TaxiRank$Order" "begunAt" "I", .fieldLink RX1 18 "TaxiRank$Order" "doneAt" "I", .fieldLink RX1 21 "TaxiRank$Order" "number" "I", .fieldLink RX1 24 "TaxiRank$Order" "from" "I", .fieldLink RX1 27 "TaxiRank$Order" "to" "I", .fieldLink RX1 30 "TaxiRank$Order" "passengers" "I", .fieldLink RX1 33 "TaxiRank$Order" "due" "I"] ++ wsX10)
def wsJxa1e45_init_da8c8 : List Cond := .code yJxa1e45_init_da8c8 cJxa1e45_init_da8c8 1 none :: ([.methodLink RJxa1e45 1 objectInit, .instanceMethod objectInit, .code objectInit ⟨#[0xb1]⟩ 1 none])
def wsJxc12de_init_da8c8 : List Cond := .code yJxc12de_init_da8c8 cJxc12de_init_da8c8 1 none :: ([.fieldLink RJxc12de 7 "java/util/AbstractList" "modCount" "I", .methodLink RJxc12de 1 yJxa1e45_init_da8c8, .instanceMethod yJxa1e45_init_da8c8, .initialized RJxa1e45, .code yJxa1e45_init_da8c8 cJxa1e45_init_da8c8 1 none, .methodLink RJxa1e45 1 objectInit, .instanceMethod objectInit, .code objectInit ⟨#[0xb1]⟩ 1 none] ++ wsJx4a65c0)
def wsJx4a65c_init_da8c8 : List Cond := .code yJx4a65c_init_da8c8 cJx4a65c_init_da8c8 1 none :: ([.fieldLink RJx4a65c 39 "java/util/ArrayList" "DEFAULTCAPACITY_EMPTY_ELEMENTDATA" "[Ljava/lang/Object;", .fieldLink RJx4a65c 9 "java/util/ArrayList" "elementData" "[Ljava/lang/Object;", .methodLink RJx4a65c 1 yJxc12de_init_da8c8, .instanceMethod yJxc12de_init_da8c8, .initialized RJxc12de, .code yJxc12de_init_da8c8 cJxc12de_init_da8c8 1 none, .fieldLink RJxc12de 7 "java/util/AbstractList" "modCount" "I", .methodLink RJxc12de 1 yJxa1e45_init_da8c8, .instanceMethod yJxa1e45_init_da8c8, .initialized RJxa1e45, .code yJxa1e45_init_da8c8 cJxa1e45_init_da8c8 1 none, .methodLink RJxa1e45 1 objectInit, .instanceMethod objectInit, .code objectInit ⟨#[0xb1]⟩ 1 none] ++ wsJx4a65c0)
def wsX2_init_r1 : List Cond := [Cond.methodLink RX2 1 objectInit, Cond.instanceMethod objectInit, Cond.code objectInit ⟨#[0xb1]⟩ 1 none, Cond.arrayClass .int, Cond.fieldLink RX2 9 "TaxiRank" "ways" "[I", Cond.classLink RX2 13 RJx4a65c, Cond.instantiable RJx4a65c 3, Cond.initialized RJx4a65c, Cond.fieldLink RX2 16 "TaxiRank" "cabs" "Ljava/util/ArrayList;", Cond.fieldLink RX2 20 "TaxiRank" "orders" "Ljava/util/ArrayList;", Cond.fieldLink RX2 23 "TaxiRank" "baseRate" "I", Cond.fieldLink RX2 27 "TaxiRank" "wayRate" "I", Cond.methodLink RX2 15 yJx4a65c_init_da8c8, Cond.instanceMethod yJx4a65c_init_da8c8, Cond.code yJx4a65c_init_da8c8 cJx4a65c_init_da8c8 1 none, Cond.fieldLink RJx4a65c 39 "java/util/ArrayList" "DEFAULTCAPACITY_EMPTY_ELEMENTDATA" "[Ljava/lang/Object;", Cond.fieldLink RJx4a65c 9 "java/util/ArrayList" "elementData" "[Ljava/lang/Object;", Cond.methodLink RJx4a65c 1 yJxc12de_init_da8c8, Cond.instanceMethod yJxc12de_init_da8c8, Cond.initialized RJxc12de, Cond.code yJxc12de_init_da8c8 cJxc12de_init_da8c8 1 none, Cond.fieldLink RJxc12de 7 "java/util/AbstractList" "modCount" "I", Cond.methodLink RJxc12de 1 yJxa1e45_init_da8c8, Cond.instanceMethod yJxa1e45_init_da8c8]
def wsX2_init_r2 : List Cond := [Cond.initialized RJxa1e45, Cond.code yJxa1e45_init_da8c8 cJxa1e45_init_da8c8 1 none, Cond.methodLink RJxa1e45 1 objectInit]
def wsX2_init : List Cond := .code yX2_init cX2_init 2 none :: ((wsX2_init_r1 ++ wsX2_init_r2) ++ wsX20 ++ wsJx4a65c0)
def wsX2_isZone : List Cond := .code yX2_isZone cX2_isZone 1 (some .boolean) :: ([])
def wsX2_requireZone : List Cond := .code yX2_requireZone cX2_requireZone 1 none :: ([.classLink RX2 108 "java/lang/IndexOutOfBoundsException", .initialized "java/lang/IndexOutOfBoundsException", .methodLink RX2 53 yX2_isZone, .static yX2_isZone, .initialized RX2, .code yX2_isZone cX2_isZone 1 (some .boolean)] ++ (vx_atS RX2 112 "java/lang/IndexOutOfBoundsException" ["java/lang/RuntimeException", "java/lang/Exception"]).filter goodWord)
def wsX2_wayBetween : List Cond := .code yX2_wayBetween cX2_wayBetween 4 (some .int) :: ([.fieldLink RX2 9 "TaxiRank" "ways" "[I"] ++ wsX20)
def wsX2_putWay : List Cond := .code yX2_putWay cX2_putWay 5 none :: ([.fieldLink RX2 9 "TaxiRank" "ways" "[I"] ++ wsX20)
def wsX2_setWay : List Cond := .code yX2_setWay cX2_setWay 5 (some .int) :: ([.classLink RX2 34 "java/lang/IllegalArgumentException", .initialized "java/lang/IllegalArgumentException", .methodLink RX2 30 yX2_requireZone, .static yX2_requireZone, .initialized RX2, .code yX2_requireZone cX2_requireZone 1 none, .classLink RX2 108 "java/lang/IndexOutOfBoundsException", .initialized "java/lang/IndexOutOfBoundsException", .methodLink RX2 53 yX2_isZone, .static yX2_isZone, .code yX2_isZone cX2_isZone 1 (some .boolean), .methodLink RX2 43 yX2_wayBetween, .instanceMethod yX2_wayBetween, .selects RX2 yX2_wayBetween yX2_wayBetween, .code yX2_wayBetween cX2_wayBetween 4 (some .int), .fieldLink RX2 9 "TaxiRank" "ways" "[I", .methodLink RX2 47 yX2_putWay, .instanceMethod yX2_putWay, .selects RX2 yX2_putWay yX2_putWay, .code yX2_putWay cX2_putWay 5 none] ++ wsX20 ++ (vx_atS RX2 38 "java/lang/IllegalArgumentException" ["java/lang/RuntimeException", "java/lang/Exception"]).filter goodWord ++ (vx_atS RX2 112 "java/lang/IndexOutOfBoundsException" ["java/lang/RuntimeException", "java/lang/Exception"]).filter goodWord)
def wsJx4a65c_size_8abf5 : List Cond := .code yJx4a65c_size_8abf5 cJx4a65c_size_8abf5 1 (some .int) :: ([.fieldLink RJx4a65c 48 "java/util/ArrayList" "size" "I"] ++ wsJx4a65c0)
def wsJ8_hugeLength_7cf53 : List Cond := .code yJ8_hugeLength_7cf53 cJ8_hugeLength_7cf53 3 (some .int) :: ([.constant RJ8 200 (2147483639)])
def wsJ8_newLength_cabcc : List Cond := .code yJ8_newLength_cabcc cJ8_newLength_cabcc 4 (some .int) :: ([.methodLink RJ8 194 Lib.Math.max.name, .static Lib.Math.max.name, .initialized "java/lang/Math", .code Lib.Math.max.name Lib.Math.max.code 2 (some .int), .constant RJ8 200 (2147483639), .methodLink RJ8 201 yJ8_hugeLength_7cf53, .static yJ8_hugeLength_7cf53, .initialized RJ8, .code yJ8_hugeLength_7cf53 cJ8_hugeLength_7cf53 3 (some .int)])
def wsJ7_copyOf_6403c : List Cond := .code yJ7_copyOf_6403c cJ7_copyOf_6403c 4 (some (.array (.object "java/lang/Object"))) :: ([.classLink RJ7 110 "[Ljava/lang/Object;", .classLink RJ7 2 "java/lang/Object", .methodLink RJ7 304 Lib.Math.min.name, .static Lib.Math.min.name, .initialized "java/lang/Math", .code Lib.Math.min.name Lib.Math.min.code 2 (some .int), .methodLink RJ7 150 arraycopyName, .native arraycopyName, .static arraycopyName, .initialized "java/lang/System"])
def wsJ7_copyOf_1904c : List Cond := .code yJ7_copyOf_1904c cJ7_copyOf_1904c 2 (some (.array (.object "java/lang/Object"))) :: ([.methodLink RJ7 86 ⟨"java/lang/Object", "getClass", "()Ljava/lang/Class;"⟩, .selects "[Ljava/lang/Object;" ⟨"java/lang/Object", "getClass", "()Ljava/lang/Class;"⟩ ⟨"java/lang/Object", "getClass", "()Ljava/lang/Class;"⟩, .instanceMethod ⟨"java/lang/Object", "getClass", "()Ljava/lang/Class;"⟩, .native ⟨"java/lang/Object", "getClass", "()Ljava/lang/Class;"⟩, .methodLink RJ7 300 yJ7_copyOf_6403c, .static yJ7_copyOf_6403c, .initialized RJ7, .code yJ7_copyOf_6403c cJ7_copyOf_6403c 4 (some (.array (.object "java/lang/Object"))), .classLink RJ7 110 "[Ljava/lang/Object;", .classLink RJ7 2 "java/lang/Object", .methodLink RJ7 304 Lib.Math.min.name, .static Lib.Math.min.name, .initialized "java/lang/Math", .code Lib.Math.min.name Lib.Math.min.code 2 (some .int), .methodLink RJ7 150 arraycopyName, .native arraycopyName, .static arraycopyName, .initialized "java/lang/System"])
def wsJx4a65c_grow_92f84_r1 : List Cond := [Cond.fieldLink RJx4a65c 9 "java/util/ArrayList" "elementData" "[Ljava/lang/Object;", Cond.fieldLink RJx4a65c 39 "java/util/ArrayList" "DEFAULTCAPACITY_EMPTY_ELEMENTDATA" "[Ljava/lang/Object;", Cond.methodLink RJx4a65c 79 Lib.Math.max.name, Cond.static Lib.Math.max.name, Cond.initialized "java/lang/Math", Cond.code Lib.Math.max.name Lib.Math.max.code 2 (some .int), Cond.classLink RJx4a65c 7 "java/lang/Object", Cond.methodLink RJx4a65c 73 yJ8_newLength_cabcc, Cond.static yJ8_newLength_cabcc, Cond.initialized RJ8, Cond.code yJ8_newLength_cabcc cJ8_newLength_cabcc 4 (some .int), Cond.methodLink RJ8 194 Lib.Math.max.name, Cond.constant RJ8 200 (2147483639), Cond.methodLink RJ8 201 yJ8_hugeLength_7cf53, Cond.static yJ8_hugeLength_7cf53, Cond.code yJ8_hugeLength_7cf53 cJ8_hugeLength_7cf53 3 (some .int), Cond.methodLink RJx4a65c 66 yJ7_copyOf_1904c, Cond.static yJ7_copyOf_1904c, Cond.initialized RJ7, Cond.code yJ7_copyOf_1904c cJ7_copyOf_1904c 2 (some (.array (.object "java/lang/Object"))), Cond.methodLink RJ7 86 ⟨"java/lang/Object", "getClass", "()Ljava/lang/Class;"⟩, Cond.selects "[Ljava/lang/Object;" ⟨"java/lang/Object", "getClass", "()Ljava/lang/Class;"⟩ ⟨"java/lang/Object", "getClass", "()Ljava/lang/Class;"⟩, Cond.instanceMethod ⟨"java/lang/Object", "getClass", "()Ljava/lang/Class;"⟩, Cond.native ⟨"java/lang/Object", "getClass", "()Ljava/lang/Class;"⟩]
def wsJx4a65c_grow_92f84_r2 : List Cond := [Cond.methodLink RJ7 300 yJ7_copyOf_6403c, Cond.static yJ7_copyOf_6403c, Cond.code yJ7_copyOf_6403c cJ7_copyOf_6403c 4 (some (.array (.object "java/lang/Object"))), Cond.classLink RJ7 110 "[Ljava/lang/Object;", Cond.classLink RJ7 2 "java/lang/Object", Cond.methodLink RJ7 304 Lib.Math.min.name, Cond.static Lib.Math.min.name, Cond.code Lib.Math.min.name Lib.Math.min.code 2 (some .int), Cond.methodLink RJ7 150 arraycopyName, Cond.native arraycopyName, Cond.static arraycopyName, Cond.initialized "java/lang/System"]
def wsJx4a65c_grow_92f84 : List Cond := .code yJx4a65c_grow_92f84 cJx4a65c_grow_92f84 4 (some (.array (.object "java/lang/Object"))) :: ((wsJx4a65c_grow_92f84_r1 ++ wsJx4a65c_grow_92f84_r2) ++ wsJx4a65c0)
def wsJx4a65c_grow_d5877_r1 : List Cond := [Cond.fieldLink RJx4a65c 48 "java/util/ArrayList" "size" "I", Cond.methodLink RJx4a65c 69 yJx4a65c_grow_92f84, Cond.instanceMethod yJx4a65c_grow_92f84, Cond.selects RJx4a65c yJx4a65c_grow_92f84 yJx4a65c_grow_92f84, Cond.initialized RJx4a65c, Cond.code yJx4a65c_grow_92f84 cJx4a65c_grow_92f84 4 (some (.array (.object "java/lang/Object"))), Cond.fieldLink RJx4a65c 9 "java/util/ArrayList" "elementData" "[Ljava/lang/Object;", Cond.fieldLink RJx4a65c 39 "java/util/ArrayList" "DEFAULTCAPACITY_EMPTY_ELEMENTDATA" "[Ljava/lang/Object;", Cond.methodLink RJx4a65c 79 Lib.Math.max.name, Cond.static Lib.Math.max.name, Cond.initialized "java/lang/Math", Cond.code Lib.Math.max.name Lib.Math.max.code 2 (some .int), Cond.classLink RJx4a65c 7 "java/lang/Object", Cond.methodLink RJx4a65c 73 yJ8_newLength_cabcc, Cond.static yJ8_newLength_cabcc, Cond.initialized RJ8, Cond.code yJ8_newLength_cabcc cJ8_newLength_cabcc 4 (some .int), Cond.methodLink RJ8 194 Lib.Math.max.name, Cond.constant RJ8 200 (2147483639), Cond.methodLink RJ8 201 yJ8_hugeLength_7cf53, Cond.static yJ8_hugeLength_7cf53, Cond.code yJ8_hugeLength_7cf53 cJ8_hugeLength_7cf53 3 (some .int), Cond.methodLink RJx4a65c 66 yJ7_copyOf_1904c, Cond.static yJ7_copyOf_1904c]
def wsJx4a65c_grow_d5877_r2 : List Cond := [Cond.initialized RJ7, Cond.code yJ7_copyOf_1904c cJ7_copyOf_1904c 2 (some (.array (.object "java/lang/Object"))), Cond.methodLink RJ7 86 ⟨"java/lang/Object", "getClass", "()Ljava/lang/Class;"⟩, Cond.selects "[Ljava/lang/Object;" ⟨"java/lang/Object", "getClass", "()Ljava/lang/Class;"⟩ ⟨"java/lang/Object", "getClass", "()Ljava/lang/Class;"⟩, Cond.instanceMethod ⟨"java/lang/Object", "getClass", "()Ljava/lang/Class;"⟩, Cond.native ⟨"java/lang/Object", "getClass", "()Ljava/lang/Class;"⟩, Cond.methodLink RJ7 300 yJ7_copyOf_6403c, Cond.static yJ7_copyOf_6403c, Cond.code yJ7_copyOf_6403c cJ7_copyOf_6403c 4 (some (.array (.object "java/lang/Object"))), Cond.classLink RJ7 110 "[Ljava/lang/Object;", Cond.classLink RJ7 2 "java/lang/Object", Cond.methodLink RJ7 304 Lib.Math.min.name, Cond.static Lib.Math.min.name, Cond.code Lib.Math.min.name Lib.Math.min.code 2 (some .int), Cond.methodLink RJ7 150 arraycopyName, Cond.native arraycopyName, Cond.static arraycopyName, Cond.initialized "java/lang/System"]
def wsJx4a65c_grow_d5877 : List Cond := .code yJx4a65c_grow_d5877 cJx4a65c_grow_d5877 1 (some (.array (.object "java/lang/Object"))) :: ((wsJx4a65c_grow_d5877_r1 ++ wsJx4a65c_grow_d5877_r2) ++ wsJx4a65c0)
def wsJx4a65c_add_72be8_r1 : List Cond := [Cond.fieldLink RJx4a65c 48 "java/util/ArrayList" "size" "I", Cond.methodLink RJx4a65c 129 yJx4a65c_grow_d5877, Cond.instanceMethod yJx4a65c_grow_d5877, Cond.selects RJx4a65c yJx4a65c_grow_d5877 yJx4a65c_grow_d5877, Cond.initialized RJx4a65c, Cond.code yJx4a65c_grow_d5877 cJx4a65c_grow_d5877 1 (some (.array (.object "java/lang/Object"))), Cond.methodLink RJx4a65c 69 yJx4a65c_grow_92f84, Cond.instanceMethod yJx4a65c_grow_92f84, Cond.selects RJx4a65c yJx4a65c_grow_92f84 yJx4a65c_grow_92f84, Cond.code yJx4a65c_grow_92f84 cJx4a65c_grow_92f84 4 (some (.array (.object "java/lang/Object"))), Cond.fieldLink RJx4a65c 9 "java/util/ArrayList" "elementData" "[Ljava/lang/Object;", Cond.fieldLink RJx4a65c 39 "java/util/ArrayList" "DEFAULTCAPACITY_EMPTY_ELEMENTDATA" "[Ljava/lang/Object;", Cond.methodLink RJx4a65c 79 Lib.Math.max.name, Cond.static Lib.Math.max.name, Cond.initialized "java/lang/Math", Cond.code Lib.Math.max.name Lib.Math.max.code 2 (some .int), Cond.classLink RJx4a65c 7 "java/lang/Object", Cond.methodLink RJx4a65c 73 yJ8_newLength_cabcc, Cond.static yJ8_newLength_cabcc, Cond.initialized RJ8, Cond.code yJ8_newLength_cabcc cJ8_newLength_cabcc 4 (some .int), Cond.methodLink RJ8 194 Lib.Math.max.name, Cond.constant RJ8 200 (2147483639), Cond.methodLink RJ8 201 yJ8_hugeLength_7cf53]
def wsJx4a65c_add_72be8_r2 : List Cond := [Cond.static yJ8_hugeLength_7cf53, Cond.code yJ8_hugeLength_7cf53 cJ8_hugeLength_7cf53 3 (some .int), Cond.methodLink RJx4a65c 66 yJ7_copyOf_1904c, Cond.static yJ7_copyOf_1904c, Cond.initialized RJ7, Cond.code yJ7_copyOf_1904c cJ7_copyOf_1904c 2 (some (.array (.object "java/lang/Object"))), Cond.methodLink RJ7 86 ⟨"java/lang/Object", "getClass", "()Ljava/lang/Class;"⟩, Cond.selects "[Ljava/lang/Object;" ⟨"java/lang/Object", "getClass", "()Ljava/lang/Class;"⟩ ⟨"java/lang/Object", "getClass", "()Ljava/lang/Class;"⟩, Cond.instanceMethod ⟨"java/lang/Object", "getClass", "()Ljava/lang/Class;"⟩, Cond.native ⟨"java/lang/Object", "getClass", "()Ljava/lang/Class;"⟩, Cond.methodLink RJ7 300 yJ7_copyOf_6403c, Cond.static yJ7_copyOf_6403c, Cond.code yJ7_copyOf_6403c cJ7_copyOf_6403c 4 (some (.array (.object "java/lang/Object"))), Cond.classLink RJ7 110 "[Ljava/lang/Object;", Cond.classLink RJ7 2 "java/lang/Object", Cond.methodLink RJ7 304 Lib.Math.min.name, Cond.static Lib.Math.min.name, Cond.code Lib.Math.min.name Lib.Math.min.code 2 (some .int), Cond.methodLink RJ7 150 arraycopyName, Cond.native arraycopyName, Cond.static arraycopyName, Cond.initialized "java/lang/System"]
def wsJx4a65c_add_72be8 : List Cond := .code yJx4a65c_add_72be8 cJx4a65c_add_72be8 4 none :: ((wsJx4a65c_add_72be8_r1 ++ wsJx4a65c_add_72be8_r2) ++ wsJx4a65c0)
def wsJx4a65c_add_9ea2d_r1 : List Cond := [Cond.fieldLink RJx4a65c 63 "java/util/ArrayList" "modCount" "I", Cond.sameField "java/util/ArrayList" "java/util/AbstractList" "modCount" "I", Cond.fieldLink RJx4a65c 9 "java/util/ArrayList" "elementData" "[Ljava/lang/Object;", Cond.fieldLink RJx4a65c 48 "java/util/ArrayList" "size" "I", Cond.methodLink RJx4a65c 131 yJx4a65c_add_72be8, Cond.instanceMethod yJx4a65c_add_72be8, Cond.selects RJx4a65c yJx4a65c_add_72be8 yJx4a65c_add_72be8, Cond.initialized RJx4a65c, Cond.code yJx4a65c_add_72be8 cJx4a65c_add_72be8 4 none, Cond.methodLink RJx4a65c 129 yJx4a65c_grow_d5877, Cond.instanceMethod yJx4a65c_grow_d5877, Cond.selects RJx4a65c yJx4a65c_grow_d5877 yJx4a65c_grow_d5877, Cond.code yJx4a65c_grow_d5877 cJx4a65c_grow_d5877 1 (some (.array (.object "java/lang/Object"))), Cond.methodLink RJx4a65c 69 yJx4a65c_grow_92f84, Cond.instanceMethod yJx4a65c_grow_92f84, Cond.selects RJx4a65c yJx4a65c_grow_92f84 yJx4a65c_grow_92f84, Cond.code yJx4a65c_grow_92f84 cJx4a65c_grow_92f84 4 (some (.array (.object "java/lang/Object"))), Cond.fieldLink RJx4a65c 39 "java/util/ArrayList" "DEFAULTCAPACITY_EMPTY_ELEMENTDATA" "[Ljava/lang/Object;", Cond.methodLink RJx4a65c 79 Lib.Math.max.name, Cond.static Lib.Math.max.name, Cond.initialized "java/lang/Math", Cond.code Lib.Math.max.name Lib.Math.max.code 2 (some .int), Cond.classLink RJx4a65c 7 "java/lang/Object", Cond.methodLink RJx4a65c 73 yJ8_newLength_cabcc]
def wsJx4a65c_add_9ea2d_r2 : List Cond := [Cond.static yJ8_newLength_cabcc, Cond.initialized RJ8, Cond.code yJ8_newLength_cabcc cJ8_newLength_cabcc 4 (some .int), Cond.methodLink RJ8 194 Lib.Math.max.name, Cond.constant RJ8 200 (2147483639), Cond.methodLink RJ8 201 yJ8_hugeLength_7cf53, Cond.static yJ8_hugeLength_7cf53, Cond.code yJ8_hugeLength_7cf53 cJ8_hugeLength_7cf53 3 (some .int), Cond.methodLink RJx4a65c 66 yJ7_copyOf_1904c, Cond.static yJ7_copyOf_1904c, Cond.initialized RJ7, Cond.code yJ7_copyOf_1904c cJ7_copyOf_1904c 2 (some (.array (.object "java/lang/Object"))), Cond.methodLink RJ7 86 ⟨"java/lang/Object", "getClass", "()Ljava/lang/Class;"⟩, Cond.selects "[Ljava/lang/Object;" ⟨"java/lang/Object", "getClass", "()Ljava/lang/Class;"⟩ ⟨"java/lang/Object", "getClass", "()Ljava/lang/Class;"⟩, Cond.instanceMethod ⟨"java/lang/Object", "getClass", "()Ljava/lang/Class;"⟩, Cond.native ⟨"java/lang/Object", "getClass", "()Ljava/lang/Class;"⟩, Cond.methodLink RJ7 300 yJ7_copyOf_6403c, Cond.static yJ7_copyOf_6403c, Cond.code yJ7_copyOf_6403c cJ7_copyOf_6403c 4 (some (.array (.object "java/lang/Object"))), Cond.classLink RJ7 110 "[Ljava/lang/Object;", Cond.classLink RJ7 2 "java/lang/Object", Cond.methodLink RJ7 304 Lib.Math.min.name, Cond.static Lib.Math.min.name, Cond.code Lib.Math.min.name Lib.Math.min.code 2 (some .int)]
def wsJx4a65c_add_9ea2d_r3 : List Cond := [Cond.methodLink RJ7 150 arraycopyName, Cond.native arraycopyName, Cond.static arraycopyName, Cond.initialized "java/lang/System"]
def wsJx4a65c_add_9ea2d : List Cond := .code yJx4a65c_add_9ea2d cJx4a65c_add_9ea2d 2 (some .boolean) :: ((wsJx4a65c_add_9ea2d_r1 ++ (wsJx4a65c_add_9ea2d_r2 ++ wsJx4a65c_add_9ea2d_r3)) ++ wsJx4a65c0)
def wsX2_addCab_r1 : List Cond := [Cond.classLink RX2 34 "java/lang/IllegalArgumentException", Cond.initialized "java/lang/IllegalArgumentException", Cond.classLink RX2 63 "java/lang/IllegalStateException", Cond.initialized "java/lang/IllegalStateException", Cond.fieldLink RX2 16 "TaxiRank" "cabs" "Ljava/util/ArrayList;", Cond.classLink RX2 68 RX0, Cond.instantiable RX0 9, Cond.initialized RX0, Cond.methodLink RX2 53 yX2_isZone, Cond.static yX2_isZone, Cond.initialized RX2, Cond.code yX2_isZone cX2_isZone 1 (some .boolean), Cond.methodLink RX2 59 yJx4a65c_size_8abf5, Cond.instanceMethod yJx4a65c_size_8abf5, Cond.selects RJx4a65c yJx4a65c_size_8abf5 yJx4a65c_size_8abf5, Cond.initialized RJx4a65c, Cond.code yJx4a65c_size_8abf5 cJx4a65c_size_8abf5 1 (some .int), Cond.fieldLink RJx4a65c 48 "java/util/ArrayList" "size" "I", Cond.methodLink RX2 70 yX0_init, Cond.instanceMethod yX0_init, Cond.code yX0_init cX0_init 4 none, Cond.methodLink RX0 3 objectInit, Cond.instanceMethod objectInit, Cond.code objectInit ⟨#[0xb1]⟩ 1 none]
def wsX2_addCab_r2 : List Cond := [Cond.fieldLink RX0 9 "TaxiRank$Cab" "state" "I", Cond.fieldLink RX0 15 "TaxiRank$Cab" "number" "I", Cond.fieldLink RX0 18 "TaxiRank$Cab" "seats" "I", Cond.fieldLink RX0 21 "TaxiRank$Cab" "zone" "I", Cond.methodLink RX2 72 yJx4a65c_add_9ea2d, Cond.instanceMethod yJx4a65c_add_9ea2d, Cond.selects RJx4a65c yJx4a65c_add_9ea2d yJx4a65c_add_9ea2d, Cond.code yJx4a65c_add_9ea2d cJx4a65c_add_9ea2d 2 (some .boolean), Cond.fieldLink RJx4a65c 63 "java/util/ArrayList" "modCount" "I", Cond.sameField "java/util/ArrayList" "java/util/AbstractList" "modCount" "I", Cond.fieldLink RJx4a65c 9 "java/util/ArrayList" "elementData" "[Ljava/lang/Object;", Cond.methodLink RJx4a65c 131 yJx4a65c_add_72be8, Cond.instanceMethod yJx4a65c_add_72be8, Cond.selects RJx4a65c yJx4a65c_add_72be8 yJx4a65c_add_72be8, Cond.code yJx4a65c_add_72be8 cJx4a65c_add_72be8 4 none, Cond.methodLink RJx4a65c 129 yJx4a65c_grow_d5877, Cond.instanceMethod yJx4a65c_grow_d5877, Cond.selects RJx4a65c yJx4a65c_grow_d5877 yJx4a65c_grow_d5877, Cond.code yJx4a65c_grow_d5877 cJx4a65c_grow_d5877 1 (some (.array (.object "java/lang/Object"))), Cond.methodLink RJx4a65c 69 yJx4a65c_grow_92f84, Cond.instanceMethod yJx4a65c_grow_92f84, Cond.selects RJx4a65c yJx4a65c_grow_92f84 yJx4a65c_grow_92f84, Cond.code yJx4a65c_grow_92f84 cJx4a65c_grow_92f84 4 (some (.array (.object "java/lang/Object"))), Cond.fieldLink RJx4a65c 39 "java/util/ArrayList" "DEFAULTCAPACITY_EMPTY_ELEMENTDATA" "[Ljava/lang/Object;"]
def wsX2_addCab_r3 : List Cond := [Cond.methodLink RJx4a65c 79 Lib.Math.max.name, Cond.static Lib.Math.max.name, Cond.initialized "java/lang/Math", Cond.code Lib.Math.max.name Lib.Math.max.code 2 (some .int), Cond.classLink RJx4a65c 7 "java/lang/Object", Cond.methodLink RJx4a65c 73 yJ8_newLength_cabcc, Cond.static yJ8_newLength_cabcc, Cond.initialized RJ8, Cond.code yJ8_newLength_cabcc cJ8_newLength_cabcc 4 (some .int), Cond.methodLink RJ8 194 Lib.Math.max.name, Cond.constant RJ8 200 (2147483639), Cond.methodLink RJ8 201 yJ8_hugeLength_7cf53, Cond.static yJ8_hugeLength_7cf53, Cond.code yJ8_hugeLength_7cf53 cJ8_hugeLength_7cf53 3 (some .int), Cond.methodLink RJx4a65c 66 yJ7_copyOf_1904c, Cond.static yJ7_copyOf_1904c, Cond.initialized RJ7, Cond.code yJ7_copyOf_1904c cJ7_copyOf_1904c 2 (some (.array (.object "java/lang/Object"))), Cond.methodLink RJ7 86 ⟨"java/lang/Object", "getClass", "()Ljava/lang/Class;"⟩, Cond.selects "[Ljava/lang/Object;" ⟨"java/lang/Object", "getClass", "()Ljava/lang/Class;"⟩ ⟨"java/lang/Object", "getClass", "()Ljava/lang/Class;"⟩, Cond.instanceMethod ⟨"java/lang/Object", "getClass", "()Ljava/lang/Class;"⟩, Cond.native ⟨"java/lang/Object", "getClass", "()Ljava/lang/Class;"⟩, Cond.methodLink RJ7 300 yJ7_copyOf_6403c, Cond.static yJ7_copyOf_6403c]
def wsX2_addCab_r4 : List Cond := [Cond.code yJ7_copyOf_6403c cJ7_copyOf_6403c 4 (some (.array (.object "java/lang/Object"))), Cond.classLink RJ7 110 "[Ljava/lang/Object;", Cond.classLink RJ7 2 "java/lang/Object", Cond.methodLink RJ7 304 Lib.Math.min.name, Cond.static Lib.Math.min.name, Cond.code Lib.Math.min.name Lib.Math.min.code 2 (some .int), Cond.methodLink RJ7 150 arraycopyName, Cond.native arraycopyName, Cond.static arraycopyName, Cond.initialized "java/lang/System"]
def wsX2_addCab : List Cond := .code yX2_addCab cX2_addCab 4 (some .int) :: ((wsX2_addCab_r1 ++ (wsX2_addCab_r2 ++ (wsX2_addCab_r3 ++ wsX2_addCab_r4))) ++ wsX20 ++ wsX00 ++ wsJx4a65c0 ++ (vx_atS RX2 38 "java/lang/IllegalArgumentException" ["java/lang/RuntimeException", "java/lang/Exception"]).filter goodWord ++ (vx_atS RX2 67 "java/lang/IllegalStateException" ["java/lang/RuntimeException", "java/lang/Exception"]).filter goodWord)
def wsJ3_checkIndex_8e157 : List Cond := .code yJ3_checkIndex_8e157 cJ3_checkIndex_8e157 3 (some .int) :: ([])
def wsJ15_checkIndex_7cf53 : List Cond := .code yJ15_checkIndex_7cf53 cJ15_checkIndex_7cf53 2 (some .int) :: ([.methodLink RJ15 105 yJ3_checkIndex_8e157, .static yJ3_checkIndex_8e157, .initialized RJ3, .code yJ3_checkIndex_8e157 cJ3_checkIndex_8e157 3 (some .int)])
def wsJx4a65c_elementData_915e3 : List Cond := .code yJx4a65c_elementData_915e3 cJx4a65c_elementData_915e3 2 (some (.object "java/lang/Object")) :: ([.fieldLink RJx4a65c 9 "java/util/ArrayList" "elementData" "[Ljava/lang/Object;"] ++ wsJx4a65c0)
def wsJx4a65c_get_915e3 : List Cond := .code yJx4a65c_get_915e3 cJx4a65c_get_915e3 2 (some (.object "java/lang/Object")) :: ([.fieldLink RJx4a65c 48 "java/util/ArrayList" "size" "I", .methodLink RJx4a65c 118 yJ15_checkIndex_7cf53, .static yJ15_checkIndex_7cf53, .initialized RJ15, .code yJ15_checkIndex_7cf53 cJ15_checkIndex_7cf53 2 (some .int), .methodLink RJ15 105 yJ3_checkIndex_8e157, .static yJ3_checkIndex_8e157, .initialized RJ3, .code yJ3_checkIndex_8e157 cJ3_checkIndex_8e157 3 (some .int), .methodLink RJx4a65c 123 yJx4a65c_elementData_915e3, .instanceMethod yJx4a65c_elementData_915e3, .selects RJx4a65c yJx4a65c_elementData_915e3 yJx4a65c_elementData_915e3, .initialized RJx4a65c, .code yJx4a65c_elementData_915e3 cJx4a65c_elementData_915e3 2 (some (.object "java/lang/Object")), .fieldLink RJx4a65c 9 "java/util/ArrayList" "elementData" "[Ljava/lang/Object;"] ++ wsJx4a65c0)
def wsX2_cabNumbered_r1 : List Cond := [Cond.classLink RX2 108 "java/lang/IndexOutOfBoundsException", Cond.initialized "java/lang/IndexOutOfBoundsException", Cond.fieldLink RX2 16 "TaxiRank" "cabs" "Ljava/util/ArrayList;", Cond.classLink RX2 68 "TaxiRank$Cab", Cond.methodLink RX2 59 yJx4a65c_size_8abf5, Cond.instanceMethod yJx4a65c_size_8abf5, Cond.selects RJx4a65c yJx4a65c_size_8abf5 yJx4a65c_size_8abf5, Cond.initialized RJx4a65c, Cond.code yJx4a65c_size_8abf5 cJx4a65c_size_8abf5 1 (some .int), Cond.fieldLink RJx4a65c 48 "java/util/ArrayList" "size" "I", Cond.methodLink RX2 197 yJx4a65c_get_915e3, Cond.instanceMethod yJx4a65c_get_915e3, Cond.selects RJx4a65c yJx4a65c_get_915e3 yJx4a65c_get_915e3, Cond.code yJx4a65c_get_915e3 cJx4a65c_get_915e3 2 (some (.object "java/lang/Object")), Cond.methodLink RJx4a65c 118 yJ15_checkIndex_7cf53, Cond.static yJ15_checkIndex_7cf53, Cond.initialized RJ15, Cond.code yJ15_checkIndex_7cf53 cJ15_checkIndex_7cf53 2 (some .int), Cond.methodLink RJ15 105 yJ3_checkIndex_8e157, Cond.static yJ3_checkIndex_8e157, Cond.initialized RJ3, Cond.code yJ3_checkIndex_8e157 cJ3_checkIndex_8e157 3 (some .int), Cond.methodLink RJx4a65c 123 yJx4a65c_elementData_915e3, Cond.instanceMethod yJx4a65c_elementData_915e3]
def wsX2_cabNumbered_r2 : List Cond := [Cond.selects RJx4a65c yJx4a65c_elementData_915e3 yJx4a65c_elementData_915e3, Cond.code yJx4a65c_elementData_915e3 cJx4a65c_elementData_915e3 2 (some (.object "java/lang/Object")), Cond.fieldLink RJx4a65c 9 "java/util/ArrayList" "elementData" "[Ljava/lang/Object;"]
def wsX2_cabNumbered : List Cond := .code yX2_cabNumbered cX2_cabNumbered 2 (some (.object "TaxiRank$Cab")) :: ((wsX2_cabNumbered_r1 ++ wsX2_cabNumbered_r2) ++ wsX20 ++ wsJx4a65c0 ++ (vx_atS RX2 112 "java/lang/IndexOutOfBoundsException" ["java/lang/RuntimeException", "java/lang/Exception"]).filter goodWord)
def wsX2_joinQueue : List Cond := .code yX2_joinQueue cX2_joinQueue 2 none :: ([.fieldLink RX2 80 "TaxiRank$Cab" "state" "I", .fieldLink RX2 240 "TaxiRank" "turnsGiven" "I", .fieldLink RX2 243 "TaxiRank$Cab" "turn" "I"] ++ wsX00 ++ wsX20)
def wsX2_isLookedAt : List Cond := .code yX2_isLookedAt cX2_isLookedAt 2 (some .boolean) :: ([.fieldLink RX2 152 "TaxiRank$Order" "state" "I", .fieldLink RX2 120 "TaxiRank" "time" "I", .fieldLink RX2 141 "TaxiRank$Order" "due" "I"] ++ wsX10 ++ wsX20)
def wsX2_isIdle : List Cond := .code yX2_isIdle cX2_isIdle 1 (some .boolean) :: ([.fieldLink RX2 80 "TaxiRank$Cab" "state" "I", .fieldLink RX2 251 "TaxiRank$Cab" "order" "LTaxiRank$Order;"] ++ wsX00)
def wsX2_refuserBit : List Cond := .code yX2_refuserBit cX2_refuserBit 1 (some .int) :: ([.fieldLink RX2 250 "TaxiRank$Cab" "number" "I"] ++ wsX00)
def wsX2_canBeOffered : List Cond := .code yX2_canBeOffered cX2_canBeOffered 2 (some .boolean) :: ([.fieldLink RX2 208 "TaxiRank$Cab" "seats" "I", .fieldLink RX2 281 "TaxiRank$Order" "passengers" "I", .fieldLink RX2 284 "TaxiRank$Order" "refusers" "I", .methodLink RX2 204 yX2_isIdle, .static yX2_isIdle, .initialized RX2, .code yX2_isIdle cX2_isIdle 1 (some .boolean), .fieldLink RX2 80 "TaxiRank$Cab" "state" "I", .fieldLink RX2 251 "TaxiRank$Cab" "order" "LTaxiRank$Order;", .methodLink RX2 287 yX2_refuserBit, .static yX2_refuserBit, .code yX2_refuserBit cX2_refuserBit 1 (some .int), .fieldLink RX2 250 "TaxiRank$Cab" "number" "I"] ++ wsX00 ++ wsX10)
def wsX2_rankOfZone : List Cond := .code yX2_rankOfZone cX2_rankOfZone 3 (some .int) :: ([.methodLink RX2 43 yX2_wayBetween, .instanceMethod yX2_wayBetween, .selects RX2 yX2_wayBetween yX2_wayBetween, .initialized RX2, .code yX2_wayBetween cX2_wayBetween 4 (some .int), .fieldLink RX2 9 "TaxiRank" "ways" "[I"] ++ wsX20)
def wsX2_cabFor_r1 : List Cond := [Cond.fieldLink RX2 16 "TaxiRank" "cabs" "Ljava/util/ArrayList;", Cond.classLink RX2 68 "TaxiRank$Cab", Cond.fieldLink RX2 101 "TaxiRank$Cab" "zone" "I", Cond.fieldLink RX2 138 "TaxiRank$Order" "from" "I", Cond.fieldLink RX2 243 "TaxiRank$Cab" "turn" "I", Cond.methodLink RX2 59 yJx4a65c_size_8abf5, Cond.instanceMethod yJx4a65c_size_8abf5, Cond.selects RJx4a65c yJx4a65c_size_8abf5 yJx4a65c_size_8abf5, Cond.initialized RJx4a65c, Cond.code yJx4a65c_size_8abf5 cJx4a65c_size_8abf5 1 (some .int), Cond.fieldLink RJx4a65c 48 "java/util/ArrayList" "size" "I", Cond.methodLink RX2 197 yJx4a65c_get_915e3, Cond.instanceMethod yJx4a65c_get_915e3, Cond.selects RJx4a65c yJx4a65c_get_915e3 yJx4a65c_get_915e3, Cond.code yJx4a65c_get_915e3 cJx4a65c_get_915e3 2 (some (.object "java/lang/Object")), Cond.methodLink RJx4a65c 118 yJ15_checkIndex_7cf53, Cond.static yJ15_checkIndex_7cf53, Cond.initialized RJ15, Cond.code yJ15_checkIndex_7cf53 cJ15_checkIndex_7cf53 2 (some .int), Cond.methodLink RJ15 105 yJ3_checkIndex_8e157, Cond.static yJ3_checkIndex_8e157, Cond.initialized RJ3, Cond.code yJ3_checkIndex_8e157 cJ3_checkIndex_8e157 3 (some .int), Cond.methodLink RJx4a65c 123 yJx4a65c_elementData_915e3]
def wsX2_cabFor_r2 : List Cond := [Cond.instanceMethod yJx4a65c_elementData_915e3, Cond.selects RJx4a65c yJx4a65c_elementData_915e3 yJx4a65c_elementData_915e3, Cond.code yJx4a65c_elementData_915e3 cJx4a65c_elementData_915e3 2 (some (.object "java/lang/Object")), Cond.fieldLink RJx4a65c 9 "java/util/ArrayList" "elementData" "[Ljava/lang/Object;", Cond.methodLink RX2 274 yX2_canBeOffered, Cond.static yX2_canBeOffered, Cond.initialized RX2, Cond.code yX2_canBeOffered cX2_canBeOffered 2 (some .boolean), Cond.fieldLink RX2 208 "TaxiRank$Cab" "seats" "I", Cond.fieldLink RX2 281 "TaxiRank$Order" "passengers" "I", Cond.fieldLink RX2 284 "TaxiRank$Order" "refusers" "I", Cond.methodLink RX2 204 yX2_isIdle, Cond.static yX2_isIdle, Cond.code yX2_isIdle cX2_isIdle 1 (some .boolean), Cond.fieldLink RX2 80 "TaxiRank$Cab" "state" "I", Cond.fieldLink RX2 251 "TaxiRank$Cab" "order" "LTaxiRank$Order;", Cond.methodLink RX2 287 yX2_refuserBit, Cond.static yX2_refuserBit, Cond.code yX2_refuserBit cX2_refuserBit 1 (some .int), Cond.fieldLink RX2 250 "TaxiRank$Cab" "number" "I", Cond.methodLink RX2 278 yX2_rankOfZone, Cond.instanceMethod yX2_rankOfZone, Cond.selects RX2 yX2_rankOfZone yX2_rankOfZone, Cond.code yX2_rankOfZone cX2_rankOfZone 3 (some .int)]
def wsX2_cabFor_r3 : List Cond := [Cond.methodLink RX2 43 yX2_wayBetween, Cond.instanceMethod yX2_wayBetween, Cond.selects RX2 yX2_wayBetween yX2_wayBetween, Cond.code yX2_wayBetween cX2_wayBetween 4 (some .int), Cond.fieldLink RX2 9 "TaxiRank" "ways" "[I"]
def wsX2_cabFor : List Cond := .code yX2_cabFor cX2_cabFor 7 (some (.object "TaxiRank$Cab")) :: ((wsX2_cabFor_r1 ++ (wsX2_cabFor_r2 ++ wsX2_cabFor_r3)) ++ wsX20 ++ wsX00 ++ wsX10 ++ wsJx4a65c0)
def wsX2_makeNextOffer_r1 : List Cond := [Cond.fieldLink RX2 20 "TaxiRank" "orders" "Ljava/util/ArrayList;", Cond.classLink RX2 127 "TaxiRank$Order", Cond.fieldLink RX2 141 "TaxiRank$Order" "due" "I", Cond.fieldLink RX2 152 "TaxiRank$Order" "state" "I", Cond.fieldLink RX2 267 "TaxiRank$Order" "cab" "LTaxiRank$Cab;", Cond.fieldLink RX2 120 "TaxiRank" "time" "I", Cond.fieldLink RX2 271 "TaxiRank$Order" "offeredAt" "I", Cond.fieldLink RX2 251 "TaxiRank$Cab" "order" "LTaxiRank$Order;", Cond.methodLink RX2 59 yJx4a65c_size_8abf5, Cond.instanceMethod yJx4a65c_size_8abf5, Cond.selects RJx4a65c yJx4a65c_size_8abf5 yJx4a65c_size_8abf5, Cond.initialized RJx4a65c, Cond.code yJx4a65c_size_8abf5 cJx4a65c_size_8abf5 1 (some .int), Cond.fieldLink RJx4a65c 48 "java/util/ArrayList" "size" "I", Cond.methodLink RX2 197 yJx4a65c_get_915e3, Cond.instanceMethod yJx4a65c_get_915e3, Cond.selects RJx4a65c yJx4a65c_get_915e3 yJx4a65c_get_915e3, Cond.code yJx4a65c_get_915e3 cJx4a65c_get_915e3 2 (some (.object "java/lang/Object")), Cond.methodLink RJx4a65c 118 yJ15_checkIndex_7cf53, Cond.static yJ15_checkIndex_7cf53, Cond.initialized RJ15, Cond.code yJ15_checkIndex_7cf53 cJ15_checkIndex_7cf53 2 (some .int), Cond.methodLink RJ15 105 yJ3_checkIndex_8e157, Cond.static yJ3_checkIndex_8e157]
def wsX2_makeNextOffer_r2 : List Cond := [Cond.initialized RJ3, Cond.code yJ3_checkIndex_8e157 cJ3_checkIndex_8e157 3 (some .int), Cond.methodLink RJx4a65c 123 yJx4a65c_elementData_915e3, Cond.instanceMethod yJx4a65c_elementData_915e3, Cond.selects RJx4a65c yJx4a65c_elementData_915e3 yJx4a65c_elementData_915e3, Cond.code yJx4a65c_elementData_915e3 cJx4a65c_elementData_915e3 2 (some (.object "java/lang/Object")), Cond.fieldLink RJx4a65c 9 "java/util/ArrayList" "elementData" "[Ljava/lang/Object;", Cond.methodLink RX2 259 yX2_isLookedAt, Cond.instanceMethod yX2_isLookedAt, Cond.selects RX2 yX2_isLookedAt yX2_isLookedAt, Cond.initialized RX2, Cond.code yX2_isLookedAt cX2_isLookedAt 2 (some .boolean), Cond.methodLink RX2 263 yX2_cabFor, Cond.instanceMethod yX2_cabFor, Cond.selects RX2 yX2_cabFor yX2_cabFor, Cond.code yX2_cabFor cX2_cabFor 7 (some (.object "TaxiRank$Cab")), Cond.fieldLink RX2 16 "TaxiRank" "cabs" "Ljava/util/ArrayList;", Cond.classLink RX2 68 "TaxiRank$Cab", Cond.fieldLink RX2 101 "TaxiRank$Cab" "zone" "I", Cond.fieldLink RX2 138 "TaxiRank$Order" "from" "I", Cond.fieldLink RX2 243 "TaxiRank$Cab" "turn" "I", Cond.methodLink RX2 274 yX2_canBeOffered, Cond.static yX2_canBeOffered, Cond.code yX2_canBeOffered cX2_canBeOffered 2 (some .boolean)]
def wsX2_makeNextOffer_r3 : List Cond := [Cond.fieldLink RX2 208 "TaxiRank$Cab" "seats" "I", Cond.fieldLink RX2 281 "TaxiRank$Order" "passengers" "I", Cond.fieldLink RX2 284 "TaxiRank$Order" "refusers" "I", Cond.methodLink RX2 204 yX2_isIdle, Cond.static yX2_isIdle, Cond.code yX2_isIdle cX2_isIdle 1 (some .boolean), Cond.fieldLink RX2 80 "TaxiRank$Cab" "state" "I", Cond.methodLink RX2 287 yX2_refuserBit, Cond.static yX2_refuserBit, Cond.code yX2_refuserBit cX2_refuserBit 1 (some .int), Cond.fieldLink RX2 250 "TaxiRank$Cab" "number" "I", Cond.methodLink RX2 278 yX2_rankOfZone, Cond.instanceMethod yX2_rankOfZone, Cond.selects RX2 yX2_rankOfZone yX2_rankOfZone, Cond.code yX2_rankOfZone cX2_rankOfZone 3 (some .int), Cond.methodLink RX2 43 yX2_wayBetween, Cond.instanceMethod yX2_wayBetween, Cond.selects RX2 yX2_wayBetween yX2_wayBetween, Cond.code yX2_wayBetween cX2_wayBetween 4 (some .int), Cond.fieldLink RX2 9 "TaxiRank" "ways" "[I"]
def wsX2_makeNextOffer : List Cond := .code yX2_makeNextOffer cX2_makeNextOffer 6 (some .boolean) :: ((wsX2_makeNextOffer_r1 ++ (wsX2_makeNextOffer_r2 ++ wsX2_makeNextOffer_r3)) ++ wsX20 ++ wsX10 ++ wsX00 ++ wsJx4a65c0)
def wsX2_makeOffers_r1 : List Cond := [Cond.fieldLink RX2 16 "TaxiRank" "cabs" "Ljava/util/ArrayList;", Cond.methodLink RX2 59 yJx4a65c_size_8abf5, Cond.instanceMethod yJx4a65c_size_8abf5, Cond.selects RJx4a65c yJx4a65c_size_8abf5 yJx4a65c_size_8abf5, Cond.initialized RJx4a65c, Cond.code yJx4a65c_size_8abf5 cJx4a65c_size_8abf5 1 (some .int), Cond.fieldLink RJx4a65c 48 "java/util/ArrayList" "size" "I", Cond.methodLink RX2 255 yX2_makeNextOffer, Cond.instanceMethod yX2_makeNextOffer, Cond.selects RX2 yX2_makeNextOffer yX2_makeNextOffer, Cond.initialized RX2, Cond.code yX2_makeNextOffer cX2_makeNextOffer 6 (some .boolean), Cond.fieldLink RX2 20 "TaxiRank" "orders" "Ljava/util/ArrayList;", Cond.classLink RX2 127 "TaxiRank$Order", Cond.fieldLink RX2 141 "TaxiRank$Order" "due" "I", Cond.fieldLink RX2 152 "TaxiRank$Order" "state" "I", Cond.fieldLink RX2 267 "TaxiRank$Order" "cab" "LTaxiRank$Cab;", Cond.fieldLink RX2 120 "TaxiRank" "time" "I", Cond.fieldLink RX2 271 "TaxiRank$Order" "offeredAt" "I", Cond.fieldLink RX2 251 "TaxiRank$Cab" "order" "LTaxiRank$Order;", Cond.methodLink RX2 197 yJx4a65c_get_915e3, Cond.instanceMethod yJx4a65c_get_915e3, Cond.selects RJx4a65c yJx4a65c_get_915e3 yJx4a65c_get_915e3, Cond.code yJx4a65c_get_915e3 cJx4a65c_get_915e3 2 (some (.object "java/lang/Object"))]
def wsX2_makeOffers_r2 : List Cond := [Cond.methodLink RJx4a65c 118 yJ15_checkIndex_7cf53, Cond.static yJ15_checkIndex_7cf53, Cond.initialized RJ15, Cond.code yJ15_checkIndex_7cf53 cJ15_checkIndex_7cf53 2 (some .int), Cond.methodLink RJ15 105 yJ3_checkIndex_8e157, Cond.static yJ3_checkIndex_8e157, Cond.initialized RJ3, Cond.code yJ3_checkIndex_8e157 cJ3_checkIndex_8e157 3 (some .int), Cond.methodLink RJx4a65c 123 yJx4a65c_elementData_915e3, Cond.instanceMethod yJx4a65c_elementData_915e3, Cond.selects RJx4a65c yJx4a65c_elementData_915e3 yJx4a65c_elementData_915e3, Cond.code yJx4a65c_elementData_915e3 cJx4a65c_elementData_915e3 2 (some (.object "java/lang/Object")), Cond.fieldLink RJx4a65c 9 "java/util/ArrayList" "elementData" "[Ljava/lang/Object;", Cond.methodLink RX2 259 yX2_isLookedAt, Cond.instanceMethod yX2_isLookedAt, Cond.selects RX2 yX2_isLookedAt yX2_isLookedAt, Cond.code yX2_isLookedAt cX2_isLookedAt 2 (some .boolean), Cond.methodLink RX2 263 yX2_cabFor, Cond.instanceMethod yX2_cabFor, Cond.selects RX2 yX2_cabFor yX2_cabFor, Cond.code yX2_cabFor cX2_cabFor 7 (some (.object "TaxiRank$Cab")), Cond.classLink RX2 68 "TaxiRank$Cab", Cond.fieldLink RX2 101 "TaxiRank$Cab" "zone" "I", Cond.fieldLink RX2 138 "TaxiRank$Order" "from" "I"]
def wsX2_makeOffers_r3 : List Cond := [Cond.fieldLink RX2 243 "TaxiRank$Cab" "turn" "I", Cond.methodLink RX2 274 yX2_canBeOffered, Cond.static yX2_canBeOffered, Cond.code yX2_canBeOffered cX2_canBeOffered 2 (some .boolean), Cond.fieldLink RX2 208 "TaxiRank$Cab" "seats" "I", Cond.fieldLink RX2 281 "TaxiRank$Order" "passengers" "I", Cond.fieldLink RX2 284 "TaxiRank$Order" "refusers" "I", Cond.methodLink RX2 204 yX2_isIdle, Cond.static yX2_isIdle, Cond.code yX2_isIdle cX2_isIdle 1 (some .boolean), Cond.fieldLink RX2 80 "TaxiRank$Cab" "state" "I", Cond.methodLink RX2 287 yX2_refuserBit, Cond.static yX2_refuserBit, Cond.code yX2_refuserBit cX2_refuserBit 1 (some .int), Cond.fieldLink RX2 250 "TaxiRank$Cab" "number" "I", Cond.methodLink RX2 278 yX2_rankOfZone, Cond.instanceMethod yX2_rankOfZone, Cond.selects RX2 yX2_rankOfZone yX2_rankOfZone, Cond.code yX2_rankOfZone cX2_rankOfZone 3 (some .int), Cond.methodLink RX2 43 yX2_wayBetween, Cond.instanceMethod yX2_wayBetween, Cond.selects RX2 yX2_wayBetween yX2_wayBetween, Cond.code yX2_wayBetween cX2_wayBetween 4 (some .int), Cond.fieldLink RX2 9 "TaxiRank" "ways" "[I"]
def wsX2_makeOffers : List Cond := .code yX2_makeOffers cX2_makeOffers 3 none :: ((wsX2_makeOffers_r1 ++ (wsX2_makeOffers_r2 ++ wsX2_makeOffers_r3)) ++ wsX20 ++ wsJx4a65c0 ++ wsX10 ++ wsX00)
def wsX2_isInQueue : List Cond := .code yX2_isInQueue cX2_isInQueue 2 (some .boolean) :: ([.fieldLink RX2 80 "TaxiRank$Cab" "state" "I", .fieldLink RX2 101 "TaxiRank$Cab" "zone" "I"] ++ wsX00)
def wsX2_placeOf_r1 : List Cond := [Cond.fieldLink RX2 80 "TaxiRank$Cab" "state" "I", Cond.fieldLink RX2 16 "TaxiRank" "cabs" "Ljava/util/ArrayList;", Cond.classLink RX2 68 "TaxiRank$Cab", Cond.fieldLink RX2 101 "TaxiRank$Cab" "zone" "I", Cond.fieldLink RX2 243 "TaxiRank$Cab" "turn" "I", Cond.methodLink RX2 59 yJx4a65c_size_8abf5, Cond.instanceMethod yJx4a65c_size_8abf5, Cond.selects RJx4a65c yJx4a65c_size_8abf5 yJx4a65c_size_8abf5, Cond.initialized RJx4a65c, Cond.code yJx4a65c_size_8abf5 cJx4a65c_size_8abf5 1 (some .int), Cond.fieldLink RJx4a65c 48 "java/util/ArrayList" "size" "I", Cond.methodLink RX2 197 yJx4a65c_get_915e3, Cond.instanceMethod yJx4a65c_get_915e3, Cond.selects RJx4a65c yJx4a65c_get_915e3 yJx4a65c_get_915e3, Cond.code yJx4a65c_get_915e3 cJx4a65c_get_915e3 2 (some (.object "java/lang/Object")), Cond.methodLink RJx4a65c 118 yJ15_checkIndex_7cf53, Cond.static yJ15_checkIndex_7cf53, Cond.initialized RJ15, Cond.code yJ15_checkIndex_7cf53 cJ15_checkIndex_7cf53 2 (some .int), Cond.methodLink RJ15 105 yJ3_checkIndex_8e157, Cond.static yJ3_checkIndex_8e157, Cond.initialized RJ3, Cond.code yJ3_checkIndex_8e157 cJ3_checkIndex_8e157 3 (some .int), Cond.methodLink RJx4a65c 123 yJx4a65c_elementData_915e3]
def wsX2_placeOf_r2 : List Cond := [Cond.instanceMethod yJx4a65c_elementData_915e3, Cond.selects RJx4a65c yJx4a65c_elementData_915e3 yJx4a65c_elementData_915e3, Cond.code yJx4a65c_elementData_915e3 cJx4a65c_elementData_915e3 2 (some (.object "java/lang/Object")), Cond.fieldLink RJx4a65c 9 "java/util/ArrayList" "elementData" "[Ljava/lang/Object;", Cond.methodLink RX2 246 yX2_isInQueue, Cond.static yX2_isInQueue, Cond.initialized RX2, Cond.code yX2_isInQueue cX2_isInQueue 2 (some .boolean)]
def wsX2_placeOf : List Cond := .code yX2_placeOf cX2_placeOf 5 (some .int) :: ((wsX2_placeOf_r1 ++ wsX2_placeOf_r2) ++ wsX00 ++ wsX20 ++ wsJx4a65c0)
def wsX2_start_r1 : List Cond := [Cond.classLink RX2 63 "java/lang/IllegalStateException", Cond.initialized "java/lang/IllegalStateException", Cond.fieldLink RX2 80 "TaxiRank$Cab" "state" "I", Cond.methodLink RX2 76 yX2_cabNumbered, Cond.instanceMethod yX2_cabNumbered, Cond.selects RX2 yX2_cabNumbered yX2_cabNumbered, Cond.initialized RX2, Cond.code yX2_cabNumbered cX2_cabNumbered 2 (some (.object "TaxiRank$Cab")), Cond.classLink RX2 108 "java/lang/IndexOutOfBoundsException", Cond.initialized "java/lang/IndexOutOfBoundsException", Cond.fieldLink RX2 16 "TaxiRank" "cabs" "Ljava/util/ArrayList;", Cond.classLink RX2 68 "TaxiRank$Cab", Cond.methodLink RX2 59 yJx4a65c_size_8abf5, Cond.instanceMethod yJx4a65c_size_8abf5, Cond.selects RJx4a65c yJx4a65c_size_8abf5 yJx4a65c_size_8abf5, Cond.initialized RJx4a65c, Cond.code yJx4a65c_size_8abf5 cJx4a65c_size_8abf5 1 (some .int), Cond.fieldLink RJx4a65c 48 "java/util/ArrayList" "size" "I", Cond.methodLink RX2 197 yJx4a65c_get_915e3, Cond.instanceMethod yJx4a65c_get_915e3, Cond.selects RJx4a65c yJx4a65c_get_915e3 yJx4a65c_get_915e3, Cond.code yJx4a65c_get_915e3 cJx4a65c_get_915e3 2 (some (.object "java/lang/Object")), Cond.methodLink RJx4a65c 118 yJ15_checkIndex_7cf53, Cond.static yJ15_checkIndex_7cf53]
def wsX2_start_r2 : List Cond := [Cond.initialized RJ15, Cond.code yJ15_checkIndex_7cf53 cJ15_checkIndex_7cf53 2 (some .int), Cond.methodLink RJ15 105 yJ3_checkIndex_8e157, Cond.static yJ3_checkIndex_8e157, Cond.initialized RJ3, Cond.code yJ3_checkIndex_8e157 cJ3_checkIndex_8e157 3 (some .int), Cond.methodLink RJx4a65c 123 yJx4a65c_elementData_915e3, Cond.instanceMethod yJx4a65c_elementData_915e3, Cond.selects RJx4a65c yJx4a65c_elementData_915e3 yJx4a65c_elementData_915e3, Cond.code yJx4a65c_elementData_915e3 cJx4a65c_elementData_915e3 2 (some (.object "java/lang/Object")), Cond.fieldLink RJx4a65c 9 "java/util/ArrayList" "elementData" "[Ljava/lang/Object;", Cond.methodLink RX2 85 yX2_joinQueue, Cond.instanceMethod yX2_joinQueue, Cond.selects RX2 yX2_joinQueue yX2_joinQueue, Cond.code yX2_joinQueue cX2_joinQueue 2 none, Cond.fieldLink RX2 240 "TaxiRank" "turnsGiven" "I", Cond.fieldLink RX2 243 "TaxiRank$Cab" "turn" "I", Cond.methodLink RX2 89 yX2_makeOffers, Cond.instanceMethod yX2_makeOffers, Cond.selects RX2 yX2_makeOffers yX2_makeOffers, Cond.code yX2_makeOffers cX2_makeOffers 3 none, Cond.methodLink RX2 255 yX2_makeNextOffer, Cond.instanceMethod yX2_makeNextOffer, Cond.selects RX2 yX2_makeNextOffer yX2_makeNextOffer]
def wsX2_start_r3 : List Cond := [Cond.code yX2_makeNextOffer cX2_makeNextOffer 6 (some .boolean), Cond.fieldLink RX2 20 "TaxiRank" "orders" "Ljava/util/ArrayList;", Cond.classLink RX2 127 "TaxiRank$Order", Cond.fieldLink RX2 141 "TaxiRank$Order" "due" "I", Cond.fieldLink RX2 152 "TaxiRank$Order" "state" "I", Cond.fieldLink RX2 267 "TaxiRank$Order" "cab" "LTaxiRank$Cab;", Cond.fieldLink RX2 120 "TaxiRank" "time" "I", Cond.fieldLink RX2 271 "TaxiRank$Order" "offeredAt" "I", Cond.fieldLink RX2 251 "TaxiRank$Cab" "order" "LTaxiRank$Order;", Cond.methodLink RX2 259 yX2_isLookedAt, Cond.instanceMethod yX2_isLookedAt, Cond.selects RX2 yX2_isLookedAt yX2_isLookedAt, Cond.code yX2_isLookedAt cX2_isLookedAt 2 (some .boolean), Cond.methodLink RX2 263 yX2_cabFor, Cond.instanceMethod yX2_cabFor, Cond.selects RX2 yX2_cabFor yX2_cabFor, Cond.code yX2_cabFor cX2_cabFor 7 (some (.object "TaxiRank$Cab")), Cond.fieldLink RX2 101 "TaxiRank$Cab" "zone" "I", Cond.fieldLink RX2 138 "TaxiRank$Order" "from" "I", Cond.methodLink RX2 274 yX2_canBeOffered, Cond.static yX2_canBeOffered, Cond.code yX2_canBeOffered cX2_canBeOffered 2 (some .boolean), Cond.fieldLink RX2 208 "TaxiRank$Cab" "seats" "I", Cond.fieldLink RX2 281 "TaxiRank$Order" "passengers" "I"]
def wsX2_start_r4 : List Cond := [Cond.fieldLink RX2 284 "TaxiRank$Order" "refusers" "I", Cond.methodLink RX2 204 yX2_isIdle, Cond.static yX2_isIdle, Cond.code yX2_isIdle cX2_isIdle 1 (some .boolean), Cond.methodLink RX2 287 yX2_refuserBit, Cond.static yX2_refuserBit, Cond.code yX2_refuserBit cX2_refuserBit 1 (some .int), Cond.fieldLink RX2 250 "TaxiRank$Cab" "number" "I", Cond.methodLink RX2 278 yX2_rankOfZone, Cond.instanceMethod yX2_rankOfZone, Cond.selects RX2 yX2_rankOfZone yX2_rankOfZone, Cond.code yX2_rankOfZone cX2_rankOfZone 3 (some .int), Cond.methodLink RX2 43 yX2_wayBetween, Cond.instanceMethod yX2_wayBetween, Cond.selects RX2 yX2_wayBetween yX2_wayBetween, Cond.code yX2_wayBetween cX2_wayBetween 4 (some .int), Cond.fieldLink RX2 9 "TaxiRank" "ways" "[I", Cond.methodLink RX2 92 yX2_placeOf, Cond.instanceMethod yX2_placeOf, Cond.selects RX2 yX2_placeOf yX2_placeOf, Cond.code yX2_placeOf cX2_placeOf 5 (some .int), Cond.methodLink RX2 246 yX2_isInQueue, Cond.static yX2_isInQueue, Cond.code yX2_isInQueue cX2_isInQueue 2 (some .boolean)]
def wsX2_start : List Cond := .code yX2_start cX2_start 3 (some .int) :: ((wsX2_start_r1 ++ (wsX2_start_r2 ++ (wsX2_start_r3 ++ wsX2_start_r4))) ++ wsX00 ++ wsX20 ++ wsJx4a65c0 ++ wsX10 ++ (vx_atS RX2 67 "java/lang/IllegalStateException" ["java/lang/RuntimeException", "java/lang/Exception"]).filter goodWord ++ (vx_atS RX2 112 "java/lang/IndexOutOfBoundsException" ["java/lang/RuntimeException", "java/lang/Exception"]).filter goodWord)
def wsX2_offeredTo : List Cond := .code yX2_offeredTo cX2_offeredTo 1 (some (.object "TaxiRank$Order")) :: ([.fieldLink RX2 80 "TaxiRank$Cab" "state" "I", .fieldLink RX2 251 "TaxiRank$Cab" "order" "LTaxiRank$Order;"] ++ wsX00)
def wsX2_turnDown : List Cond := .code yX2_turnDown cX2_turnDown 3 none :: ([.fieldLink RX2 284 "TaxiRank$Order" "refusers" "I", .fieldLink RX2 152 "TaxiRank$Order" "state" "I", .fieldLink RX2 267 "TaxiRank$Order" "cab" "LTaxiRank$Cab;", .fieldLink RX2 251 "TaxiRank$Cab" "order" "LTaxiRank$Order;", .methodLink RX2 132 yX2_offeredTo, .static yX2_offeredTo, .initialized RX2, .code yX2_offeredTo cX2_offeredTo 1 (some (.object "TaxiRank$Order")), .fieldLink RX2 80 "TaxiRank$Cab" "state" "I", .methodLink RX2 287 yX2_refuserBit, .static yX2_refuserBit, .code yX2_refuserBit cX2_refuserBit 1 (some .int), .fieldLink RX2 250 "TaxiRank$Cab" "number" "I", .methodLink RX2 85 yX2_joinQueue, .instanceMethod yX2_joinQueue, .selects RX2 yX2_joinQueue yX2_joinQueue, .code yX2_joinQueue cX2_joinQueue 2 none, .fieldLink RX2 240 "TaxiRank" "turnsGiven" "I", .fieldLink RX2 243 "TaxiRank$Cab" "turn" "I"] ++ wsX10 ++ wsX00 ++ wsX20)
def wsX2_stop_r1 : List Cond := [Cond.classLink RX2 63 "java/lang/IllegalStateException", Cond.initialized "java/lang/IllegalStateException", Cond.fieldLink RX2 80 "TaxiRank$Cab" "state" "I", Cond.fieldLink RX2 101 "TaxiRank$Cab" "zone" "I", Cond.methodLink RX2 76 yX2_cabNumbered, Cond.instanceMethod yX2_cabNumbered, Cond.selects RX2 yX2_cabNumbered yX2_cabNumbered, Cond.initialized RX2, Cond.code yX2_cabNumbered cX2_cabNumbered 2 (some (.object "TaxiRank$Cab")), Cond.classLink RX2 108 "java/lang/IndexOutOfBoundsException", Cond.initialized "java/lang/IndexOutOfBoundsException", Cond.fieldLink RX2 16 "TaxiRank" "cabs" "Ljava/util/ArrayList;", Cond.classLink RX2 68 "TaxiRank$Cab", Cond.methodLink RX2 59 yJx4a65c_size_8abf5, Cond.instanceMethod yJx4a65c_size_8abf5, Cond.selects RJx4a65c yJx4a65c_size_8abf5 yJx4a65c_size_8abf5, Cond.initialized RJx4a65c, Cond.code yJx4a65c_size_8abf5 cJx4a65c_size_8abf5 1 (some .int), Cond.fieldLink RJx4a65c 48 "java/util/ArrayList" "size" "I", Cond.methodLink RX2 197 yJx4a65c_get_915e3, Cond.instanceMethod yJx4a65c_get_915e3, Cond.selects RJx4a65c yJx4a65c_get_915e3 yJx4a65c_get_915e3, Cond.code yJx4a65c_get_915e3 cJx4a65c_get_915e3 2 (some (.object "java/lang/Object")), Cond.methodLink RJx4a65c 118 yJ15_checkIndex_7cf53]
def wsX2_stop_r2 : List Cond := [Cond.static yJ15_checkIndex_7cf53, Cond.initialized RJ15, Cond.code yJ15_checkIndex_7cf53 cJ15_checkIndex_7cf53 2 (some .int), Cond.methodLink RJ15 105 yJ3_checkIndex_8e157, Cond.static yJ3_checkIndex_8e157, Cond.initialized RJ3, Cond.code yJ3_checkIndex_8e157 cJ3_checkIndex_8e157 3 (some .int), Cond.methodLink RJx4a65c 123 yJx4a65c_elementData_915e3, Cond.instanceMethod yJx4a65c_elementData_915e3, Cond.selects RJx4a65c yJx4a65c_elementData_915e3 yJx4a65c_elementData_915e3, Cond.code yJx4a65c_elementData_915e3 cJx4a65c_elementData_915e3 2 (some (.object "java/lang/Object")), Cond.fieldLink RJx4a65c 9 "java/util/ArrayList" "elementData" "[Ljava/lang/Object;", Cond.methodLink RX2 98 yX2_turnDown, Cond.instanceMethod yX2_turnDown, Cond.selects RX2 yX2_turnDown yX2_turnDown, Cond.code yX2_turnDown cX2_turnDown 3 none, Cond.fieldLink RX2 284 "TaxiRank$Order" "refusers" "I", Cond.fieldLink RX2 152 "TaxiRank$Order" "state" "I", Cond.fieldLink RX2 267 "TaxiRank$Order" "cab" "LTaxiRank$Cab;", Cond.fieldLink RX2 251 "TaxiRank$Cab" "order" "LTaxiRank$Order;", Cond.methodLink RX2 132 yX2_offeredTo, Cond.static yX2_offeredTo, Cond.code yX2_offeredTo cX2_offeredTo 1 (some (.object "TaxiRank$Order")), Cond.methodLink RX2 287 yX2_refuserBit]
def wsX2_stop_r3 : List Cond := [Cond.static yX2_refuserBit, Cond.code yX2_refuserBit cX2_refuserBit 1 (some .int), Cond.fieldLink RX2 250 "TaxiRank$Cab" "number" "I", Cond.methodLink RX2 85 yX2_joinQueue, Cond.instanceMethod yX2_joinQueue, Cond.selects RX2 yX2_joinQueue yX2_joinQueue, Cond.code yX2_joinQueue cX2_joinQueue 2 none, Cond.fieldLink RX2 240 "TaxiRank" "turnsGiven" "I", Cond.fieldLink RX2 243 "TaxiRank$Cab" "turn" "I", Cond.methodLink RX2 89 yX2_makeOffers, Cond.instanceMethod yX2_makeOffers, Cond.selects RX2 yX2_makeOffers yX2_makeOffers, Cond.code yX2_makeOffers cX2_makeOffers 3 none, Cond.methodLink RX2 255 yX2_makeNextOffer, Cond.instanceMethod yX2_makeNextOffer, Cond.selects RX2 yX2_makeNextOffer yX2_makeNextOffer, Cond.code yX2_makeNextOffer cX2_makeNextOffer 6 (some .boolean), Cond.fieldLink RX2 20 "TaxiRank" "orders" "Ljava/util/ArrayList;", Cond.classLink RX2 127 "TaxiRank$Order", Cond.fieldLink RX2 141 "TaxiRank$Order" "due" "I", Cond.fieldLink RX2 120 "TaxiRank" "time" "I", Cond.fieldLink RX2 271 "TaxiRank$Order" "offeredAt" "I", Cond.methodLink RX2 259 yX2_isLookedAt, Cond.instanceMethod yX2_isLookedAt]
def wsX2_stop_r4 : List Cond := [Cond.selects RX2 yX2_isLookedAt yX2_isLookedAt, Cond.code yX2_isLookedAt cX2_isLookedAt 2 (some .boolean), Cond.methodLink RX2 263 yX2_cabFor, Cond.instanceMethod yX2_cabFor, Cond.selects RX2 yX2_cabFor yX2_cabFor, Cond.code yX2_cabFor cX2_cabFor 7 (some (.object "TaxiRank$Cab")), Cond.fieldLink RX2 138 "TaxiRank$Order" "from" "I", Cond.methodLink RX2 274 yX2_canBeOffered, Cond.static yX2_canBeOffered, Cond.code yX2_canBeOffered cX2_canBeOffered 2 (some .boolean), Cond.fieldLink RX2 208 "TaxiRank$Cab" "seats" "I", Cond.fieldLink RX2 281 "TaxiRank$Order" "passengers" "I", Cond.methodLink RX2 204 yX2_isIdle, Cond.static yX2_isIdle, Cond.code yX2_isIdle cX2_isIdle 1 (some .boolean), Cond.methodLink RX2 278 yX2_rankOfZone, Cond.instanceMethod yX2_rankOfZone, Cond.selects RX2 yX2_rankOfZone yX2_rankOfZone, Cond.code yX2_rankOfZone cX2_rankOfZone 3 (some .int), Cond.methodLink RX2 43 yX2_wayBetween, Cond.instanceMethod yX2_wayBetween, Cond.selects RX2 yX2_wayBetween yX2_wayBetween, Cond.code yX2_wayBetween cX2_wayBetween 4 (some .int), Cond.fieldLink RX2 9 "TaxiRank" "ways" "[I"]
def wsX2_stop : List Cond := .code yX2_stop cX2_stop 3 (some .int) :: ((wsX2_stop_r1 ++ (wsX2_stop_r2 ++ (wsX2_stop_r3 ++ wsX2_stop_r4))) ++ wsX00 ++ wsX20 ++ wsJx4a65c0 ++ wsX10 ++ (vx_atS RX2 67 "java/lang/IllegalStateException" ["java/lang/RuntimeException", "java/lang/Exception"]).filter goodWord ++ (vx_atS RX2 112 "java/lang/IndexOutOfBoundsException" ["java/lang/RuntimeException", "java/lang/Exception"]).filter goodWord)
def wsX2_cabDetail_r1 : List Cond := [Cond.fieldLink RX2 80 "TaxiRank$Cab" "state" "I", Cond.fieldLink RX2 101 "TaxiRank$Cab" "zone" "I", Cond.fieldLink RX2 208 "TaxiRank$Cab" "seats" "I", Cond.fieldLink RX2 251 "TaxiRank$Cab" "order" "LTaxiRank$Order;", Cond.fieldLink RX2 153 "TaxiRank$Order" "number" "I", Cond.methodLink RX2 92 yX2_placeOf, Cond.instanceMethod yX2_placeOf, Cond.selects RX2 yX2_placeOf yX2_placeOf, Cond.initialized RX2, Cond.code yX2_placeOf cX2_placeOf 5 (some .int), Cond.fieldLink RX2 16 "TaxiRank" "cabs" "Ljava/util/ArrayList;", Cond.classLink RX2 68 "TaxiRank$Cab", Cond.fieldLink RX2 243 "TaxiRank$Cab" "turn" "I", Cond.methodLink RX2 59 yJx4a65c_size_8abf5, Cond.instanceMethod yJx4a65c_size_8abf5, Cond.selects RJx4a65c yJx4a65c_size_8abf5 yJx4a65c_size_8abf5, Cond.initialized RJx4a65c, Cond.code yJx4a65c_size_8abf5 cJx4a65c_size_8abf5 1 (some .int), Cond.fieldLink RJx4a65c 48 "java/util/ArrayList" "size" "I", Cond.methodLink RX2 197 yJx4a65c_get_915e3, Cond.instanceMethod yJx4a65c_get_915e3, Cond.selects RJx4a65c yJx4a65c_get_915e3 yJx4a65c_get_915e3, Cond.code yJx4a65c_get_915e3 cJx4a65c_get_915e3 2 (some (.object "java/lang/Object")), Cond.methodLink RJx4a65c 118 yJ15_checkIndex_7cf53]
def wsX2_cabDetail_r2 : List Cond := [Cond.static yJ15_checkIndex_7cf53, Cond.initialized RJ15, Cond.code yJ15_checkIndex_7cf53 cJ15_checkIndex_7cf53 2 (some .int), Cond.methodLink RJ15 105 yJ3_checkIndex_8e157, Cond.static yJ3_checkIndex_8e157, Cond.initialized RJ3, Cond.code yJ3_checkIndex_8e157 cJ3_checkIndex_8e157 3 (some .int), Cond.methodLink RJx4a65c 123 yJx4a65c_elementData_915e3, Cond.instanceMethod yJx4a65c_elementData_915e3, Cond.selects RJx4a65c yJx4a65c_elementData_915e3 yJx4a65c_elementData_915e3, Cond.code yJx4a65c_elementData_915e3 cJx4a65c_elementData_915e3 2 (some (.object "java/lang/Object")), Cond.fieldLink RJx4a65c 9 "java/util/ArrayList" "elementData" "[Ljava/lang/Object;", Cond.methodLink RX2 246 yX2_isInQueue, Cond.static yX2_isInQueue, Cond.code yX2_isInQueue cX2_isInQueue 2 (some .boolean)]
def wsX2_cabDetail : List Cond := .code yX2_cabDetail cX2_cabDetail 3 (some .int) :: ((wsX2_cabDetail_r1 ++ wsX2_cabDetail_r2) ++ wsX00 ++ wsX10 ++ wsX20 ++ wsJx4a65c0)
def wsX2_cab_r1 : List Cond := [Cond.classLink RX2 108 "java/lang/IndexOutOfBoundsException", Cond.initialized "java/lang/IndexOutOfBoundsException", Cond.methodLink RX2 76 yX2_cabNumbered, Cond.instanceMethod yX2_cabNumbered, Cond.selects RX2 yX2_cabNumbered yX2_cabNumbered, Cond.initialized RX2, Cond.code yX2_cabNumbered cX2_cabNumbered 2 (some (.object "TaxiRank$Cab")), Cond.fieldLink RX2 16 "TaxiRank" "cabs" "Ljava/util/ArrayList;", Cond.classLink RX2 68 "TaxiRank$Cab", Cond.methodLink RX2 59 yJx4a65c_size_8abf5, Cond.instanceMethod yJx4a65c_size_8abf5, Cond.selects RJx4a65c yJx4a65c_size_8abf5 yJx4a65c_size_8abf5, Cond.initialized RJx4a65c, Cond.code yJx4a65c_size_8abf5 cJx4a65c_size_8abf5 1 (some .int), Cond.fieldLink RJx4a65c 48 "java/util/ArrayList" "size" "I", Cond.methodLink RX2 197 yJx4a65c_get_915e3, Cond.instanceMethod yJx4a65c_get_915e3, Cond.selects RJx4a65c yJx4a65c_get_915e3 yJx4a65c_get_915e3, Cond.code yJx4a65c_get_915e3 cJx4a65c_get_915e3 2 (some (.object "java/lang/Object")), Cond.methodLink RJx4a65c 118 yJ15_checkIndex_7cf53, Cond.static yJ15_checkIndex_7cf53, Cond.initialized RJ15, Cond.code yJ15_checkIndex_7cf53 cJ15_checkIndex_7cf53 2 (some .int), Cond.methodLink RJ15 105 yJ3_checkIndex_8e157]
def wsX2_cab_r2 : List Cond := [Cond.static yJ3_checkIndex_8e157, Cond.initialized RJ3, Cond.code yJ3_checkIndex_8e157 cJ3_checkIndex_8e157 3 (some .int), Cond.methodLink RJx4a65c 123 yJx4a65c_elementData_915e3, Cond.instanceMethod yJx4a65c_elementData_915e3, Cond.selects RJx4a65c yJx4a65c_elementData_915e3 yJx4a65c_elementData_915e3, Cond.code yJx4a65c_elementData_915e3 cJx4a65c_elementData_915e3 2 (some (.object "java/lang/Object")), Cond.fieldLink RJx4a65c 9 "java/util/ArrayList" "elementData" "[Ljava/lang/Object;", Cond.methodLink RX2 113 yX2_cabDetail, Cond.instanceMethod yX2_cabDetail, Cond.selects RX2 yX2_cabDetail yX2_cabDetail, Cond.code yX2_cabDetail cX2_cabDetail 3 (some .int), Cond.fieldLink RX2 80 "TaxiRank$Cab" "state" "I", Cond.fieldLink RX2 101 "TaxiRank$Cab" "zone" "I", Cond.fieldLink RX2 208 "TaxiRank$Cab" "seats" "I", Cond.fieldLink RX2 251 "TaxiRank$Cab" "order" "LTaxiRank$Order;", Cond.fieldLink RX2 153 "TaxiRank$Order" "number" "I", Cond.methodLink RX2 92 yX2_placeOf, Cond.instanceMethod yX2_placeOf, Cond.selects RX2 yX2_placeOf yX2_placeOf, Cond.code yX2_placeOf cX2_placeOf 5 (some .int), Cond.fieldLink RX2 243 "TaxiRank$Cab" "turn" "I", Cond.methodLink RX2 246 yX2_isInQueue, Cond.static yX2_isInQueue]
def wsX2_cab_r3 : List Cond := [Cond.code yX2_isInQueue cX2_isInQueue 2 (some .boolean)]
def wsX2_cab : List Cond := .code yX2_cab cX2_cab 4 (some .int) :: ((wsX2_cab_r1 ++ (wsX2_cab_r2 ++ wsX2_cab_r3)) ++ wsX20 ++ wsJx4a65c0 ++ wsX00 ++ wsX10 ++ (vx_atS RX2 112 "java/lang/IndexOutOfBoundsException" ["java/lang/RuntimeException", "java/lang/Exception"]).filter goodWord)
def wsX2_requirePassengers : List Cond := .code yX2_requirePassengers cX2_requirePassengers 1 none :: ([.classLink RX2 34 "java/lang/IllegalArgumentException", .initialized "java/lang/IllegalArgumentException"] ++ (vx_atS RX2 38 "java/lang/IllegalArgumentException" ["java/lang/RuntimeException", "java/lang/Exception"]).filter goodWord)
def wsX2_order_r1 : List Cond := [Cond.classLink RX2 34 "java/lang/IllegalArgumentException", Cond.initialized "java/lang/IllegalArgumentException", Cond.classLink RX2 63 "java/lang/IllegalStateException", Cond.initialized "java/lang/IllegalStateException", Cond.fieldLink RX2 120 "TaxiRank" "time" "I", Cond.fieldLink RX2 20 "TaxiRank" "orders" "Ljava/util/ArrayList;", Cond.classLink RX2 127 RX1, Cond.instantiable RX1 15, Cond.initialized RX1, Cond.methodLink RX2 30 yX2_requireZone, Cond.static yX2_requireZone, Cond.initialized RX2, Cond.code yX2_requireZone cX2_requireZone 1 none, Cond.classLink RX2 108 "java/lang/IndexOutOfBoundsException", Cond.initialized "java/lang/IndexOutOfBoundsException", Cond.methodLink RX2 53 yX2_isZone, Cond.static yX2_isZone, Cond.code yX2_isZone cX2_isZone 1 (some .boolean), Cond.methodLink RX2 117 yX2_requirePassengers, Cond.static yX2_requirePassengers, Cond.code yX2_requirePassengers cX2_requirePassengers 1 none, Cond.methodLink RX2 59 yJx4a65c_size_8abf5, Cond.instanceMethod yJx4a65c_size_8abf5, Cond.selects RJx4a65c yJx4a65c_size_8abf5 yJx4a65c_size_8abf5]
def wsX2_order_r2 : List Cond := [Cond.initialized RJx4a65c, Cond.code yJx4a65c_size_8abf5 cJx4a65c_size_8abf5 1 (some .int), Cond.fieldLink RJx4a65c 48 "java/util/ArrayList" "size" "I", Cond.methodLink RX2 129 yX1_init, Cond.instanceMethod yX1_init, Cond.code yX1_init cX1_init 6 none, Cond.methodLink RX1 3 objectInit, Cond.instanceMethod objectInit, Cond.code objectInit ⟨#[0xb1]⟩ 1 none, Cond.fieldLink RX1 9 "TaxiRank$Order" "state" "I", Cond.fieldLink RX1 15 "TaxiRank$Order" "begunAt" "I", Cond.fieldLink RX1 18 "TaxiRank$Order" "doneAt" "I", Cond.fieldLink RX1 21 "TaxiRank$Order" "number" "I", Cond.fieldLink RX1 24 "TaxiRank$Order" "from" "I", Cond.fieldLink RX1 27 "TaxiRank$Order" "to" "I", Cond.fieldLink RX1 30 "TaxiRank$Order" "passengers" "I", Cond.fieldLink RX1 33 "TaxiRank$Order" "due" "I", Cond.methodLink RX2 72 yJx4a65c_add_9ea2d, Cond.instanceMethod yJx4a65c_add_9ea2d, Cond.selects RJx4a65c yJx4a65c_add_9ea2d yJx4a65c_add_9ea2d, Cond.code yJx4a65c_add_9ea2d cJx4a65c_add_9ea2d 2 (some .boolean), Cond.fieldLink RJx4a65c 63 "java/util/ArrayList" "modCount" "I", Cond.sameField "java/util/ArrayList" "java/util/AbstractList" "modCount" "I", Cond.fieldLink RJx4a65c 9 "java/util/ArrayList" "elementData" "[Ljava/lang/Object;"]
def wsX2_order_r3 : List Cond := [Cond.methodLink RJx4a65c 131 yJx4a65c_add_72be8, Cond.instanceMethod yJx4a65c_add_72be8, Cond.selects RJx4a65c yJx4a65c_add_72be8 yJx4a65c_add_72be8, Cond.code yJx4a65c_add_72be8 cJx4a65c_add_72be8 4 none, Cond.methodLink RJx4a65c 129 yJx4a65c_grow_d5877, Cond.instanceMethod yJx4a65c_grow_d5877, Cond.selects RJx4a65c yJx4a65c_grow_d5877 yJx4a65c_grow_d5877, Cond.code yJx4a65c_grow_d5877 cJx4a65c_grow_d5877 1 (some (.array (.object "java/lang/Object"))), Cond.methodLink RJx4a65c 69 yJx4a65c_grow_92f84, Cond.instanceMethod yJx4a65c_grow_92f84, Cond.selects RJx4a65c yJx4a65c_grow_92f84 yJx4a65c_grow_92f84, Cond.code yJx4a65c_grow_92f84 cJx4a65c_grow_92f84 4 (some (.array (.object "java/lang/Object"))), Cond.fieldLink RJx4a65c 39 "java/util/ArrayList" "DEFAULTCAPACITY_EMPTY_ELEMENTDATA" "[Ljava/lang/Object;", Cond.methodLink RJx4a65c 79 Lib.Math.max.name, Cond.static Lib.Math.max.name, Cond.initialized "java/lang/Math", Cond.code Lib.Math.max.name Lib.Math.max.code 2 (some .int), Cond.classLink RJx4a65c 7 "java/lang/Object", Cond.methodLink RJx4a65c 73 yJ8_newLength_cabcc, Cond.static yJ8_newLength_cabcc, Cond.initialized RJ8, Cond.code yJ8_newLength_cabcc cJ8_newLength_cabcc 4 (some .int), Cond.methodLink RJ8 194 Lib.Math.max.name, Cond.constant RJ8 200 (2147483639)]
def wsX2_order_r4 : List Cond := [Cond.methodLink RJ8 201 yJ8_hugeLength_7cf53, Cond.static yJ8_hugeLength_7cf53, Cond.code yJ8_hugeLength_7cf53 cJ8_hugeLength_7cf53 3 (some .int), Cond.methodLink RJx4a65c 66 yJ7_copyOf_1904c, Cond.static yJ7_copyOf_1904c, Cond.initialized RJ7, Cond.code yJ7_copyOf_1904c cJ7_copyOf_1904c 2 (some (.array (.object "java/lang/Object"))), Cond.methodLink RJ7 86 ⟨"java/lang/Object", "getClass", "()Ljava/lang/Class;"⟩, Cond.selects "[Ljava/lang/Object;" ⟨"java/lang/Object", "getClass", "()Ljava/lang/Class;"⟩ ⟨"java/lang/Object", "getClass", "()Ljava/lang/Class;"⟩, Cond.instanceMethod ⟨"java/lang/Object", "getClass", "()Ljava/lang/Class;"⟩, Cond.native ⟨"java/lang/Object", "getClass", "()Ljava/lang/Class;"⟩, Cond.methodLink RJ7 300 yJ7_copyOf_6403c, Cond.static yJ7_copyOf_6403c, Cond.code yJ7_copyOf_6403c cJ7_copyOf_6403c 4 (some (.array (.object "java/lang/Object"))), Cond.classLink RJ7 110 "[Ljava/lang/Object;", Cond.classLink RJ7 2 "java/lang/Object", Cond.methodLink RJ7 304 Lib.Math.min.name, Cond.static Lib.Math.min.name, Cond.code Lib.Math.min.name Lib.Math.min.code 2 (some .int), Cond.methodLink RJ7 150 arraycopyName, Cond.native arraycopyName, Cond.static arraycopyName, Cond.initialized "java/lang/System", Cond.methodLink RX2 89 yX2_makeOffers]
def wsX2_order_r5 : List Cond := [Cond.instanceMethod yX2_makeOffers, Cond.selects RX2 yX2_makeOffers yX2_makeOffers, Cond.code yX2_makeOffers cX2_makeOffers 3 none, Cond.fieldLink RX2 16 "TaxiRank" "cabs" "Ljava/util/ArrayList;", Cond.methodLink RX2 255 yX2_makeNextOffer, Cond.instanceMethod yX2_makeNextOffer, Cond.selects RX2 yX2_makeNextOffer yX2_makeNextOffer, Cond.code yX2_makeNextOffer cX2_makeNextOffer 6 (some .boolean), Cond.classLink RX2 127 "TaxiRank$Order", Cond.fieldLink RX2 141 "TaxiRank$Order" "due" "I", Cond.fieldLink RX2 152 "TaxiRank$Order" "state" "I", Cond.fieldLink RX2 267 "TaxiRank$Order" "cab" "LTaxiRank$Cab;", Cond.fieldLink RX2 271 "TaxiRank$Order" "offeredAt" "I", Cond.fieldLink RX2 251 "TaxiRank$Cab" "order" "LTaxiRank$Order;", Cond.methodLink RX2 197 yJx4a65c_get_915e3, Cond.instanceMethod yJx4a65c_get_915e3, Cond.selects RJx4a65c yJx4a65c_get_915e3 yJx4a65c_get_915e3, Cond.code yJx4a65c_get_915e3 cJx4a65c_get_915e3 2 (some (.object "java/lang/Object")), Cond.methodLink RJx4a65c 118 yJ15_checkIndex_7cf53, Cond.static yJ15_checkIndex_7cf53, Cond.initialized RJ15, Cond.code yJ15_checkIndex_7cf53 cJ15_checkIndex_7cf53 2 (some .int), Cond.methodLink RJ15 105 yJ3_checkIndex_8e157, Cond.static yJ3_checkIndex_8e157]
def wsX2_order_r6 : List Cond := [Cond.initialized RJ3, Cond.code yJ3_checkIndex_8e157 cJ3_checkIndex_8e157 3 (some .int), Cond.methodLink RJx4a65c 123 yJx4a65c_elementData_915e3, Cond.instanceMethod yJx4a65c_elementData_915e3, Cond.selects RJx4a65c yJx4a65c_elementData_915e3 yJx4a65c_elementData_915e3, Cond.code yJx4a65c_elementData_915e3 cJx4a65c_elementData_915e3 2 (some (.object "java/lang/Object")), Cond.methodLink RX2 259 yX2_isLookedAt, Cond.instanceMethod yX2_isLookedAt, Cond.selects RX2 yX2_isLookedAt yX2_isLookedAt, Cond.code yX2_isLookedAt cX2_isLookedAt 2 (some .boolean), Cond.methodLink RX2 263 yX2_cabFor, Cond.instanceMethod yX2_cabFor, Cond.selects RX2 yX2_cabFor yX2_cabFor, Cond.code yX2_cabFor cX2_cabFor 7 (some (.object "TaxiRank$Cab")), Cond.classLink RX2 68 "TaxiRank$Cab", Cond.fieldLink RX2 101 "TaxiRank$Cab" "zone" "I", Cond.fieldLink RX2 138 "TaxiRank$Order" "from" "I", Cond.fieldLink RX2 243 "TaxiRank$Cab" "turn" "I", Cond.methodLink RX2 274 yX2_canBeOffered, Cond.static yX2_canBeOffered, Cond.code yX2_canBeOffered cX2_canBeOffered 2 (some .boolean), Cond.fieldLink RX2 208 "TaxiRank$Cab" "seats" "I", Cond.fieldLink RX2 281 "TaxiRank$Order" "passengers" "I", Cond.fieldLink RX2 284 "TaxiRank$Order" "refusers" "I"]
def wsX2_order_r7 : List Cond := [Cond.methodLink RX2 204 yX2_isIdle, Cond.static yX2_isIdle, Cond.code yX2_isIdle cX2_isIdle 1 (some .boolean), Cond.fieldLink RX2 80 "TaxiRank$Cab" "state" "I", Cond.methodLink RX2 287 yX2_refuserBit, Cond.static yX2_refuserBit, Cond.code yX2_refuserBit cX2_refuserBit 1 (some .int), Cond.fieldLink RX2 250 "TaxiRank$Cab" "number" "I", Cond.methodLink RX2 278 yX2_rankOfZone, Cond.instanceMethod yX2_rankOfZone, Cond.selects RX2 yX2_rankOfZone yX2_rankOfZone, Cond.code yX2_rankOfZone cX2_rankOfZone 3 (some .int), Cond.methodLink RX2 43 yX2_wayBetween, Cond.instanceMethod yX2_wayBetween, Cond.selects RX2 yX2_wayBetween yX2_wayBetween, Cond.code yX2_wayBetween cX2_wayBetween 4 (some .int), Cond.fieldLink RX2 9 "TaxiRank" "ways" "[I"]
def wsX2_order : List Cond := .code yX2_order cX2_order 6 (some .int) :: ((wsX2_order_r1 ++ (wsX2_order_r2 ++ (wsX2_order_r3 ++ (wsX2_order_r4 ++ (wsX2_order_r5 ++ (wsX2_order_r6 ++ wsX2_order_r7)))))) ++ wsX20 ++ wsX10 ++ wsJx4a65c0 ++ wsX00 ++ (vx_atS RX2 38 "java/lang/IllegalArgumentException" ["java/lang/RuntimeException", "java/lang/Exception"]).filter goodWord ++ (vx_atS RX2 67 "java/lang/IllegalStateException" ["java/lang/RuntimeException", "java/lang/Exception"]).filter goodWord ++ (vx_atS RX2 112 "java/lang/IndexOutOfBoundsException" ["java/lang/RuntimeException", "java/lang/Exception"]).filter goodWord)
def wsX2_accept_r1 : List Cond := [Cond.classLink RX2 63 "java/lang/IllegalStateException", Cond.initialized "java/lang/IllegalStateException", Cond.fieldLink RX2 101 "TaxiRank$Cab" "zone" "I", Cond.fieldLink RX2 138 "TaxiRank$Order" "from" "I", Cond.fieldLink RX2 80 "TaxiRank$Cab" "state" "I", Cond.fieldLink RX2 120 "TaxiRank" "time" "I", Cond.fieldLink RX2 141 "TaxiRank$Order" "due" "I", Cond.methodLink RX2 144 Lib.Math.max.name, Cond.static Lib.Math.max.name, Cond.initialized "java/lang/Math", Cond.code Lib.Math.max.name Lib.Math.max.code 2 (some .int), Cond.fieldLink RX2 149 "TaxiRank$Cab" "arrival" "I", Cond.fieldLink RX2 152 "TaxiRank$Order" "state" "I", Cond.methodLink RX2 76 yX2_cabNumbered, Cond.instanceMethod yX2_cabNumbered, Cond.selects RX2 yX2_cabNumbered yX2_cabNumbered, Cond.initialized RX2, Cond.code yX2_cabNumbered cX2_cabNumbered 2 (some (.object "TaxiRank$Cab")), Cond.classLink RX2 108 "java/lang/IndexOutOfBoundsException", Cond.initialized "java/lang/IndexOutOfBoundsException", Cond.fieldLink RX2 16 "TaxiRank" "cabs" "Ljava/util/ArrayList;", Cond.classLink RX2 68 "TaxiRank$Cab", Cond.methodLink RX2 59 yJx4a65c_size_8abf5, Cond.instanceMethod yJx4a65c_size_8abf5]
def wsX2_accept_r2 : List Cond := [Cond.selects RJx4a65c yJx4a65c_size_8abf5 yJx4a65c_size_8abf5, Cond.initialized RJx4a65c, Cond.code yJx4a65c_size_8abf5 cJx4a65c_size_8abf5 1 (some .int), Cond.fieldLink RJx4a65c 48 "java/util/ArrayList" "size" "I", Cond.methodLink RX2 197 yJx4a65c_get_915e3, Cond.instanceMethod yJx4a65c_get_915e3, Cond.selects RJx4a65c yJx4a65c_get_915e3 yJx4a65c_get_915e3, Cond.code yJx4a65c_get_915e3 cJx4a65c_get_915e3 2 (some (.object "java/lang/Object")), Cond.methodLink RJx4a65c 118 yJ15_checkIndex_7cf53, Cond.static yJ15_checkIndex_7cf53, Cond.initialized RJ15, Cond.code yJ15_checkIndex_7cf53 cJ15_checkIndex_7cf53 2 (some .int), Cond.methodLink RJ15 105 yJ3_checkIndex_8e157, Cond.static yJ3_checkIndex_8e157, Cond.initialized RJ3, Cond.code yJ3_checkIndex_8e157 cJ3_checkIndex_8e157 3 (some .int), Cond.methodLink RJx4a65c 123 yJx4a65c_elementData_915e3, Cond.instanceMethod yJx4a65c_elementData_915e3, Cond.selects RJx4a65c yJx4a65c_elementData_915e3 yJx4a65c_elementData_915e3, Cond.code yJx4a65c_elementData_915e3 cJx4a65c_elementData_915e3 2 (some (.object "java/lang/Object")), Cond.fieldLink RJx4a65c 9 "java/util/ArrayList" "elementData" "[Ljava/lang/Object;", Cond.methodLink RX2 132 yX2_offeredTo, Cond.static yX2_offeredTo, Cond.code yX2_offeredTo cX2_offeredTo 1 (some (.object "TaxiRank$Order"))]
def wsX2_accept_r3 : List Cond := [Cond.fieldLink RX2 251 "TaxiRank$Cab" "order" "LTaxiRank$Order;", Cond.methodLink RX2 43 yX2_wayBetween, Cond.instanceMethod yX2_wayBetween, Cond.selects RX2 yX2_wayBetween yX2_wayBetween, Cond.code yX2_wayBetween cX2_wayBetween 4 (some .int), Cond.fieldLink RX2 9 "TaxiRank" "ways" "[I", Cond.methodLink RX2 89 yX2_makeOffers, Cond.instanceMethod yX2_makeOffers, Cond.selects RX2 yX2_makeOffers yX2_makeOffers, Cond.code yX2_makeOffers cX2_makeOffers 3 none, Cond.methodLink RX2 255 yX2_makeNextOffer, Cond.instanceMethod yX2_makeNextOffer, Cond.selects RX2 yX2_makeNextOffer yX2_makeNextOffer, Cond.code yX2_makeNextOffer cX2_makeNextOffer 6 (some .boolean), Cond.fieldLink RX2 20 "TaxiRank" "orders" "Ljava/util/ArrayList;", Cond.classLink RX2 127 "TaxiRank$Order", Cond.fieldLink RX2 267 "TaxiRank$Order" "cab" "LTaxiRank$Cab;", Cond.fieldLink RX2 271 "TaxiRank$Order" "offeredAt" "I", Cond.methodLink RX2 259 yX2_isLookedAt, Cond.instanceMethod yX2_isLookedAt, Cond.selects RX2 yX2_isLookedAt yX2_isLookedAt, Cond.code yX2_isLookedAt cX2_isLookedAt 2 (some .boolean), Cond.methodLink RX2 263 yX2_cabFor, Cond.instanceMethod yX2_cabFor]
def wsX2_accept_r4 : List Cond := [Cond.selects RX2 yX2_cabFor yX2_cabFor, Cond.code yX2_cabFor cX2_cabFor 7 (some (.object "TaxiRank$Cab")), Cond.fieldLink RX2 243 "TaxiRank$Cab" "turn" "I", Cond.methodLink RX2 274 yX2_canBeOffered, Cond.static yX2_canBeOffered, Cond.code yX2_canBeOffered cX2_canBeOffered 2 (some .boolean), Cond.fieldLink RX2 208 "TaxiRank$Cab" "seats" "I", Cond.fieldLink RX2 281 "TaxiRank$Order" "passengers" "I", Cond.fieldLink RX2 284 "TaxiRank$Order" "refusers" "I", Cond.methodLink RX2 204 yX2_isIdle, Cond.static yX2_isIdle, Cond.code yX2_isIdle cX2_isIdle 1 (some .boolean), Cond.methodLink RX2 287 yX2_refuserBit, Cond.static yX2_refuserBit, Cond.code yX2_refuserBit cX2_refuserBit 1 (some .int), Cond.fieldLink RX2 250 "TaxiRank$Cab" "number" "I", Cond.methodLink RX2 278 yX2_rankOfZone, Cond.instanceMethod yX2_rankOfZone, Cond.selects RX2 yX2_rankOfZone yX2_rankOfZone, Cond.code yX2_rankOfZone cX2_rankOfZone 3 (some .int)]
def wsX2_accept : List Cond := .code yX2_accept cX2_accept 5 (some .int) :: ((wsX2_accept_r1 ++ (wsX2_accept_r2 ++ (wsX2_accept_r3 ++ wsX2_accept_r4))) ++ wsX00 ++ wsX10 ++ wsX20 ++ wsJx4a65c0 ++ (vx_atS RX2 67 "java/lang/IllegalStateException" ["java/lang/RuntimeException", "java/lang/Exception"]).filter goodWord ++ (vx_atS RX2 112 "java/lang/IndexOutOfBoundsException" ["java/lang/RuntimeException", "java/lang/Exception"]).filter goodWord)
def wsX2_refuse_r1 : List Cond := [Cond.classLink RX2 63 "java/lang/IllegalStateException", Cond.initialized "java/lang/IllegalStateException", Cond.fieldLink RX2 153 "TaxiRank$Order" "number" "I", Cond.methodLink RX2 76 yX2_cabNumbered, Cond.instanceMethod yX2_cabNumbered, Cond.selects RX2 yX2_cabNumbered yX2_cabNumbered, Cond.initialized RX2, Cond.code yX2_cabNumbered cX2_cabNumbered 2 (some (.object "TaxiRank$Cab")), Cond.classLink RX2 108 "java/lang/IndexOutOfBoundsException", Cond.initialized "java/lang/IndexOutOfBoundsException", Cond.fieldLink RX2 16 "TaxiRank" "cabs" "Ljava/util/ArrayList;", Cond.classLink RX2 68 "TaxiRank$Cab", Cond.methodLink RX2 59 yJx4a65c_size_8abf5, Cond.instanceMethod yJx4a65c_size_8abf5, Cond.selects RJx4a65c yJx4a65c_size_8abf5 yJx4a65c_size_8abf5, Cond.initialized RJx4a65c, Cond.code yJx4a65c_size_8abf5 cJx4a65c_size_8abf5 1 (some .int), Cond.fieldLink RJx4a65c 48 "java/util/ArrayList" "size" "I", Cond.methodLink RX2 197 yJx4a65c_get_915e3, Cond.instanceMethod yJx4a65c_get_915e3, Cond.selects RJx4a65c yJx4a65c_get_915e3 yJx4a65c_get_915e3, Cond.code yJx4a65c_get_915e3 cJx4a65c_get_915e3 2 (some (.object "java/lang/Object")), Cond.methodLink RJx4a65c 118 yJ15_checkIndex_7cf53, Cond.static yJ15_checkIndex_7cf53]
def wsX2_refuse_r2 : List Cond := [Cond.initialized RJ15, Cond.code yJ15_checkIndex_7cf53 cJ15_checkIndex_7cf53 2 (some .int), Cond.methodLink RJ15 105 yJ3_checkIndex_8e157, Cond.static yJ3_checkIndex_8e157, Cond.initialized RJ3, Cond.code yJ3_checkIndex_8e157 cJ3_checkIndex_8e157 3 (some .int), Cond.methodLink RJx4a65c 123 yJx4a65c_elementData_915e3, Cond.instanceMethod yJx4a65c_elementData_915e3, Cond.selects RJx4a65c yJx4a65c_elementData_915e3 yJx4a65c_elementData_915e3, Cond.code yJx4a65c_elementData_915e3 cJx4a65c_elementData_915e3 2 (some (.object "java/lang/Object")), Cond.fieldLink RJx4a65c 9 "java/util/ArrayList" "elementData" "[Ljava/lang/Object;", Cond.methodLink RX2 132 yX2_offeredTo, Cond.static yX2_offeredTo, Cond.code yX2_offeredTo cX2_offeredTo 1 (some (.object "TaxiRank$Order")), Cond.fieldLink RX2 80 "TaxiRank$Cab" "state" "I", Cond.fieldLink RX2 251 "TaxiRank$Cab" "order" "LTaxiRank$Order;", Cond.methodLink RX2 98 yX2_turnDown, Cond.instanceMethod yX2_turnDown, Cond.selects RX2 yX2_turnDown yX2_turnDown, Cond.code yX2_turnDown cX2_turnDown 3 none, Cond.fieldLink RX2 284 "TaxiRank$Order" "refusers" "I", Cond.fieldLink RX2 152 "TaxiRank$Order" "state" "I", Cond.fieldLink RX2 267 "TaxiRank$Order" "cab" "LTaxiRank$Cab;", Cond.methodLink RX2 287 yX2_refuserBit]
def wsX2_refuse_r3 : List Cond := [Cond.static yX2_refuserBit, Cond.code yX2_refuserBit cX2_refuserBit 1 (some .int), Cond.fieldLink RX2 250 "TaxiRank$Cab" "number" "I", Cond.methodLink RX2 85 yX2_joinQueue, Cond.instanceMethod yX2_joinQueue, Cond.selects RX2 yX2_joinQueue yX2_joinQueue, Cond.code yX2_joinQueue cX2_joinQueue 2 none, Cond.fieldLink RX2 240 "TaxiRank" "turnsGiven" "I", Cond.fieldLink RX2 243 "TaxiRank$Cab" "turn" "I", Cond.methodLink RX2 89 yX2_makeOffers, Cond.instanceMethod yX2_makeOffers, Cond.selects RX2 yX2_makeOffers yX2_makeOffers, Cond.code yX2_makeOffers cX2_makeOffers 3 none, Cond.methodLink RX2 255 yX2_makeNextOffer, Cond.instanceMethod yX2_makeNextOffer, Cond.selects RX2 yX2_makeNextOffer yX2_makeNextOffer, Cond.code yX2_makeNextOffer cX2_makeNextOffer 6 (some .boolean), Cond.fieldLink RX2 20 "TaxiRank" "orders" "Ljava/util/ArrayList;", Cond.classLink RX2 127 "TaxiRank$Order", Cond.fieldLink RX2 141 "TaxiRank$Order" "due" "I", Cond.fieldLink RX2 120 "TaxiRank" "time" "I", Cond.fieldLink RX2 271 "TaxiRank$Order" "offeredAt" "I", Cond.methodLink RX2 259 yX2_isLookedAt, Cond.instanceMethod yX2_isLookedAt]
def wsX2_refuse_r4 : List Cond := [Cond.selects RX2 yX2_isLookedAt yX2_isLookedAt, Cond.code yX2_isLookedAt cX2_isLookedAt 2 (some .boolean), Cond.methodLink RX2 263 yX2_cabFor, Cond.instanceMethod yX2_cabFor, Cond.selects RX2 yX2_cabFor yX2_cabFor, Cond.code yX2_cabFor cX2_cabFor 7 (some (.object "TaxiRank$Cab")), Cond.fieldLink RX2 101 "TaxiRank$Cab" "zone" "I", Cond.fieldLink RX2 138 "TaxiRank$Order" "from" "I", Cond.methodLink RX2 274 yX2_canBeOffered, Cond.static yX2_canBeOffered, Cond.code yX2_canBeOffered cX2_canBeOffered 2 (some .boolean), Cond.fieldLink RX2 208 "TaxiRank$Cab" "seats" "I", Cond.fieldLink RX2 281 "TaxiRank$Order" "passengers" "I", Cond.methodLink RX2 204 yX2_isIdle, Cond.static yX2_isIdle, Cond.code yX2_isIdle cX2_isIdle 1 (some .boolean), Cond.methodLink RX2 278 yX2_rankOfZone, Cond.instanceMethod yX2_rankOfZone, Cond.selects RX2 yX2_rankOfZone yX2_rankOfZone, Cond.code yX2_rankOfZone cX2_rankOfZone 3 (some .int), Cond.methodLink RX2 43 yX2_wayBetween, Cond.instanceMethod yX2_wayBetween, Cond.selects RX2 yX2_wayBetween yX2_wayBetween, Cond.code yX2_wayBetween cX2_wayBetween 4 (some .int)]
def wsX2_refuse_r5 : List Cond := [Cond.fieldLink RX2 9 "TaxiRank" "ways" "[I"]
def wsX2_refuse : List Cond := .code yX2_refuse cX2_refuse 4 (some .int) :: ((wsX2_refuse_r1 ++ (wsX2_refuse_r2 ++ (wsX2_refuse_r3 ++ (wsX2_refuse_r4 ++ wsX2_refuse_r5)))) ++ wsX10 ++ wsX20 ++ wsJx4a65c0 ++ wsX00 ++ (vx_atS RX2 67 "java/lang/IllegalStateException" ["java/lang/RuntimeException", "java/lang/Exception"]).filter goodWord ++ (vx_atS RX2 112 "java/lang/IndexOutOfBoundsException" ["java/lang/RuntimeException", "java/lang/Exception"]).filter goodWord)
def wsX2_orderNumbered_r1 : List Cond := [Cond.classLink RX2 108 "java/lang/IndexOutOfBoundsException", Cond.initialized "java/lang/IndexOutOfBoundsException", Cond.fieldLink RX2 20 "TaxiRank" "orders" "Ljava/util/ArrayList;", Cond.classLink RX2 127 "TaxiRank$Order", Cond.methodLink RX2 59 yJx4a65c_size_8abf5, Cond.instanceMethod yJx4a65c_size_8abf5, Cond.selects RJx4a65c yJx4a65c_size_8abf5 yJx4a65c_size_8abf5, Cond.initialized RJx4a65c, Cond.code yJx4a65c_size_8abf5 cJx4a65c_size_8abf5 1 (some .int), Cond.fieldLink RJx4a65c 48 "java/util/ArrayList" "size" "I", Cond.methodLink RX2 197 yJx4a65c_get_915e3, Cond.instanceMethod yJx4a65c_get_915e3, Cond.selects RJx4a65c yJx4a65c_get_915e3 yJx4a65c_get_915e3, Cond.code yJx4a65c_get_915e3 cJx4a65c_get_915e3 2 (some (.object "java/lang/Object")), Cond.methodLink RJx4a65c 118 yJ15_checkIndex_7cf53, Cond.static yJ15_checkIndex_7cf53, Cond.initialized RJ15, Cond.code yJ15_checkIndex_7cf53 cJ15_checkIndex_7cf53 2 (some .int), Cond.methodLink RJ15 105 yJ3_checkIndex_8e157, Cond.static yJ3_checkIndex_8e157, Cond.initialized RJ3, Cond.code yJ3_checkIndex_8e157 cJ3_checkIndex_8e157 3 (some .int), Cond.methodLink RJx4a65c 123 yJx4a65c_elementData_915e3, Cond.instanceMethod yJx4a65c_elementData_915e3]
def wsX2_orderNumbered_r2 : List Cond := [Cond.selects RJx4a65c yJx4a65c_elementData_915e3 yJx4a65c_elementData_915e3, Cond.code yJx4a65c_elementData_915e3 cJx4a65c_elementData_915e3 2 (some (.object "java/lang/Object")), Cond.fieldLink RJx4a65c 9 "java/util/ArrayList" "elementData" "[Ljava/lang/Object;"]
def wsX2_orderNumbered : List Cond := .code yX2_orderNumbered cX2_orderNumbered 2 (some (.object "TaxiRank$Order")) :: ((wsX2_orderNumbered_r1 ++ wsX2_orderNumbered_r2) ++ wsX20 ++ wsJx4a65c0 ++ (vx_atS RX2 112 "java/lang/IndexOutOfBoundsException" ["java/lang/RuntimeException", "java/lang/Exception"]).filter goodWord)
def wsX2_releaseCab : List Cond := .code yX2_releaseCab cX2_releaseCab 3 none :: ([.fieldLink RX2 267 "TaxiRank$Order" "cab" "LTaxiRank$Cab;", .fieldLink RX2 251 "TaxiRank$Cab" "order" "LTaxiRank$Order;", .fieldLink RX2 80 "TaxiRank$Cab" "state" "I", .methodLink RX2 85 yX2_joinQueue, .instanceMethod yX2_joinQueue, .selects RX2 yX2_joinQueue yX2_joinQueue, .initialized RX2, .code yX2_joinQueue cX2_joinQueue 2 none, .fieldLink RX2 240 "TaxiRank" "turnsGiven" "I", .fieldLink RX2 243 "TaxiRank$Cab" "turn" "I"] ++ wsX10 ++ wsX00 ++ wsX20)
def wsX2_cancel_r1 : List Cond := [Cond.classLink RX2 63 "java/lang/IllegalStateException", Cond.initialized "java/lang/IllegalStateException", Cond.fieldLink RX2 152 "TaxiRank$Order" "state" "I", Cond.methodLink RX2 156 yX2_orderNumbered, Cond.instanceMethod yX2_orderNumbered, Cond.selects RX2 yX2_orderNumbered yX2_orderNumbered, Cond.initialized RX2, Cond.code yX2_orderNumbered cX2_orderNumbered 2 (some (.object "TaxiRank$Order")), Cond.classLink RX2 108 "java/lang/IndexOutOfBoundsException", Cond.initialized "java/lang/IndexOutOfBoundsException", Cond.fieldLink RX2 20 "TaxiRank" "orders" "Ljava/util/ArrayList;", Cond.classLink RX2 127 "TaxiRank$Order", Cond.methodLink RX2 59 yJx4a65c_size_8abf5, Cond.instanceMethod yJx4a65c_size_8abf5, Cond.selects RJx4a65c yJx4a65c_size_8abf5 yJx4a65c_size_8abf5, Cond.initialized RJx4a65c, Cond.code yJx4a65c_size_8abf5 cJx4a65c_size_8abf5 1 (some .int), Cond.fieldLink RJx4a65c 48 "java/util/ArrayList" "size" "I", Cond.methodLink RX2 197 yJx4a65c_get_915e3, Cond.instanceMethod yJx4a65c_get_915e3, Cond.selects RJx4a65c yJx4a65c_get_915e3 yJx4a65c_get_915e3, Cond.code yJx4a65c_get_915e3 cJx4a65c_get_915e3 2 (some (.object "java/lang/Object")), Cond.methodLink RJx4a65c 118 yJ15_checkIndex_7cf53, Cond.static yJ15_checkIndex_7cf53]
def wsX2_cancel_r2 : List Cond := [Cond.initialized RJ15, Cond.code yJ15_checkIndex_7cf53 cJ15_checkIndex_7cf53 2 (some .int), Cond.methodLink RJ15 105 yJ3_checkIndex_8e157, Cond.static yJ3_checkIndex_8e157, Cond.initialized RJ3, Cond.code yJ3_checkIndex_8e157 cJ3_checkIndex_8e157 3 (some .int), Cond.methodLink RJx4a65c 123 yJx4a65c_elementData_915e3, Cond.instanceMethod yJx4a65c_elementData_915e3, Cond.selects RJx4a65c yJx4a65c_elementData_915e3 yJx4a65c_elementData_915e3, Cond.code yJx4a65c_elementData_915e3 cJx4a65c_elementData_915e3 2 (some (.object "java/lang/Object")), Cond.fieldLink RJx4a65c 9 "java/util/ArrayList" "elementData" "[Ljava/lang/Object;", Cond.methodLink RX2 162 yX2_releaseCab, Cond.instanceMethod yX2_releaseCab, Cond.selects RX2 yX2_releaseCab yX2_releaseCab, Cond.code yX2_releaseCab cX2_releaseCab 3 none, Cond.fieldLink RX2 267 "TaxiRank$Order" "cab" "LTaxiRank$Cab;", Cond.fieldLink RX2 251 "TaxiRank$Cab" "order" "LTaxiRank$Order;", Cond.fieldLink RX2 80 "TaxiRank$Cab" "state" "I", Cond.methodLink RX2 85 yX2_joinQueue, Cond.instanceMethod yX2_joinQueue, Cond.selects RX2 yX2_joinQueue yX2_joinQueue, Cond.code yX2_joinQueue cX2_joinQueue 2 none, Cond.fieldLink RX2 240 "TaxiRank" "turnsGiven" "I", Cond.fieldLink RX2 243 "TaxiRank$Cab" "turn" "I"]
def wsX2_cancel_r3 : List Cond := [Cond.methodLink RX2 89 yX2_makeOffers, Cond.instanceMethod yX2_makeOffers, Cond.selects RX2 yX2_makeOffers yX2_makeOffers, Cond.code yX2_makeOffers cX2_makeOffers 3 none, Cond.fieldLink RX2 16 "TaxiRank" "cabs" "Ljava/util/ArrayList;", Cond.methodLink RX2 255 yX2_makeNextOffer, Cond.instanceMethod yX2_makeNextOffer, Cond.selects RX2 yX2_makeNextOffer yX2_makeNextOffer, Cond.code yX2_makeNextOffer cX2_makeNextOffer 6 (some .boolean), Cond.fieldLink RX2 141 "TaxiRank$Order" "due" "I", Cond.fieldLink RX2 120 "TaxiRank" "time" "I", Cond.fieldLink RX2 271 "TaxiRank$Order" "offeredAt" "I", Cond.methodLink RX2 259 yX2_isLookedAt, Cond.instanceMethod yX2_isLookedAt, Cond.selects RX2 yX2_isLookedAt yX2_isLookedAt, Cond.code yX2_isLookedAt cX2_isLookedAt 2 (some .boolean), Cond.methodLink RX2 263 yX2_cabFor, Cond.instanceMethod yX2_cabFor, Cond.selects RX2 yX2_cabFor yX2_cabFor, Cond.code yX2_cabFor cX2_cabFor 7 (some (.object "TaxiRank$Cab")), Cond.classLink RX2 68 "TaxiRank$Cab", Cond.fieldLink RX2 101 "TaxiRank$Cab" "zone" "I", Cond.fieldLink RX2 138 "TaxiRank$Order" "from" "I", Cond.methodLink RX2 274 yX2_canBeOffered]
def wsX2_cancel_r4 : List Cond := [Cond.static yX2_canBeOffered, Cond.code yX2_canBeOffered cX2_canBeOffered 2 (some .boolean), Cond.fieldLink RX2 208 "TaxiRank$Cab" "seats" "I", Cond.fieldLink RX2 281 "TaxiRank$Order" "passengers" "I", Cond.fieldLink RX2 284 "TaxiRank$Order" "refusers" "I", Cond.methodLink RX2 204 yX2_isIdle, Cond.static yX2_isIdle, Cond.code yX2_isIdle cX2_isIdle 1 (some .boolean), Cond.methodLink RX2 287 yX2_refuserBit, Cond.static yX2_refuserBit, Cond.code yX2_refuserBit cX2_refuserBit 1 (some .int), Cond.fieldLink RX2 250 "TaxiRank$Cab" "number" "I", Cond.methodLink RX2 278 yX2_rankOfZone, Cond.instanceMethod yX2_rankOfZone, Cond.selects RX2 yX2_rankOfZone yX2_rankOfZone, Cond.code yX2_rankOfZone cX2_rankOfZone 3 (some .int), Cond.methodLink RX2 43 yX2_wayBetween, Cond.instanceMethod yX2_wayBetween, Cond.selects RX2 yX2_wayBetween yX2_wayBetween, Cond.code yX2_wayBetween cX2_wayBetween 4 (some .int), Cond.fieldLink RX2 9 "TaxiRank" "ways" "[I"]
def wsX2_cancel : List Cond := .code yX2_cancel cX2_cancel 4 (some .int) :: ((wsX2_cancel_r1 ++ (wsX2_cancel_r2 ++ (wsX2_cancel_r3 ++ wsX2_cancel_r4))) ++ wsX10 ++ wsX20 ++ wsJx4a65c0 ++ wsX00 ++ (vx_atS RX2 67 "java/lang/IllegalStateException" ["java/lang/RuntimeException", "java/lang/Exception"]).filter goodWord ++ (vx_atS RX2 112 "java/lang/IndexOutOfBoundsException" ["java/lang/RuntimeException", "java/lang/Exception"]).filter goodWord)
def wsJ6_bitCount_0f7a4 : List Cond := .code yJ6_bitCount_0f7a4 cJ6_bitCount_0f7a4 1 (some .int) :: ([.constant RJ6 265 (1431655765), .constant RJ6 266 (858993459), .constant RJ6 267 (252645135)])
def wsX2_orderDetail : List Cond := .code yX2_orderDetail cX2_orderDetail 2 (some .int) :: ([.fieldLink RX2 152 "TaxiRank$Order" "state" "I", .fieldLink RX2 267 "TaxiRank$Order" "cab" "LTaxiRank$Cab;", .fieldLink RX2 250 "TaxiRank$Cab" "number" "I", .fieldLink RX2 201 "TaxiRank$Order" "begunAt" "I", .fieldLink RX2 326 "TaxiRank$Order" "doneAt" "I", .fieldLink RX2 284 "TaxiRank$Order" "refusers" "I", .methodLink RX2 329 yJ6_bitCount_0f7a4, .static yJ6_bitCount_0f7a4, .initialized RJ6, .code yJ6_bitCount_0f7a4 cJ6_bitCount_0f7a4 1 (some .int), .constant RJ6 265 (1431655765), .constant RJ6 266 (858993459), .constant RJ6 267 (252645135)] ++ wsX10 ++ wsX00)
def wsX2_told_r1 : List Cond := [Cond.classLink RX2 108 "java/lang/IndexOutOfBoundsException", Cond.initialized "java/lang/IndexOutOfBoundsException", Cond.methodLink RX2 156 yX2_orderNumbered, Cond.instanceMethod yX2_orderNumbered, Cond.selects RX2 yX2_orderNumbered yX2_orderNumbered, Cond.initialized RX2, Cond.code yX2_orderNumbered cX2_orderNumbered 2 (some (.object "TaxiRank$Order")), Cond.fieldLink RX2 20 "TaxiRank" "orders" "Ljava/util/ArrayList;", Cond.classLink RX2 127 "TaxiRank$Order", Cond.methodLink RX2 59 yJx4a65c_size_8abf5, Cond.instanceMethod yJx4a65c_size_8abf5, Cond.selects RJx4a65c yJx4a65c_size_8abf5 yJx4a65c_size_8abf5, Cond.initialized RJx4a65c, Cond.code yJx4a65c_size_8abf5 cJx4a65c_size_8abf5 1 (some .int), Cond.fieldLink RJx4a65c 48 "java/util/ArrayList" "size" "I", Cond.methodLink RX2 197 yJx4a65c_get_915e3, Cond.instanceMethod yJx4a65c_get_915e3, Cond.selects RJx4a65c yJx4a65c_get_915e3 yJx4a65c_get_915e3, Cond.code yJx4a65c_get_915e3 cJx4a65c_get_915e3 2 (some (.object "java/lang/Object")), Cond.methodLink RJx4a65c 118 yJ15_checkIndex_7cf53, Cond.static yJ15_checkIndex_7cf53, Cond.initialized RJ15, Cond.code yJ15_checkIndex_7cf53 cJ15_checkIndex_7cf53 2 (some .int), Cond.methodLink RJ15 105 yJ3_checkIndex_8e157]
def wsX2_told_r2 : List Cond := [Cond.static yJ3_checkIndex_8e157, Cond.initialized RJ3, Cond.code yJ3_checkIndex_8e157 cJ3_checkIndex_8e157 3 (some .int), Cond.methodLink RJx4a65c 123 yJx4a65c_elementData_915e3, Cond.instanceMethod yJx4a65c_elementData_915e3, Cond.selects RJx4a65c yJx4a65c_elementData_915e3 yJx4a65c_elementData_915e3, Cond.code yJx4a65c_elementData_915e3 cJx4a65c_elementData_915e3 2 (some (.object "java/lang/Object")), Cond.fieldLink RJx4a65c 9 "java/util/ArrayList" "elementData" "[Ljava/lang/Object;", Cond.methodLink RX2 166 yX2_orderDetail, Cond.static yX2_orderDetail, Cond.code yX2_orderDetail cX2_orderDetail 2 (some .int), Cond.fieldLink RX2 152 "TaxiRank$Order" "state" "I", Cond.fieldLink RX2 267 "TaxiRank$Order" "cab" "LTaxiRank$Cab;", Cond.fieldLink RX2 250 "TaxiRank$Cab" "number" "I", Cond.fieldLink RX2 201 "TaxiRank$Order" "begunAt" "I", Cond.fieldLink RX2 326 "TaxiRank$Order" "doneAt" "I", Cond.fieldLink RX2 284 "TaxiRank$Order" "refusers" "I", Cond.methodLink RX2 329 yJ6_bitCount_0f7a4, Cond.static yJ6_bitCount_0f7a4, Cond.initialized RJ6, Cond.code yJ6_bitCount_0f7a4 cJ6_bitCount_0f7a4 1 (some .int), Cond.constant RJ6 265 (1431655765), Cond.constant RJ6 266 (858993459), Cond.constant RJ6 267 (252645135)]
def wsX2_told : List Cond := .code yX2_told cX2_told 4 (some .int) :: ((wsX2_told_r1 ++ wsX2_told_r2) ++ wsX20 ++ wsJx4a65c0 ++ wsX10 ++ wsX00 ++ (vx_atS RX2 112 "java/lang/IndexOutOfBoundsException" ["java/lang/RuntimeException", "java/lang/Exception"]).filter goodWord)
def wsX2_refuseOldOffers_r1 : List Cond := [Cond.fieldLink RX2 16 "TaxiRank" "cabs" "Ljava/util/ArrayList;", Cond.classLink RX2 68 "TaxiRank$Cab", Cond.fieldLink RX2 120 "TaxiRank" "time" "I", Cond.fieldLink RX2 271 "TaxiRank$Order" "offeredAt" "I", Cond.methodLink RX2 59 yJx4a65c_size_8abf5, Cond.instanceMethod yJx4a65c_size_8abf5, Cond.selects RJx4a65c yJx4a65c_size_8abf5 yJx4a65c_size_8abf5, Cond.initialized RJx4a65c, Cond.code yJx4a65c_size_8abf5 cJx4a65c_size_8abf5 1 (some .int), Cond.fieldLink RJx4a65c 48 "java/util/ArrayList" "size" "I", Cond.methodLink RX2 197 yJx4a65c_get_915e3, Cond.instanceMethod yJx4a65c_get_915e3, Cond.selects RJx4a65c yJx4a65c_get_915e3 yJx4a65c_get_915e3, Cond.code yJx4a65c_get_915e3 cJx4a65c_get_915e3 2 (some (.object "java/lang/Object")), Cond.methodLink RJx4a65c 118 yJ15_checkIndex_7cf53, Cond.static yJ15_checkIndex_7cf53, Cond.initialized RJ15, Cond.code yJ15_checkIndex_7cf53 cJ15_checkIndex_7cf53 2 (some .int), Cond.methodLink RJ15 105 yJ3_checkIndex_8e157, Cond.static yJ3_checkIndex_8e157, Cond.initialized RJ3, Cond.code yJ3_checkIndex_8e157 cJ3_checkIndex_8e157 3 (some .int), Cond.methodLink RJx4a65c 123 yJx4a65c_elementData_915e3, Cond.instanceMethod yJx4a65c_elementData_915e3]
def wsX2_refuseOldOffers_r2 : List Cond := [Cond.selects RJx4a65c yJx4a65c_elementData_915e3 yJx4a65c_elementData_915e3, Cond.code yJx4a65c_elementData_915e3 cJx4a65c_elementData_915e3 2 (some (.object "java/lang/Object")), Cond.fieldLink RJx4a65c 9 "java/util/ArrayList" "elementData" "[Ljava/lang/Object;", Cond.methodLink RX2 132 yX2_offeredTo, Cond.static yX2_offeredTo, Cond.initialized RX2, Cond.code yX2_offeredTo cX2_offeredTo 1 (some (.object "TaxiRank$Order")), Cond.fieldLink RX2 80 "TaxiRank$Cab" "state" "I", Cond.fieldLink RX2 251 "TaxiRank$Cab" "order" "LTaxiRank$Order;", Cond.methodLink RX2 98 yX2_turnDown, Cond.instanceMethod yX2_turnDown, Cond.selects RX2 yX2_turnDown yX2_turnDown, Cond.code yX2_turnDown cX2_turnDown 3 none, Cond.fieldLink RX2 284 "TaxiRank$Order" "refusers" "I", Cond.fieldLink RX2 152 "TaxiRank$Order" "state" "I", Cond.fieldLink RX2 267 "TaxiRank$Order" "cab" "LTaxiRank$Cab;", Cond.methodLink RX2 287 yX2_refuserBit, Cond.static yX2_refuserBit, Cond.code yX2_refuserBit cX2_refuserBit 1 (some .int), Cond.fieldLink RX2 250 "TaxiRank$Cab" "number" "I", Cond.methodLink RX2 85 yX2_joinQueue, Cond.instanceMethod yX2_joinQueue, Cond.selects RX2 yX2_joinQueue yX2_joinQueue, Cond.code yX2_joinQueue cX2_joinQueue 2 none]
def wsX2_refuseOldOffers_r3 : List Cond := [Cond.fieldLink RX2 240 "TaxiRank" "turnsGiven" "I", Cond.fieldLink RX2 243 "TaxiRank$Cab" "turn" "I"]
def wsX2_refuseOldOffers : List Cond := .code yX2_refuseOldOffers cX2_refuseOldOffers 4 none :: ((wsX2_refuseOldOffers_r1 ++ (wsX2_refuseOldOffers_r2 ++ wsX2_refuseOldOffers_r3)) ++ wsX20 ++ wsX10 ++ wsJx4a65c0 ++ wsX00)
def wsX2_meterFare : List Cond := .code yX2_meterFare cX2_meterFare 3 none :: ([.fieldLink RX2 23 "TaxiRank" "baseRate" "I", .fieldLink RX2 310 "TaxiRank$Order" "base" "I", .fieldLink RX2 27 "TaxiRank" "wayRate" "I", .fieldLink RX2 313 "TaxiRank$Order" "way" "I", .fieldLink RX2 120 "TaxiRank" "time" "I", .fieldLink RX2 141 "TaxiRank$Order" "due" "I", .methodLink RX2 211 Lib.Math.min.name, .static Lib.Math.min.name, .initialized "java/lang/Math", .code Lib.Math.min.name Lib.Math.min.code 2 (some .int), .fieldLink RX2 316 "TaxiRank$Order" "waiting" "I", .fieldLink RX2 319 "TaxiRank$Order" "night" "I"] ++ wsX20 ++ wsX10)
def wsX2_beginRide_r1 : List Cond := [Cond.fieldLink RX2 138 "TaxiRank$Order" "from" "I", Cond.fieldLink RX2 303 "TaxiRank$Order" "to" "I", Cond.fieldLink RX2 80 "TaxiRank$Cab" "state" "I", Cond.fieldLink RX2 101 "TaxiRank$Cab" "zone" "I", Cond.fieldLink RX2 120 "TaxiRank" "time" "I", Cond.fieldLink RX2 149 "TaxiRank$Cab" "arrival" "I", Cond.fieldLink RX2 152 "TaxiRank$Order" "state" "I", Cond.fieldLink RX2 201 "TaxiRank$Order" "begunAt" "I", Cond.methodLink RX2 43 yX2_wayBetween, Cond.instanceMethod yX2_wayBetween, Cond.selects RX2 yX2_wayBetween yX2_wayBetween, Cond.initialized RX2, Cond.code yX2_wayBetween cX2_wayBetween 4 (some .int), Cond.fieldLink RX2 9 "TaxiRank" "ways" "[I", Cond.methodLink RX2 306 yX2_meterFare, Cond.instanceMethod yX2_meterFare, Cond.selects RX2 yX2_meterFare yX2_meterFare, Cond.code yX2_meterFare cX2_meterFare 3 none, Cond.fieldLink RX2 23 "TaxiRank" "baseRate" "I", Cond.fieldLink RX2 310 "TaxiRank$Order" "base" "I", Cond.fieldLink RX2 27 "TaxiRank" "wayRate" "I", Cond.fieldLink RX2 313 "TaxiRank$Order" "way" "I", Cond.fieldLink RX2 141 "TaxiRank$Order" "due" "I", Cond.methodLink RX2 211 Lib.Math.min.name]
def wsX2_beginRide_r2 : List Cond := [Cond.static Lib.Math.min.name, Cond.initialized "java/lang/Math", Cond.code Lib.Math.min.name Lib.Math.min.code 2 (some .int), Cond.fieldLink RX2 316 "TaxiRank$Order" "waiting" "I", Cond.fieldLink RX2 319 "TaxiRank$Order" "night" "I"]
def wsX2_beginRide : List Cond := .code yX2_beginRide cX2_beginRide 4 none :: ((wsX2_beginRide_r1 ++ wsX2_beginRide_r2) ++ wsX10 ++ wsX00 ++ wsX20)
def wsX2_wholeFare : List Cond := .code yX2_wholeFare cX2_wholeFare 1 (some .int) :: ([.fieldLink RX2 310 "TaxiRank$Order" "base" "I", .fieldLink RX2 313 "TaxiRank$Order" "way" "I", .fieldLink RX2 316 "TaxiRank$Order" "waiting" "I", .fieldLink RX2 319 "TaxiRank$Order" "night" "I"] ++ wsX10)
def wsX2_endRide : List Cond := .code yX2_endRide cX2_endRide 5 none :: ([.fieldLink RX2 194 "TaxiRank$Cab" "kept" "I", .fieldLink RX2 193 "TaxiRank$Cab" "due" "I", .fieldLink RX2 303 "TaxiRank$Order" "to" "I", .fieldLink RX2 101 "TaxiRank$Cab" "zone" "I", .fieldLink RX2 251 "TaxiRank$Cab" "order" "LTaxiRank$Order;", .fieldLink RX2 152 "TaxiRank$Order" "state" "I", .fieldLink RX2 120 "TaxiRank" "time" "I", .fieldLink RX2 326 "TaxiRank$Order" "doneAt" "I", .methodLink RX2 322 yX2_wholeFare, .static yX2_wholeFare, .initialized RX2, .code yX2_wholeFare cX2_wholeFare 1 (some .int), .fieldLink RX2 310 "TaxiRank$Order" "base" "I", .fieldLink RX2 313 "TaxiRank$Order" "way" "I", .fieldLink RX2 316 "TaxiRank$Order" "waiting" "I", .fieldLink RX2 319 "TaxiRank$Order" "night" "I", .methodLink RX2 85 yX2_joinQueue, .instanceMethod yX2_joinQueue, .selects RX2 yX2_joinQueue yX2_joinQueue, .code yX2_joinQueue cX2_joinQueue 2 none, .fieldLink RX2 80 "TaxiRank$Cab" "state" "I", .fieldLink RX2 240 "TaxiRank" "turnsGiven" "I", .fieldLink RX2 243 "TaxiRank$Cab" "turn" "I"] ++ wsX00 ++ wsX10 ++ wsX20)
def wsX2_bringCabsOn_r1 : List Cond := [Cond.fieldLink RX2 16 "TaxiRank" "cabs" "Ljava/util/ArrayList;", Cond.classLink RX2 68 "TaxiRank$Cab", Cond.fieldLink RX2 251 "TaxiRank$Cab" "order" "LTaxiRank$Order;", Cond.fieldLink RX2 120 "TaxiRank" "time" "I", Cond.fieldLink RX2 149 "TaxiRank$Cab" "arrival" "I", Cond.fieldLink RX2 80 "TaxiRank$Cab" "state" "I", Cond.methodLink RX2 59 yJx4a65c_size_8abf5, Cond.instanceMethod yJx4a65c_size_8abf5, Cond.selects RJx4a65c yJx4a65c_size_8abf5 yJx4a65c_size_8abf5, Cond.initialized RJx4a65c, Cond.code yJx4a65c_size_8abf5 cJx4a65c_size_8abf5 1 (some .int), Cond.fieldLink RJx4a65c 48 "java/util/ArrayList" "size" "I", Cond.methodLink RX2 197 yJx4a65c_get_915e3, Cond.instanceMethod yJx4a65c_get_915e3, Cond.selects RJx4a65c yJx4a65c_get_915e3 yJx4a65c_get_915e3, Cond.code yJx4a65c_get_915e3 cJx4a65c_get_915e3 2 (some (.object "java/lang/Object")), Cond.methodLink RJx4a65c 118 yJ15_checkIndex_7cf53, Cond.static yJ15_checkIndex_7cf53, Cond.initialized RJ15, Cond.code yJ15_checkIndex_7cf53 cJ15_checkIndex_7cf53 2 (some .int), Cond.methodLink RJ15 105 yJ3_checkIndex_8e157, Cond.static yJ3_checkIndex_8e157, Cond.initialized RJ3, Cond.code yJ3_checkIndex_8e157 cJ3_checkIndex_8e157 3 (some .int)]
def wsX2_bringCabsOn_r2 : List Cond := [Cond.methodLink RJx4a65c 123 yJx4a65c_elementData_915e3, Cond.instanceMethod yJx4a65c_elementData_915e3, Cond.selects RJx4a65c yJx4a65c_elementData_915e3 yJx4a65c_elementData_915e3, Cond.code yJx4a65c_elementData_915e3 cJx4a65c_elementData_915e3 2 (some (.object "java/lang/Object")), Cond.fieldLink RJx4a65c 9 "java/util/ArrayList" "elementData" "[Ljava/lang/Object;", Cond.methodLink RX2 296 yX2_beginRide, Cond.instanceMethod yX2_beginRide, Cond.selects RX2 yX2_beginRide yX2_beginRide, Cond.initialized RX2, Cond.code yX2_beginRide cX2_beginRide 4 none, Cond.fieldLink RX2 138 "TaxiRank$Order" "from" "I", Cond.fieldLink RX2 303 "TaxiRank$Order" "to" "I", Cond.fieldLink RX2 101 "TaxiRank$Cab" "zone" "I", Cond.fieldLink RX2 152 "TaxiRank$Order" "state" "I", Cond.fieldLink RX2 201 "TaxiRank$Order" "begunAt" "I", Cond.methodLink RX2 43 yX2_wayBetween, Cond.instanceMethod yX2_wayBetween, Cond.selects RX2 yX2_wayBetween yX2_wayBetween, Cond.code yX2_wayBetween cX2_wayBetween 4 (some .int), Cond.fieldLink RX2 9 "TaxiRank" "ways" "[I", Cond.methodLink RX2 306 yX2_meterFare, Cond.instanceMethod yX2_meterFare, Cond.selects RX2 yX2_meterFare yX2_meterFare, Cond.code yX2_meterFare cX2_meterFare 3 none]
def wsX2_bringCabsOn_r3 : List Cond := [Cond.fieldLink RX2 23 "TaxiRank" "baseRate" "I", Cond.fieldLink RX2 310 "TaxiRank$Order" "base" "I", Cond.fieldLink RX2 27 "TaxiRank" "wayRate" "I", Cond.fieldLink RX2 313 "TaxiRank$Order" "way" "I", Cond.fieldLink RX2 141 "TaxiRank$Order" "due" "I", Cond.methodLink RX2 211 Lib.Math.min.name, Cond.static Lib.Math.min.name, Cond.initialized "java/lang/Math", Cond.code Lib.Math.min.name Lib.Math.min.code 2 (some .int), Cond.fieldLink RX2 316 "TaxiRank$Order" "waiting" "I", Cond.fieldLink RX2 319 "TaxiRank$Order" "night" "I", Cond.methodLink RX2 300 yX2_endRide, Cond.instanceMethod yX2_endRide, Cond.selects RX2 yX2_endRide yX2_endRide, Cond.code yX2_endRide cX2_endRide 5 none, Cond.fieldLink RX2 194 "TaxiRank$Cab" "kept" "I", Cond.fieldLink RX2 193 "TaxiRank$Cab" "due" "I", Cond.fieldLink RX2 326 "TaxiRank$Order" "doneAt" "I", Cond.methodLink RX2 322 yX2_wholeFare, Cond.static yX2_wholeFare, Cond.code yX2_wholeFare cX2_wholeFare 1 (some .int), Cond.methodLink RX2 85 yX2_joinQueue, Cond.instanceMethod yX2_joinQueue, Cond.selects RX2 yX2_joinQueue yX2_joinQueue]
def wsX2_bringCabsOn_r4 : List Cond := [Cond.code yX2_joinQueue cX2_joinQueue 2 none, Cond.fieldLink RX2 240 "TaxiRank" "turnsGiven" "I", Cond.fieldLink RX2 243 "TaxiRank$Cab" "turn" "I"]
def wsX2_bringCabsOn : List Cond := .code yX2_bringCabsOn cX2_bringCabsOn 5 (some .int) :: ((wsX2_bringCabsOn_r1 ++ (wsX2_bringCabsOn_r2 ++ (wsX2_bringCabsOn_r3 ++ wsX2_bringCabsOn_r4))) ++ wsX20 ++ wsX00 ++ wsJx4a65c0 ++ wsX10)
def wsX2_passMinute_r1 : List Cond := [Cond.fieldLink RX2 120 "TaxiRank" "time" "I", Cond.methodLink RX2 290 yX2_refuseOldOffers, Cond.instanceMethod yX2_refuseOldOffers, Cond.selects RX2 yX2_refuseOldOffers yX2_refuseOldOffers, Cond.initialized RX2, Cond.code yX2_refuseOldOffers cX2_refuseOldOffers 4 none, Cond.fieldLink RX2 16 "TaxiRank" "cabs" "Ljava/util/ArrayList;", Cond.classLink RX2 68 "TaxiRank$Cab", Cond.fieldLink RX2 271 "TaxiRank$Order" "offeredAt" "I", Cond.methodLink RX2 59 yJx4a65c_size_8abf5, Cond.instanceMethod yJx4a65c_size_8abf5, Cond.selects RJx4a65c yJx4a65c_size_8abf5 yJx4a65c_size_8abf5, Cond.initialized RJx4a65c, Cond.code yJx4a65c_size_8abf5 cJx4a65c_size_8abf5 1 (some .int), Cond.fieldLink RJx4a65c 48 "java/util/ArrayList" "size" "I", Cond.methodLink RX2 197 yJx4a65c_get_915e3, Cond.instanceMethod yJx4a65c_get_915e3, Cond.selects RJx4a65c yJx4a65c_get_915e3 yJx4a65c_get_915e3, Cond.code yJx4a65c_get_915e3 cJx4a65c_get_915e3 2 (some (.object "java/lang/Object")), Cond.methodLink RJx4a65c 118 yJ15_checkIndex_7cf53, Cond.static yJ15_checkIndex_7cf53, Cond.initialized RJ15, Cond.code yJ15_checkIndex_7cf53 cJ15_checkIndex_7cf53 2 (some .int), Cond.methodLink RJ15 105 yJ3_checkIndex_8e157]
def wsX2_passMinute_r2 : List Cond := [Cond.static yJ3_checkIndex_8e157, Cond.initialized RJ3, Cond.code yJ3_checkIndex_8e157 cJ3_checkIndex_8e157 3 (some .int), Cond.methodLink RJx4a65c 123 yJx4a65c_elementData_915e3, Cond.instanceMethod yJx4a65c_elementData_915e3, Cond.selects RJx4a65c yJx4a65c_elementData_915e3 yJx4a65c_elementData_915e3, Cond.code yJx4a65c_elementData_915e3 cJx4a65c_elementData_915e3 2 (some (.object "java/lang/Object")), Cond.fieldLink RJx4a65c 9 "java/util/ArrayList" "elementData" "[Ljava/lang/Object;", Cond.methodLink RX2 132 yX2_offeredTo, Cond.static yX2_offeredTo, Cond.code yX2_offeredTo cX2_offeredTo 1 (some (.object "TaxiRank$Order")), Cond.fieldLink RX2 80 "TaxiRank$Cab" "state" "I", Cond.fieldLink RX2 251 "TaxiRank$Cab" "order" "LTaxiRank$Order;", Cond.methodLink RX2 98 yX2_turnDown, Cond.instanceMethod yX2_turnDown, Cond.selects RX2 yX2_turnDown yX2_turnDown, Cond.code yX2_turnDown cX2_turnDown 3 none, Cond.fieldLink RX2 284 "TaxiRank$Order" "refusers" "I", Cond.fieldLink RX2 152 "TaxiRank$Order" "state" "I", Cond.fieldLink RX2 267 "TaxiRank$Order" "cab" "LTaxiRank$Cab;", Cond.methodLink RX2 287 yX2_refuserBit, Cond.static yX2_refuserBit, Cond.code yX2_refuserBit cX2_refuserBit 1 (some .int), Cond.fieldLink RX2 250 "TaxiRank$Cab" "number" "I"]
def wsX2_passMinute_r3 : List Cond := [Cond.methodLink RX2 85 yX2_joinQueue, Cond.instanceMethod yX2_joinQueue, Cond.selects RX2 yX2_joinQueue yX2_joinQueue, Cond.code yX2_joinQueue cX2_joinQueue 2 none, Cond.fieldLink RX2 240 "TaxiRank" "turnsGiven" "I", Cond.fieldLink RX2 243 "TaxiRank$Cab" "turn" "I", Cond.methodLink RX2 293 yX2_bringCabsOn, Cond.instanceMethod yX2_bringCabsOn, Cond.selects RX2 yX2_bringCabsOn yX2_bringCabsOn, Cond.code yX2_bringCabsOn cX2_bringCabsOn 5 (some .int), Cond.fieldLink RX2 149 "TaxiRank$Cab" "arrival" "I", Cond.methodLink RX2 296 yX2_beginRide, Cond.instanceMethod yX2_beginRide, Cond.selects RX2 yX2_beginRide yX2_beginRide, Cond.code yX2_beginRide cX2_beginRide 4 none, Cond.fieldLink RX2 138 "TaxiRank$Order" "from" "I", Cond.fieldLink RX2 303 "TaxiRank$Order" "to" "I", Cond.fieldLink RX2 101 "TaxiRank$Cab" "zone" "I", Cond.fieldLink RX2 201 "TaxiRank$Order" "begunAt" "I", Cond.methodLink RX2 43 yX2_wayBetween, Cond.instanceMethod yX2_wayBetween, Cond.selects RX2 yX2_wayBetween yX2_wayBetween, Cond.code yX2_wayBetween cX2_wayBetween 4 (some .int), Cond.fieldLink RX2 9 "TaxiRank" "ways" "[I"]
def wsX2_passMinute_r4 : List Cond := [Cond.methodLink RX2 306 yX2_meterFare, Cond.instanceMethod yX2_meterFare, Cond.selects RX2 yX2_meterFare yX2_meterFare, Cond.code yX2_meterFare cX2_meterFare 3 none, Cond.fieldLink RX2 23 "TaxiRank" "baseRate" "I", Cond.fieldLink RX2 310 "TaxiRank$Order" "base" "I", Cond.fieldLink RX2 27 "TaxiRank" "wayRate" "I", Cond.fieldLink RX2 313 "TaxiRank$Order" "way" "I", Cond.fieldLink RX2 141 "TaxiRank$Order" "due" "I", Cond.methodLink RX2 211 Lib.Math.min.name, Cond.static Lib.Math.min.name, Cond.initialized "java/lang/Math", Cond.code Lib.Math.min.name Lib.Math.min.code 2 (some .int), Cond.fieldLink RX2 316 "TaxiRank$Order" "waiting" "I", Cond.fieldLink RX2 319 "TaxiRank$Order" "night" "I", Cond.methodLink RX2 300 yX2_endRide, Cond.instanceMethod yX2_endRide, Cond.selects RX2 yX2_endRide yX2_endRide, Cond.code yX2_endRide cX2_endRide 5 none, Cond.fieldLink RX2 194 "TaxiRank$Cab" "kept" "I", Cond.fieldLink RX2 193 "TaxiRank$Cab" "due" "I", Cond.fieldLink RX2 326 "TaxiRank$Order" "doneAt" "I", Cond.methodLink RX2 322 yX2_wholeFare, Cond.static yX2_wholeFare]
def wsX2_passMinute_r5 : List Cond := [Cond.code yX2_wholeFare cX2_wholeFare 1 (some .int), Cond.methodLink RX2 89 yX2_makeOffers, Cond.instanceMethod yX2_makeOffers, Cond.selects RX2 yX2_makeOffers yX2_makeOffers, Cond.code yX2_makeOffers cX2_makeOffers 3 none, Cond.methodLink RX2 255 yX2_makeNextOffer, Cond.instanceMethod yX2_makeNextOffer, Cond.selects RX2 yX2_makeNextOffer yX2_makeNextOffer, Cond.code yX2_makeNextOffer cX2_makeNextOffer 6 (some .boolean), Cond.fieldLink RX2 20 "TaxiRank" "orders" "Ljava/util/ArrayList;", Cond.classLink RX2 127 "TaxiRank$Order", Cond.methodLink RX2 259 yX2_isLookedAt, Cond.instanceMethod yX2_isLookedAt, Cond.selects RX2 yX2_isLookedAt yX2_isLookedAt, Cond.code yX2_isLookedAt cX2_isLookedAt 2 (some .boolean), Cond.methodLink RX2 263 yX2_cabFor, Cond.instanceMethod yX2_cabFor, Cond.selects RX2 yX2_cabFor yX2_cabFor, Cond.code yX2_cabFor cX2_cabFor 7 (some (.object "TaxiRank$Cab")), Cond.methodLink RX2 274 yX2_canBeOffered, Cond.static yX2_canBeOffered, Cond.code yX2_canBeOffered cX2_canBeOffered 2 (some .boolean), Cond.fieldLink RX2 208 "TaxiRank$Cab" "seats" "I", Cond.fieldLink RX2 281 "TaxiRank$Order" "passengers" "I"]
def wsX2_passMinute_r6 : List Cond := [Cond.methodLink RX2 204 yX2_isIdle, Cond.static yX2_isIdle, Cond.code yX2_isIdle cX2_isIdle 1 (some .boolean), Cond.methodLink RX2 278 yX2_rankOfZone, Cond.instanceMethod yX2_rankOfZone, Cond.selects RX2 yX2_rankOfZone yX2_rankOfZone, Cond.code yX2_rankOfZone cX2_rankOfZone 3 (some .int)]
def wsX2_passMinute : List Cond := .code yX2_passMinute cX2_passMinute 2 (some .int) :: ((wsX2_passMinute_r1 ++ (wsX2_passMinute_r2 ++ (wsX2_passMinute_r3 ++ (wsX2_passMinute_r4 ++ (wsX2_passMinute_r5 ++ wsX2_passMinute_r6))))) ++ wsX20 ++ wsX10 ++ wsJx4a65c0 ++ wsX00)
def wsX2_tick_r1 : List Cond := [Cond.classLink RX2 34 "java/lang/IllegalArgumentException", Cond.initialized "java/lang/IllegalArgumentException", Cond.fieldLink RX2 120 "TaxiRank" "time" "I", Cond.methodLink RX2 179 yX2_passMinute, Cond.instanceMethod yX2_passMinute, Cond.selects RX2 yX2_passMinute yX2_passMinute, Cond.initialized RX2, Cond.code yX2_passMinute cX2_passMinute 2 (some .int), Cond.methodLink RX2 290 yX2_refuseOldOffers, Cond.instanceMethod yX2_refuseOldOffers, Cond.selects RX2 yX2_refuseOldOffers yX2_refuseOldOffers, Cond.code yX2_refuseOldOffers cX2_refuseOldOffers 4 none, Cond.fieldLink RX2 16 "TaxiRank" "cabs" "Ljava/util/ArrayList;", Cond.classLink RX2 68 "TaxiRank$Cab", Cond.fieldLink RX2 271 "TaxiRank$Order" "offeredAt" "I", Cond.methodLink RX2 59 yJx4a65c_size_8abf5, Cond.instanceMethod yJx4a65c_size_8abf5, Cond.selects RJx4a65c yJx4a65c_size_8abf5 yJx4a65c_size_8abf5, Cond.initialized RJx4a65c, Cond.code yJx4a65c_size_8abf5 cJx4a65c_size_8abf5 1 (some .int), Cond.fieldLink RJx4a65c 48 "java/util/ArrayList" "size" "I", Cond.methodLink RX2 197 yJx4a65c_get_915e3, Cond.instanceMethod yJx4a65c_get_915e3, Cond.selects RJx4a65c yJx4a65c_get_915e3 yJx4a65c_get_915e3]
def wsX2_tick_r2 : List Cond := [Cond.code yJx4a65c_get_915e3 cJx4a65c_get_915e3 2 (some (.object "java/lang/Object")), Cond.methodLink RJx4a65c 118 yJ15_checkIndex_7cf53, Cond.static yJ15_checkIndex_7cf53, Cond.initialized RJ15, Cond.code yJ15_checkIndex_7cf53 cJ15_checkIndex_7cf53 2 (some .int), Cond.methodLink RJ15 105 yJ3_checkIndex_8e157, Cond.static yJ3_checkIndex_8e157, Cond.initialized RJ3, Cond.code yJ3_checkIndex_8e157 cJ3_checkIndex_8e157 3 (some .int), Cond.methodLink RJx4a65c 123 yJx4a65c_elementData_915e3, Cond.instanceMethod yJx4a65c_elementData_915e3, Cond.selects RJx4a65c yJx4a65c_elementData_915e3 yJx4a65c_elementData_915e3, Cond.code yJx4a65c_elementData_915e3 cJx4a65c_elementData_915e3 2 (some (.object "java/lang/Object")), Cond.fieldLink RJx4a65c 9 "java/util/ArrayList" "elementData" "[Ljava/lang/Object;", Cond.methodLink RX2 132 yX2_offeredTo, Cond.static yX2_offeredTo, Cond.code yX2_offeredTo cX2_offeredTo 1 (some (.object "TaxiRank$Order")), Cond.fieldLink RX2 80 "TaxiRank$Cab" "state" "I", Cond.fieldLink RX2 251 "TaxiRank$Cab" "order" "LTaxiRank$Order;", Cond.methodLink RX2 98 yX2_turnDown, Cond.instanceMethod yX2_turnDown, Cond.selects RX2 yX2_turnDown yX2_turnDown, Cond.code yX2_turnDown cX2_turnDown 3 none, Cond.fieldLink RX2 284 "TaxiRank$Order" "refusers" "I"]
def wsX2_tick_r3 : List Cond := [Cond.fieldLink RX2 152 "TaxiRank$Order" "state" "I", Cond.fieldLink RX2 267 "TaxiRank$Order" "cab" "LTaxiRank$Cab;", Cond.methodLink RX2 287 yX2_refuserBit, Cond.static yX2_refuserBit, Cond.code yX2_refuserBit cX2_refuserBit 1 (some .int), Cond.fieldLink RX2 250 "TaxiRank$Cab" "number" "I", Cond.methodLink RX2 85 yX2_joinQueue, Cond.instanceMethod yX2_joinQueue, Cond.selects RX2 yX2_joinQueue yX2_joinQueue, Cond.code yX2_joinQueue cX2_joinQueue 2 none, Cond.fieldLink RX2 240 "TaxiRank" "turnsGiven" "I", Cond.fieldLink RX2 243 "TaxiRank$Cab" "turn" "I", Cond.methodLink RX2 293 yX2_bringCabsOn, Cond.instanceMethod yX2_bringCabsOn, Cond.selects RX2 yX2_bringCabsOn yX2_bringCabsOn, Cond.code yX2_bringCabsOn cX2_bringCabsOn 5 (some .int), Cond.fieldLink RX2 149 "TaxiRank$Cab" "arrival" "I", Cond.methodLink RX2 296 yX2_beginRide, Cond.instanceMethod yX2_beginRide, Cond.selects RX2 yX2_beginRide yX2_beginRide, Cond.code yX2_beginRide cX2_beginRide 4 none, Cond.fieldLink RX2 138 "TaxiRank$Order" "from" "I", Cond.fieldLink RX2 303 "TaxiRank$Order" "to" "I", Cond.fieldLink RX2 101 "TaxiRank$Cab" "zone" "I"]
def wsX2_tick_r4 : List Cond := [Cond.fieldLink RX2 201 "TaxiRank$Order" "begunAt" "I", Cond.methodLink RX2 43 yX2_wayBetween, Cond.instanceMethod yX2_wayBetween, Cond.selects RX2 yX2_wayBetween yX2_wayBetween, Cond.code yX2_wayBetween cX2_wayBetween 4 (some .int), Cond.fieldLink RX2 9 "TaxiRank" "ways" "[I", Cond.methodLink RX2 306 yX2_meterFare, Cond.instanceMethod yX2_meterFare, Cond.selects RX2 yX2_meterFare yX2_meterFare, Cond.code yX2_meterFare cX2_meterFare 3 none, Cond.fieldLink RX2 23 "TaxiRank" "baseRate" "I", Cond.fieldLink RX2 310 "TaxiRank$Order" "base" "I", Cond.fieldLink RX2 27 "TaxiRank" "wayRate" "I", Cond.fieldLink RX2 313 "TaxiRank$Order" "way" "I", Cond.fieldLink RX2 141 "TaxiRank$Order" "due" "I", Cond.methodLink RX2 211 Lib.Math.min.name, Cond.static Lib.Math.min.name, Cond.initialized "java/lang/Math", Cond.code Lib.Math.min.name Lib.Math.min.code 2 (some .int), Cond.fieldLink RX2 316 "TaxiRank$Order" "waiting" "I", Cond.fieldLink RX2 319 "TaxiRank$Order" "night" "I", Cond.methodLink RX2 300 yX2_endRide, Cond.instanceMethod yX2_endRide, Cond.selects RX2 yX2_endRide yX2_endRide]
def wsX2_tick_r5 : List Cond := [Cond.code yX2_endRide cX2_endRide 5 none, Cond.fieldLink RX2 194 "TaxiRank$Cab" "kept" "I", Cond.fieldLink RX2 193 "TaxiRank$Cab" "due" "I", Cond.fieldLink RX2 326 "TaxiRank$Order" "doneAt" "I", Cond.methodLink RX2 322 yX2_wholeFare, Cond.static yX2_wholeFare, Cond.code yX2_wholeFare cX2_wholeFare 1 (some .int), Cond.methodLink RX2 89 yX2_makeOffers, Cond.instanceMethod yX2_makeOffers, Cond.selects RX2 yX2_makeOffers yX2_makeOffers, Cond.code yX2_makeOffers cX2_makeOffers 3 none, Cond.methodLink RX2 255 yX2_makeNextOffer, Cond.instanceMethod yX2_makeNextOffer, Cond.selects RX2 yX2_makeNextOffer yX2_makeNextOffer, Cond.code yX2_makeNextOffer cX2_makeNextOffer 6 (some .boolean), Cond.fieldLink RX2 20 "TaxiRank" "orders" "Ljava/util/ArrayList;", Cond.classLink RX2 127 "TaxiRank$Order", Cond.methodLink RX2 259 yX2_isLookedAt, Cond.instanceMethod yX2_isLookedAt, Cond.selects RX2 yX2_isLookedAt yX2_isLookedAt, Cond.code yX2_isLookedAt cX2_isLookedAt 2 (some .boolean), Cond.methodLink RX2 263 yX2_cabFor, Cond.instanceMethod yX2_cabFor, Cond.selects RX2 yX2_cabFor yX2_cabFor]
def wsX2_tick_r6 : List Cond := [Cond.code yX2_cabFor cX2_cabFor 7 (some (.object "TaxiRank$Cab")), Cond.methodLink RX2 274 yX2_canBeOffered, Cond.static yX2_canBeOffered, Cond.code yX2_canBeOffered cX2_canBeOffered 2 (some .boolean), Cond.fieldLink RX2 208 "TaxiRank$Cab" "seats" "I", Cond.fieldLink RX2 281 "TaxiRank$Order" "passengers" "I", Cond.methodLink RX2 204 yX2_isIdle, Cond.static yX2_isIdle, Cond.code yX2_isIdle cX2_isIdle 1 (some .boolean), Cond.methodLink RX2 278 yX2_rankOfZone, Cond.instanceMethod yX2_rankOfZone, Cond.selects RX2 yX2_rankOfZone yX2_rankOfZone, Cond.code yX2_rankOfZone cX2_rankOfZone 3 (some .int)]
def wsX2_tick : List Cond := .code yX2_tick cX2_tick 4 (some .int) :: ((wsX2_tick_r1 ++ (wsX2_tick_r2 ++ (wsX2_tick_r3 ++ (wsX2_tick_r4 ++ (wsX2_tick_r5 ++ wsX2_tick_r6))))) ++ wsX20 ++ wsX10 ++ wsJx4a65c0 ++ wsX00 ++ (vx_atS RX2 38 "java/lang/IllegalArgumentException" ["java/lang/RuntimeException", "java/lang/Exception"]).filter goodWord)
def wsX2_now : List Cond := .code yX2_now cX2_now 1 (some .int) :: ([.fieldLink RX2 120 "TaxiRank" "time" "I"] ++ wsX20)
def wsX2_ordersInState_r1 : List Cond := [Cond.fieldLink RX2 20 "TaxiRank" "orders" "Ljava/util/ArrayList;", Cond.classLink RX2 127 "TaxiRank$Order", Cond.fieldLink RX2 152 "TaxiRank$Order" "state" "I", Cond.methodLink RX2 59 yJx4a65c_size_8abf5, Cond.instanceMethod yJx4a65c_size_8abf5, Cond.selects RJx4a65c yJx4a65c_size_8abf5 yJx4a65c_size_8abf5, Cond.initialized RJx4a65c, Cond.code yJx4a65c_size_8abf5 cJx4a65c_size_8abf5 1 (some .int), Cond.fieldLink RJx4a65c 48 "java/util/ArrayList" "size" "I", Cond.methodLink RX2 197 yJx4a65c_get_915e3, Cond.instanceMethod yJx4a65c_get_915e3, Cond.selects RJx4a65c yJx4a65c_get_915e3 yJx4a65c_get_915e3, Cond.code yJx4a65c_get_915e3 cJx4a65c_get_915e3 2 (some (.object "java/lang/Object")), Cond.methodLink RJx4a65c 118 yJ15_checkIndex_7cf53, Cond.static yJ15_checkIndex_7cf53, Cond.initialized RJ15, Cond.code yJ15_checkIndex_7cf53 cJ15_checkIndex_7cf53 2 (some .int), Cond.methodLink RJ15 105 yJ3_checkIndex_8e157, Cond.static yJ3_checkIndex_8e157, Cond.initialized RJ3, Cond.code yJ3_checkIndex_8e157 cJ3_checkIndex_8e157 3 (some .int), Cond.methodLink RJx4a65c 123 yJx4a65c_elementData_915e3, Cond.instanceMethod yJx4a65c_elementData_915e3, Cond.selects RJx4a65c yJx4a65c_elementData_915e3 yJx4a65c_elementData_915e3]
def wsX2_ordersInState_r2 : List Cond := [Cond.code yJx4a65c_elementData_915e3 cJx4a65c_elementData_915e3 2 (some (.object "java/lang/Object")), Cond.fieldLink RJx4a65c 9 "java/util/ArrayList" "elementData" "[Ljava/lang/Object;"]
def wsX2_ordersInState : List Cond := .code yX2_ordersInState cX2_ordersInState 4 (some .int) :: ((wsX2_ordersInState_r1 ++ wsX2_ordersInState_r2) ++ wsX20 ++ wsX10 ++ wsJx4a65c0)
def wsX2_count_r1 : List Cond := [Cond.classLink RX2 108 "java/lang/IndexOutOfBoundsException", Cond.initialized "java/lang/IndexOutOfBoundsException", Cond.fieldLink RX2 16 "TaxiRank" "cabs" "Ljava/util/ArrayList;", Cond.fieldLink RX2 20 "TaxiRank" "orders" "Ljava/util/ArrayList;", Cond.methodLink RX2 59 yJx4a65c_size_8abf5, Cond.instanceMethod yJx4a65c_size_8abf5, Cond.selects RJx4a65c yJx4a65c_size_8abf5 yJx4a65c_size_8abf5, Cond.initialized RJx4a65c, Cond.code yJx4a65c_size_8abf5 cJx4a65c_size_8abf5 1 (some .int), Cond.fieldLink RJx4a65c 48 "java/util/ArrayList" "size" "I", Cond.methodLink RX2 189 yX2_ordersInState, Cond.instanceMethod yX2_ordersInState, Cond.selects RX2 yX2_ordersInState yX2_ordersInState, Cond.initialized RX2, Cond.code yX2_ordersInState cX2_ordersInState 4 (some .int), Cond.classLink RX2 127 "TaxiRank$Order", Cond.fieldLink RX2 152 "TaxiRank$Order" "state" "I", Cond.methodLink RX2 197 yJx4a65c_get_915e3, Cond.instanceMethod yJx4a65c_get_915e3, Cond.selects RJx4a65c yJx4a65c_get_915e3 yJx4a65c_get_915e3, Cond.code yJx4a65c_get_915e3 cJx4a65c_get_915e3 2 (some (.object "java/lang/Object")), Cond.methodLink RJx4a65c 118 yJ15_checkIndex_7cf53, Cond.static yJ15_checkIndex_7cf53, Cond.initialized RJ15]
def wsX2_count_r2 : List Cond := [Cond.code yJ15_checkIndex_7cf53 cJ15_checkIndex_7cf53 2 (some .int), Cond.methodLink RJ15 105 yJ3_checkIndex_8e157, Cond.static yJ3_checkIndex_8e157, Cond.initialized RJ3, Cond.code yJ3_checkIndex_8e157 cJ3_checkIndex_8e157 3 (some .int), Cond.methodLink RJx4a65c 123 yJx4a65c_elementData_915e3, Cond.instanceMethod yJx4a65c_elementData_915e3, Cond.selects RJx4a65c yJx4a65c_elementData_915e3 yJx4a65c_elementData_915e3, Cond.code yJx4a65c_elementData_915e3 cJx4a65c_elementData_915e3 2 (some (.object "java/lang/Object")), Cond.fieldLink RJx4a65c 9 "java/util/ArrayList" "elementData" "[Ljava/lang/Object;"]
def wsX2_count : List Cond := .code yX2_count cX2_count 2 (some .int) :: ((wsX2_count_r1 ++ wsX2_count_r2) ++ wsX20 ++ wsJx4a65c0 ++ wsX10 ++ (vx_atS RX2 112 "java/lang/IndexOutOfBoundsException" ["java/lang/RuntimeException", "java/lang/Exception"]).filter goodWord)
def wsX3_init : List Cond := .code yX3_init cX3_init 3 none :: ([.methodLink RX3 1 objectInit, .instanceMethod objectInit, .code objectInit ⟨#[0xb1]⟩ 1 none, .classLink RX3 7 "[[I", .arrayClass .int, .fieldLink RX3 9 "TaxiRankLaw$Rank" "ways" "[[I", .classLink RX3 14 "[I", .fieldLink RX3 16 "TaxiRankLaw$Rank" "cabs" "[[I", .fieldLink RX3 19 "TaxiRankLaw$Rank" "orders" "[[I", .fieldLink RX3 22 "TaxiRankLaw$Rank" "queues" "[[I", .classLink RX3 25 "[[Z", .arrayClass .boolean, .fieldLink RX3 27 "TaxiRankLaw$Rank" "refused" "[[Z", .fieldLink RX3 30 "TaxiRankLaw$Rank" "money" "[[I", .fieldLink RX3 33 "TaxiRankLaw$Rank" "base" "I", .fieldLink RX3 37 "TaxiRankLaw$Rank" "rate" "I"] ++ wsX30)
def wsX3_join : List Cond := .code yX3_join cX3_join 3 (some .int) :: ([.fieldLink RX3 22 "TaxiRankLaw$Rank" "queues" "[[I"] ++ wsX30)
def wsX3_leave : List Cond := .code yX3_leave cX3_leave 4 none :: ([.fieldLink RX3 22 "TaxiRankLaw$Rank" "queues" "[[I"] ++ wsX30)
def wsX3_first : List Cond := .code yX3_first cX3_first 5 (some .int) :: ([.fieldLink RX3 22 "TaxiRankLaw$Rank" "queues" "[[I", .fieldLink RX3 16 "TaxiRankLaw$Rank" "cabs" "[[I", .fieldLink RX3 19 "TaxiRankLaw$Rank" "orders" "[[I", .fieldLink RX3 27 "TaxiRankLaw$Rank" "refused" "[[Z"] ++ wsX30)
def wsX3_choose : List Cond := .code yX3_choose cX3_choose 5 (some .int) :: ([.fieldLink RX3 19 "TaxiRankLaw$Rank" "orders" "[[I", .fieldLink RX3 9 "TaxiRankLaw$Rank" "ways" "[[I", .methodLink RX3 40 yX3_first, .instanceMethod yX3_first, .selects RX3 yX3_first yX3_first, .initialized RX3, .code yX3_first cX3_first 5 (some .int), .fieldLink RX3 22 "TaxiRankLaw$Rank" "queues" "[[I", .fieldLink RX3 16 "TaxiRankLaw$Rank" "cabs" "[[I", .fieldLink RX3 27 "TaxiRankLaw$Rank" "refused" "[[Z"] ++ wsX30)
def wsX3_offer : List Cond := .code yX3_offer cX3_offer 3 none :: ([.fieldLink RX3 44 "TaxiRankLaw$Rank" "all" "I", .fieldLink RX3 19 "TaxiRankLaw$Rank" "orders" "[[I", .fieldLink RX3 47 "TaxiRankLaw$Rank" "now" "I", .fieldLink RX3 16 "TaxiRankLaw$Rank" "cabs" "[[I", .methodLink RX3 50 yX3_choose, .instanceMethod yX3_choose, .selects RX3 yX3_choose yX3_choose, .initialized RX3, .code yX3_choose cX3_choose 5 (some .int), .fieldLink RX3 9 "TaxiRankLaw$Rank" "ways" "[[I", .methodLink RX3 40 yX3_first, .instanceMethod yX3_first, .selects RX3 yX3_first yX3_first, .code yX3_first cX3_first 5 (some .int), .fieldLink RX3 22 "TaxiRankLaw$Rank" "queues" "[[I", .fieldLink RX3 27 "TaxiRankLaw$Rank" "refused" "[[Z"] ++ wsX30)
def wsX3_refuse : List Cond := .code yX3_refuse cX3_refuse 3 none :: ([.fieldLink RX3 16 "TaxiRankLaw$Rank" "cabs" "[[I", .fieldLink RX3 27 "TaxiRankLaw$Rank" "refused" "[[Z", .fieldLink RX3 19 "TaxiRankLaw$Rank" "orders" "[[I"] ++ wsX30)
def wsX3_back : List Cond := .code yX3_back cX3_back 2 none :: ([.fieldLink RX3 16 "TaxiRankLaw$Rank" "cabs" "[[I", .methodLink RX3 54 yX3_leave, .instanceMethod yX3_leave, .selects RX3 yX3_leave yX3_leave, .initialized RX3, .code yX3_leave cX3_leave 4 none, .fieldLink RX3 22 "TaxiRankLaw$Rank" "queues" "[[I", .methodLink RX3 58 yX3_join, .instanceMethod yX3_join, .selects RX3 yX3_join yX3_join, .code yX3_join cX3_join 3 (some .int)] ++ wsX30)
def wsX3_accept : List Cond := .code yX3_accept cX3_accept 4 (some .int) :: ([.fieldLink RX3 19 "TaxiRankLaw$Rank" "orders" "[[I", .fieldLink RX3 16 "TaxiRankLaw$Rank" "cabs" "[[I", .fieldLink RX3 9 "TaxiRankLaw$Rank" "ways" "[[I", .fieldLink RX3 47 "TaxiRankLaw$Rank" "now" "I", .methodLink RX3 54 yX3_leave, .instanceMethod yX3_leave, .selects RX3 yX3_leave yX3_leave, .initialized RX3, .code yX3_leave cX3_leave 4 none, .fieldLink RX3 22 "TaxiRankLaw$Rank" "queues" "[[I"] ++ wsX30)
def wsX3_free : List Cond := .code yX3_free cX3_free 3 none :: ([.fieldLink RX3 16 "TaxiRankLaw$Rank" "cabs" "[[I", .methodLink RX3 58 yX3_join, .instanceMethod yX3_join, .selects RX3 yX3_join yX3_join, .initialized RX3, .code yX3_join cX3_join 3 (some .int), .fieldLink RX3 22 "TaxiRankLaw$Rank" "queues" "[[I"] ++ wsX30)
def wsX3_cancel : List Cond := .code yX3_cancel cX3_cancel 4 (some .int) :: ([.fieldLink RX3 19 "TaxiRankLaw$Rank" "orders" "[[I", .fieldLink RX3 16 "TaxiRankLaw$Rank" "cabs" "[[I", .methodLink RX3 61 yX3_free, .instanceMethod yX3_free, .selects RX3 yX3_free yX3_free, .initialized RX3, .code yX3_free cX3_free 3 none, .methodLink RX3 58 yX3_join, .instanceMethod yX3_join, .selects RX3 yX3_join yX3_join, .code yX3_join cX3_join 3 (some .int), .fieldLink RX3 22 "TaxiRankLaw$Rank" "queues" "[[I"] ++ wsX30)
def wsX3_minute_r1 : List Cond := [Cond.fieldLink RX3 47 "TaxiRankLaw$Rank" "now" "I", Cond.fieldLink RX3 64 "TaxiRankLaw$Rank" "many" "I", Cond.fieldLink RX3 16 "TaxiRankLaw$Rank" "cabs" "[[I", Cond.fieldLink RX3 19 "TaxiRankLaw$Rank" "orders" "[[I", Cond.fieldLink RX3 30 "TaxiRankLaw$Rank" "money" "[[I", Cond.fieldLink RX3 9 "TaxiRankLaw$Rank" "ways" "[[I", Cond.fieldLink RX3 33 "TaxiRankLaw$Rank" "base" "I", Cond.fieldLink RX3 37 "TaxiRankLaw$Rank" "rate" "I", Cond.methodLink RX3 67 yX3_refuse, Cond.instanceMethod yX3_refuse, Cond.selects RX3 yX3_refuse yX3_refuse, Cond.initialized RX3, Cond.code yX3_refuse cX3_refuse 3 none, Cond.fieldLink RX3 27 "TaxiRankLaw$Rank" "refused" "[[Z", Cond.methodLink RX3 71 yX3_back, Cond.instanceMethod yX3_back, Cond.selects RX3 yX3_back yX3_back, Cond.code yX3_back cX3_back 2 none, Cond.methodLink RX3 54 yX3_leave, Cond.instanceMethod yX3_leave, Cond.selects RX3 yX3_leave yX3_leave, Cond.code yX3_leave cX3_leave 4 none, Cond.fieldLink RX3 22 "TaxiRankLaw$Rank" "queues" "[[I", Cond.methodLink RX3 58 yX3_join]
def wsX3_minute_r2 : List Cond := [Cond.instanceMethod yX3_join, Cond.selects RX3 yX3_join yX3_join, Cond.code yX3_join cX3_join 3 (some .int), Cond.methodLink RX3 61 yX3_free, Cond.instanceMethod yX3_free, Cond.selects RX3 yX3_free yX3_free, Cond.code yX3_free cX3_free 3 none, Cond.methodLink RX3 74 yX3_offer, Cond.instanceMethod yX3_offer, Cond.selects RX3 yX3_offer yX3_offer, Cond.code yX3_offer cX3_offer 3 none, Cond.fieldLink RX3 44 "TaxiRankLaw$Rank" "all" "I", Cond.methodLink RX3 50 yX3_choose, Cond.instanceMethod yX3_choose, Cond.selects RX3 yX3_choose yX3_choose, Cond.code yX3_choose cX3_choose 5 (some .int), Cond.methodLink RX3 40 yX3_first, Cond.instanceMethod yX3_first, Cond.selects RX3 yX3_first yX3_first, Cond.code yX3_first cX3_first 5 (some .int)]
def wsX3_minute : List Cond := .code yX3_minute cX3_minute 6 (some .int) :: ((wsX3_minute_r1 ++ wsX3_minute_r2) ++ wsX30)
def wsJ9_max_7cf53 : List Cond := .code yJ9_max_7cf53 cJ9_max_7cf53 2 (some .int) :: ([])
def wsJ9_min_7cf53 : List Cond := .code yJ9_min_7cf53 cJ9_min_7cf53 2 (some .int) :: ([])
def wsL_below : List Cond := .code yL_below cL_below 2 (some .int) :: ([.constant RL 7 (2147483647)])
def wsL_cell : List Cond := .code yL_cell cL_cell 2 (some .int) :: ([.constant RL 8 (790386105)])
def wsL_act_r1 : List Cond := [Cond.classLink RL 72 "java/lang/IllegalStateException", Cond.fieldLink RL 15 "TaxiRankLaw$Rank" "many" "I", Cond.fieldLink RL 21 "TaxiRankLaw$Rank" "cabs" "[[I", Cond.arrayClass .int, Cond.fieldLink RL 30 "TaxiRankLaw$Rank" "all" "I", Cond.fieldLink RL 33 "TaxiRankLaw$Rank" "now" "I", Cond.fieldLink RL 36 "TaxiRankLaw$Rank" "orders" "[[I", Cond.fieldLink RL 50 "TaxiRankLaw$Rank" "ways" "[[I", Cond.methodLink RL 9 yL_below, Cond.static yL_below, Cond.initialized RL, Cond.code yL_below cL_below 2 (some .int), Cond.constant RL 7 (2147483647), Cond.methodLink RL 25 yX2_addCab, Cond.instanceMethod yX2_addCab, Cond.selects RX2 yX2_addCab yX2_addCab, Cond.initialized RX2, Cond.code yX2_addCab cX2_addCab 4 (some .int), Cond.classLink RX2 34 "java/lang/IllegalArgumentException", Cond.initialized "java/lang/IllegalArgumentException", Cond.classLink RX2 63 "java/lang/IllegalStateException", Cond.initialized "java/lang/IllegalStateException", Cond.fieldLink RX2 16 "TaxiRank" "cabs" "Ljava/util/ArrayList;", Cond.classLink RX2 68 RX0]
def wsL_act_r2 : List Cond := [Cond.instantiable RX0 9, Cond.initialized RX0, Cond.methodLink RX2 53 yX2_isZone, Cond.static yX2_isZone, Cond.code yX2_isZone cX2_isZone 1 (some .boolean), Cond.methodLink RX2 59 yJx4a65c_size_8abf5, Cond.instanceMethod yJx4a65c_size_8abf5, Cond.selects RJx4a65c yJx4a65c_size_8abf5 yJx4a65c_size_8abf5, Cond.initialized RJx4a65c, Cond.code yJx4a65c_size_8abf5 cJx4a65c_size_8abf5 1 (some .int), Cond.fieldLink RJx4a65c 48 "java/util/ArrayList" "size" "I", Cond.methodLink RX2 70 yX0_init, Cond.instanceMethod yX0_init, Cond.code yX0_init cX0_init 4 none, Cond.methodLink RX0 3 objectInit, Cond.instanceMethod objectInit, Cond.code objectInit ⟨#[0xb1]⟩ 1 none, Cond.fieldLink RX0 9 "TaxiRank$Cab" "state" "I", Cond.fieldLink RX0 15 "TaxiRank$Cab" "number" "I", Cond.fieldLink RX0 18 "TaxiRank$Cab" "seats" "I", Cond.fieldLink RX0 21 "TaxiRank$Cab" "zone" "I", Cond.methodLink RX2 72 yJx4a65c_add_9ea2d, Cond.instanceMethod yJx4a65c_add_9ea2d, Cond.selects RJx4a65c yJx4a65c_add_9ea2d yJx4a65c_add_9ea2d]
def wsL_act_r3 : List Cond := [Cond.code yJx4a65c_add_9ea2d cJx4a65c_add_9ea2d 2 (some .boolean), Cond.fieldLink RJx4a65c 63 "java/util/ArrayList" "modCount" "I", Cond.sameField "java/util/ArrayList" "java/util/AbstractList" "modCount" "I", Cond.fieldLink RJx4a65c 9 "java/util/ArrayList" "elementData" "[Ljava/lang/Object;", Cond.methodLink RJx4a65c 131 yJx4a65c_add_72be8, Cond.instanceMethod yJx4a65c_add_72be8, Cond.selects RJx4a65c yJx4a65c_add_72be8 yJx4a65c_add_72be8, Cond.code yJx4a65c_add_72be8 cJx4a65c_add_72be8 4 none, Cond.methodLink RJx4a65c 129 yJx4a65c_grow_d5877, Cond.instanceMethod yJx4a65c_grow_d5877, Cond.selects RJx4a65c yJx4a65c_grow_d5877 yJx4a65c_grow_d5877, Cond.code yJx4a65c_grow_d5877 cJx4a65c_grow_d5877 1 (some (.array (.object "java/lang/Object"))), Cond.methodLink RJx4a65c 69 yJx4a65c_grow_92f84, Cond.instanceMethod yJx4a65c_grow_92f84, Cond.selects RJx4a65c yJx4a65c_grow_92f84 yJx4a65c_grow_92f84, Cond.code yJx4a65c_grow_92f84 cJx4a65c_grow_92f84 4 (some (.array (.object "java/lang/Object"))), Cond.fieldLink RJx4a65c 39 "java/util/ArrayList" "DEFAULTCAPACITY_EMPTY_ELEMENTDATA" "[Ljava/lang/Object;", Cond.methodLink RJx4a65c 79 Lib.Math.max.name, Cond.static Lib.Math.max.name, Cond.initialized "java/lang/Math", Cond.code Lib.Math.max.name Lib.Math.max.code 2 (some .int), Cond.classLink RJx4a65c 7 "java/lang/Object", Cond.methodLink RJx4a65c 73 yJ8_newLength_cabcc, Cond.static yJ8_newLength_cabcc]
def wsL_act_r4 : List Cond := [Cond.initialized RJ8, Cond.code yJ8_newLength_cabcc cJ8_newLength_cabcc 4 (some .int), Cond.methodLink RJ8 194 Lib.Math.max.name, Cond.constant RJ8 200 (2147483639), Cond.methodLink RJ8 201 yJ8_hugeLength_7cf53, Cond.static yJ8_hugeLength_7cf53, Cond.code yJ8_hugeLength_7cf53 cJ8_hugeLength_7cf53 3 (some .int), Cond.methodLink RJx4a65c 66 yJ7_copyOf_1904c, Cond.static yJ7_copyOf_1904c, Cond.initialized RJ7, Cond.code yJ7_copyOf_1904c cJ7_copyOf_1904c 2 (some (.array (.object "java/lang/Object"))), Cond.methodLink RJ7 86 ⟨"java/lang/Object", "getClass", "()Ljava/lang/Class;"⟩, Cond.selects "[Ljava/lang/Object;" ⟨"java/lang/Object", "getClass", "()Ljava/lang/Class;"⟩ ⟨"java/lang/Object", "getClass", "()Ljava/lang/Class;"⟩, Cond.instanceMethod ⟨"java/lang/Object", "getClass", "()Ljava/lang/Class;"⟩, Cond.native ⟨"java/lang/Object", "getClass", "()Ljava/lang/Class;"⟩, Cond.methodLink RJ7 300 yJ7_copyOf_6403c, Cond.static yJ7_copyOf_6403c, Cond.code yJ7_copyOf_6403c cJ7_copyOf_6403c 4 (some (.array (.object "java/lang/Object"))), Cond.classLink RJ7 110 "[Ljava/lang/Object;", Cond.classLink RJ7 2 "java/lang/Object", Cond.methodLink RJ7 304 Lib.Math.min.name, Cond.static Lib.Math.min.name, Cond.code Lib.Math.min.name Lib.Math.min.code 2 (some .int), Cond.methodLink RJ7 150 arraycopyName]
def wsL_act_r5 : List Cond := [Cond.native arraycopyName, Cond.static arraycopyName, Cond.initialized "java/lang/System", Cond.methodLink RL 39 yX2_order, Cond.instanceMethod yX2_order, Cond.selects RX2 yX2_order yX2_order, Cond.code yX2_order cX2_order 6 (some .int), Cond.fieldLink RX2 120 "TaxiRank" "time" "I", Cond.fieldLink RX2 20 "TaxiRank" "orders" "Ljava/util/ArrayList;", Cond.classLink RX2 127 RX1, Cond.instantiable RX1 15, Cond.initialized RX1, Cond.methodLink RX2 30 yX2_requireZone, Cond.static yX2_requireZone, Cond.code yX2_requireZone cX2_requireZone 1 none, Cond.classLink RX2 108 "java/lang/IndexOutOfBoundsException", Cond.initialized "java/lang/IndexOutOfBoundsException", Cond.methodLink RX2 117 yX2_requirePassengers, Cond.static yX2_requirePassengers, Cond.code yX2_requirePassengers cX2_requirePassengers 1 none, Cond.methodLink RX2 129 yX1_init, Cond.instanceMethod yX1_init, Cond.code yX1_init cX1_init 6 none, Cond.methodLink RX1 3 objectInit]
def wsL_act_r6 : List Cond := [Cond.fieldLink RX1 9 "TaxiRank$Order" "state" "I", Cond.fieldLink RX1 15 "TaxiRank$Order" "begunAt" "I", Cond.fieldLink RX1 18 "TaxiRank$Order" "doneAt" "I", Cond.fieldLink RX1 21 "TaxiRank$Order" "number" "I", Cond.fieldLink RX1 24 "TaxiRank$Order" "from" "I", Cond.fieldLink RX1 27 "TaxiRank$Order" "to" "I", Cond.fieldLink RX1 30 "TaxiRank$Order" "passengers" "I", Cond.fieldLink RX1 33 "TaxiRank$Order" "due" "I", Cond.methodLink RX2 89 yX2_makeOffers, Cond.instanceMethod yX2_makeOffers, Cond.selects RX2 yX2_makeOffers yX2_makeOffers, Cond.code yX2_makeOffers cX2_makeOffers 3 none, Cond.methodLink RX2 255 yX2_makeNextOffer, Cond.instanceMethod yX2_makeNextOffer, Cond.selects RX2 yX2_makeNextOffer yX2_makeNextOffer, Cond.code yX2_makeNextOffer cX2_makeNextOffer 6 (some .boolean), Cond.classLink RX2 127 "TaxiRank$Order", Cond.fieldLink RX2 141 "TaxiRank$Order" "due" "I", Cond.fieldLink RX2 152 "TaxiRank$Order" "state" "I", Cond.fieldLink RX2 267 "TaxiRank$Order" "cab" "LTaxiRank$Cab;", Cond.fieldLink RX2 271 "TaxiRank$Order" "offeredAt" "I", Cond.fieldLink RX2 251 "TaxiRank$Cab" "order" "LTaxiRank$Order;", Cond.methodLink RX2 197 yJx4a65c_get_915e3, Cond.instanceMethod yJx4a65c_get_915e3]
def wsL_act_r7 : List Cond := [Cond.selects RJx4a65c yJx4a65c_get_915e3 yJx4a65c_get_915e3, Cond.code yJx4a65c_get_915e3 cJx4a65c_get_915e3 2 (some (.object "java/lang/Object")), Cond.methodLink RJx4a65c 118 yJ15_checkIndex_7cf53, Cond.static yJ15_checkIndex_7cf53, Cond.initialized RJ15, Cond.code yJ15_checkIndex_7cf53 cJ15_checkIndex_7cf53 2 (some .int), Cond.methodLink RJ15 105 yJ3_checkIndex_8e157, Cond.static yJ3_checkIndex_8e157, Cond.initialized RJ3, Cond.code yJ3_checkIndex_8e157 cJ3_checkIndex_8e157 3 (some .int), Cond.methodLink RJx4a65c 123 yJx4a65c_elementData_915e3, Cond.instanceMethod yJx4a65c_elementData_915e3, Cond.selects RJx4a65c yJx4a65c_elementData_915e3 yJx4a65c_elementData_915e3, Cond.code yJx4a65c_elementData_915e3 cJx4a65c_elementData_915e3 2 (some (.object "java/lang/Object")), Cond.methodLink RX2 259 yX2_isLookedAt, Cond.instanceMethod yX2_isLookedAt, Cond.selects RX2 yX2_isLookedAt yX2_isLookedAt, Cond.code yX2_isLookedAt cX2_isLookedAt 2 (some .boolean), Cond.methodLink RX2 263 yX2_cabFor, Cond.instanceMethod yX2_cabFor, Cond.selects RX2 yX2_cabFor yX2_cabFor, Cond.code yX2_cabFor cX2_cabFor 7 (some (.object "TaxiRank$Cab")), Cond.classLink RX2 68 "TaxiRank$Cab", Cond.fieldLink RX2 101 "TaxiRank$Cab" "zone" "I"]
def wsL_act_r8 : List Cond := [Cond.fieldLink RX2 138 "TaxiRank$Order" "from" "I", Cond.fieldLink RX2 243 "TaxiRank$Cab" "turn" "I", Cond.methodLink RX2 274 yX2_canBeOffered, Cond.static yX2_canBeOffered, Cond.code yX2_canBeOffered cX2_canBeOffered 2 (some .boolean), Cond.fieldLink RX2 208 "TaxiRank$Cab" "seats" "I", Cond.fieldLink RX2 281 "TaxiRank$Order" "passengers" "I", Cond.fieldLink RX2 284 "TaxiRank$Order" "refusers" "I", Cond.methodLink RX2 204 yX2_isIdle, Cond.static yX2_isIdle, Cond.code yX2_isIdle cX2_isIdle 1 (some .boolean), Cond.fieldLink RX2 80 "TaxiRank$Cab" "state" "I", Cond.methodLink RX2 287 yX2_refuserBit, Cond.static yX2_refuserBit, Cond.code yX2_refuserBit cX2_refuserBit 1 (some .int), Cond.fieldLink RX2 250 "TaxiRank$Cab" "number" "I", Cond.methodLink RX2 278 yX2_rankOfZone, Cond.instanceMethod yX2_rankOfZone, Cond.selects RX2 yX2_rankOfZone yX2_rankOfZone, Cond.code yX2_rankOfZone cX2_rankOfZone 3 (some .int), Cond.methodLink RX2 43 yX2_wayBetween, Cond.instanceMethod yX2_wayBetween, Cond.selects RX2 yX2_wayBetween yX2_wayBetween, Cond.code yX2_wayBetween cX2_wayBetween 4 (some .int)]
def wsL_act_r9 : List Cond := [Cond.fieldLink RX2 9 "TaxiRank" "ways" "[I", Cond.methodLink RL 43 yX3_offer, Cond.instanceMethod yX3_offer, Cond.selects RX3 yX3_offer yX3_offer, Cond.initialized RX3, Cond.code yX3_offer cX3_offer 3 none, Cond.fieldLink RX3 44 "TaxiRankLaw$Rank" "all" "I", Cond.fieldLink RX3 19 "TaxiRankLaw$Rank" "orders" "[[I", Cond.fieldLink RX3 47 "TaxiRankLaw$Rank" "now" "I", Cond.fieldLink RX3 16 "TaxiRankLaw$Rank" "cabs" "[[I", Cond.methodLink RX3 50 yX3_choose, Cond.instanceMethod yX3_choose, Cond.selects RX3 yX3_choose yX3_choose, Cond.code yX3_choose cX3_choose 5 (some .int), Cond.fieldLink RX3 9 "TaxiRankLaw$Rank" "ways" "[[I", Cond.methodLink RX3 40 yX3_first, Cond.instanceMethod yX3_first, Cond.selects RX3 yX3_first yX3_first, Cond.code yX3_first cX3_first 5 (some .int), Cond.fieldLink RX3 22 "TaxiRankLaw$Rank" "queues" "[[I", Cond.fieldLink RX3 27 "TaxiRankLaw$Rank" "refused" "[[Z", Cond.methodLink RL 46 yX2_setWay, Cond.instanceMethod yX2_setWay, Cond.selects RX2 yX2_setWay yX2_setWay]
def wsL_act_r10 : List Cond := [Cond.code yX2_setWay cX2_setWay 5 (some .int), Cond.methodLink RX2 47 yX2_putWay, Cond.instanceMethod yX2_putWay, Cond.selects RX2 yX2_putWay yX2_putWay, Cond.code yX2_putWay cX2_putWay 5 none, Cond.methodLink RL 53 yX2_start, Cond.instanceMethod yX2_start, Cond.selects RX2 yX2_start yX2_start, Cond.code yX2_start cX2_start 3 (some .int), Cond.methodLink RX2 76 yX2_cabNumbered, Cond.instanceMethod yX2_cabNumbered, Cond.selects RX2 yX2_cabNumbered yX2_cabNumbered, Cond.code yX2_cabNumbered cX2_cabNumbered 2 (some (.object "TaxiRank$Cab")), Cond.methodLink RX2 85 yX2_joinQueue, Cond.instanceMethod yX2_joinQueue, Cond.selects RX2 yX2_joinQueue yX2_joinQueue, Cond.code yX2_joinQueue cX2_joinQueue 2 none, Cond.fieldLink RX2 240 "TaxiRank" "turnsGiven" "I", Cond.methodLink RX2 92 yX2_placeOf, Cond.instanceMethod yX2_placeOf, Cond.selects RX2 yX2_placeOf yX2_placeOf, Cond.code yX2_placeOf cX2_placeOf 5 (some .int), Cond.methodLink RX2 246 yX2_isInQueue, Cond.static yX2_isInQueue]
def wsL_act_r11 : List Cond := [Cond.code yX2_isInQueue cX2_isInQueue 2 (some .boolean), Cond.methodLink RL 57 yX2_stop, Cond.instanceMethod yX2_stop, Cond.selects RX2 yX2_stop yX2_stop, Cond.code yX2_stop cX2_stop 3 (some .int), Cond.methodLink RX2 98 yX2_turnDown, Cond.instanceMethod yX2_turnDown, Cond.selects RX2 yX2_turnDown yX2_turnDown, Cond.code yX2_turnDown cX2_turnDown 3 none, Cond.methodLink RX2 132 yX2_offeredTo, Cond.static yX2_offeredTo, Cond.code yX2_offeredTo cX2_offeredTo 1 (some (.object "TaxiRank$Order")), Cond.methodLink RL 60 yX2_accept, Cond.instanceMethod yX2_accept, Cond.selects RX2 yX2_accept yX2_accept, Cond.code yX2_accept cX2_accept 5 (some .int), Cond.methodLink RX2 144 Lib.Math.max.name, Cond.fieldLink RX2 149 "TaxiRank$Cab" "arrival" "I", Cond.methodLink RL 63 yX2_refuse, Cond.instanceMethod yX2_refuse, Cond.selects RX2 yX2_refuse yX2_refuse, Cond.code yX2_refuse cX2_refuse 4 (some .int), Cond.fieldLink RX2 153 "TaxiRank$Order" "number" "I", Cond.methodLink RL 66 yX2_cancel]
def wsL_act_r12 : List Cond := [Cond.instanceMethod yX2_cancel, Cond.selects RX2 yX2_cancel yX2_cancel, Cond.code yX2_cancel cX2_cancel 4 (some .int), Cond.methodLink RX2 156 yX2_orderNumbered, Cond.instanceMethod yX2_orderNumbered, Cond.selects RX2 yX2_orderNumbered yX2_orderNumbered, Cond.code yX2_orderNumbered cX2_orderNumbered 2 (some (.object "TaxiRank$Order")), Cond.methodLink RX2 162 yX2_releaseCab, Cond.instanceMethod yX2_releaseCab, Cond.selects RX2 yX2_releaseCab yX2_releaseCab, Cond.code yX2_releaseCab cX2_releaseCab 3 none, Cond.methodLink RL 69 yX2_tick, Cond.instanceMethod yX2_tick, Cond.selects RX2 yX2_tick yX2_tick, Cond.code yX2_tick cX2_tick 4 (some .int), Cond.methodLink RX2 179 yX2_passMinute, Cond.instanceMethod yX2_passMinute, Cond.selects RX2 yX2_passMinute yX2_passMinute, Cond.code yX2_passMinute cX2_passMinute 2 (some .int), Cond.methodLink RX2 290 yX2_refuseOldOffers, Cond.instanceMethod yX2_refuseOldOffers, Cond.selects RX2 yX2_refuseOldOffers yX2_refuseOldOffers, Cond.code yX2_refuseOldOffers cX2_refuseOldOffers 4 none, Cond.methodLink RX2 293 yX2_bringCabsOn]
def wsL_act_r13 : List Cond := [Cond.instanceMethod yX2_bringCabsOn, Cond.selects RX2 yX2_bringCabsOn yX2_bringCabsOn, Cond.code yX2_bringCabsOn cX2_bringCabsOn 5 (some .int), Cond.methodLink RX2 296 yX2_beginRide, Cond.instanceMethod yX2_beginRide, Cond.selects RX2 yX2_beginRide yX2_beginRide, Cond.code yX2_beginRide cX2_beginRide 4 none, Cond.fieldLink RX2 303 "TaxiRank$Order" "to" "I", Cond.fieldLink RX2 201 "TaxiRank$Order" "begunAt" "I", Cond.methodLink RX2 306 yX2_meterFare, Cond.instanceMethod yX2_meterFare, Cond.selects RX2 yX2_meterFare yX2_meterFare, Cond.code yX2_meterFare cX2_meterFare 3 none, Cond.fieldLink RX2 23 "TaxiRank" "baseRate" "I", Cond.fieldLink RX2 310 "TaxiRank$Order" "base" "I", Cond.fieldLink RX2 27 "TaxiRank" "wayRate" "I", Cond.fieldLink RX2 313 "TaxiRank$Order" "way" "I", Cond.methodLink RX2 211 Lib.Math.min.name, Cond.fieldLink RX2 316 "TaxiRank$Order" "waiting" "I", Cond.fieldLink RX2 319 "TaxiRank$Order" "night" "I", Cond.methodLink RX2 300 yX2_endRide, Cond.instanceMethod yX2_endRide, Cond.selects RX2 yX2_endRide yX2_endRide, Cond.code yX2_endRide cX2_endRide 5 none]
def wsL_act_r14 : List Cond := [Cond.fieldLink RX2 194 "TaxiRank$Cab" "kept" "I", Cond.fieldLink RX2 193 "TaxiRank$Cab" "due" "I", Cond.fieldLink RX2 326 "TaxiRank$Order" "doneAt" "I", Cond.methodLink RX2 322 yX2_wholeFare, Cond.static yX2_wholeFare, Cond.code yX2_wholeFare cX2_wholeFare 1 (some .int), Cond.methodLink RL 74 yX3_join, Cond.instanceMethod yX3_join, Cond.selects RX3 yX3_join yX3_join, Cond.code yX3_join cX3_join 3 (some .int), Cond.methodLink RL 77 yX3_refuse, Cond.instanceMethod yX3_refuse, Cond.selects RX3 yX3_refuse yX3_refuse, Cond.code yX3_refuse cX3_refuse 3 none, Cond.methodLink RL 80 yX3_leave, Cond.instanceMethod yX3_leave, Cond.selects RX3 yX3_leave yX3_leave, Cond.code yX3_leave cX3_leave 4 none, Cond.methodLink RL 84 yX3_accept, Cond.instanceMethod yX3_accept, Cond.selects RX3 yX3_accept yX3_accept, Cond.code yX3_accept cX3_accept 4 (some .int), Cond.methodLink RX3 54 yX3_leave, Cond.methodLink RL 85 yX3_back]
def wsL_act_r15 : List Cond := [Cond.instanceMethod yX3_back, Cond.selects RX3 yX3_back yX3_back, Cond.code yX3_back cX3_back 2 none, Cond.methodLink RX3 58 yX3_join, Cond.methodLink RL 88 yX3_cancel, Cond.instanceMethod yX3_cancel, Cond.selects RX3 yX3_cancel yX3_cancel, Cond.code yX3_cancel cX3_cancel 4 (some .int), Cond.methodLink RX3 61 yX3_free, Cond.instanceMethod yX3_free, Cond.selects RX3 yX3_free yX3_free, Cond.code yX3_free cX3_free 3 none, Cond.methodLink RL 89 yX3_minute, Cond.instanceMethod yX3_minute, Cond.selects RX3 yX3_minute yX3_minute, Cond.code yX3_minute cX3_minute 6 (some .int), Cond.fieldLink RX3 64 "TaxiRankLaw$Rank" "many" "I", Cond.fieldLink RX3 30 "TaxiRankLaw$Rank" "money" "[[I", Cond.fieldLink RX3 33 "TaxiRankLaw$Rank" "base" "I", Cond.fieldLink RX3 37 "TaxiRankLaw$Rank" "rate" "I", Cond.methodLink RX3 67 yX3_refuse, Cond.methodLink RX3 71 yX3_back, Cond.methodLink RX3 74 yX3_offer]
def wsL_act : List Cond := .codeWith yL_act cL_act 10 (some .boolean) [(467, 627, 630, 72)] :: ((wsL_act_r1 ++ (wsL_act_r2 ++ (wsL_act_r3 ++ (wsL_act_r4 ++ (wsL_act_r5 ++ (wsL_act_r6 ++ (wsL_act_r7 ++ (wsL_act_r8 ++ (wsL_act_r9 ++ (wsL_act_r10 ++ (wsL_act_r11 ++ (wsL_act_r12 ++ (wsL_act_r13 ++ (wsL_act_r14 ++ wsL_act_r15)))))))))))))) ++ wsX30 ++ wsX20 ++ wsX00 ++ wsJx4a65c0 ++ wsX10 ++ (vx_atS RX2 38 "java/lang/IllegalArgumentException" ["java/lang/RuntimeException", "java/lang/Exception"]).filter goodWord ++ (vx_atS RX2 67 "java/lang/IllegalStateException" ["java/lang/RuntimeException", "java/lang/Exception"]).filter goodWord ++ (vx_atS RX2 112 "java/lang/IndexOutOfBoundsException" ["java/lang/RuntimeException", "java/lang/Exception"]).filter goodWord)
def wsL_law0_r1 : List Cond := [Cond.classLink RL 26 RX2, Cond.instantiable RX2 7, Cond.initialized RX2, Cond.classLink RL 16 RX3, Cond.instantiable RX3 11, Cond.initialized RX3, Cond.arrayClass .int, Cond.fieldLink RL 30 "TaxiRankLaw$Rank" "all" "I", Cond.fieldLink RL 15 "TaxiRankLaw$Rank" "many" "I", Cond.fieldLink RL 36 "TaxiRankLaw$Rank" "orders" "[[I", Cond.fieldLink RL 106 "TaxiRankLaw$Rank" "refused" "[[Z", Cond.fieldLink RL 21 "TaxiRankLaw$Rank" "cabs" "[[I", Cond.methodLink RL 115 Lib.Math.max.name, Cond.static Lib.Math.max.name, Cond.initialized "java/lang/Math", Cond.code Lib.Math.max.name Lib.Math.max.code 2 (some .int), Cond.methodLink RL 93 yX2_init, Cond.instanceMethod yX2_init, Cond.code yX2_init cX2_init 2 none, Cond.methodLink RX2 1 objectInit, Cond.instanceMethod objectInit, Cond.code objectInit ⟨#[0xb1]⟩ 1 none, Cond.fieldLink RX2 9 "TaxiRank" "ways" "[I", Cond.classLink RX2 13 RJx4a65c]
def wsL_law0_r2 : List Cond := [Cond.instantiable RJx4a65c 3, Cond.initialized RJx4a65c, Cond.fieldLink RX2 16 "TaxiRank" "cabs" "Ljava/util/ArrayList;", Cond.fieldLink RX2 20 "TaxiRank" "orders" "Ljava/util/ArrayList;", Cond.fieldLink RX2 23 "TaxiRank" "baseRate" "I", Cond.fieldLink RX2 27 "TaxiRank" "wayRate" "I", Cond.methodLink RX2 15 yJx4a65c_init_da8c8, Cond.instanceMethod yJx4a65c_init_da8c8, Cond.code yJx4a65c_init_da8c8 cJx4a65c_init_da8c8 1 none, Cond.fieldLink RJx4a65c 39 "java/util/ArrayList" "DEFAULTCAPACITY_EMPTY_ELEMENTDATA" "[Ljava/lang/Object;", Cond.fieldLink RJx4a65c 9 "java/util/ArrayList" "elementData" "[Ljava/lang/Object;", Cond.methodLink RJx4a65c 1 yJxc12de_init_da8c8, Cond.instanceMethod yJxc12de_init_da8c8, Cond.initialized RJxc12de, Cond.code yJxc12de_init_da8c8 cJxc12de_init_da8c8 1 none, Cond.fieldLink RJxc12de 7 "java/util/AbstractList" "modCount" "I", Cond.methodLink RJxc12de 1 yJxa1e45_init_da8c8, Cond.instanceMethod yJxa1e45_init_da8c8, Cond.initialized RJxa1e45, Cond.code yJxa1e45_init_da8c8 cJxa1e45_init_da8c8 1 none, Cond.methodLink RJxa1e45 1 objectInit, Cond.methodLink RL 94 yX3_init, Cond.instanceMethod yX3_init, Cond.code yX3_init cX3_init 3 none]
def wsL_law0_r3 : List Cond := [Cond.methodLink RX3 1 objectInit, Cond.classLink RX3 7 "[[I", Cond.fieldLink RX3 9 "TaxiRankLaw$Rank" "ways" "[[I", Cond.classLink RX3 14 "[I", Cond.fieldLink RX3 16 "TaxiRankLaw$Rank" "cabs" "[[I", Cond.fieldLink RX3 19 "TaxiRankLaw$Rank" "orders" "[[I", Cond.fieldLink RX3 22 "TaxiRankLaw$Rank" "queues" "[[I", Cond.classLink RX3 25 "[[Z", Cond.arrayClass .boolean, Cond.fieldLink RX3 27 "TaxiRankLaw$Rank" "refused" "[[Z", Cond.fieldLink RX3 30 "TaxiRankLaw$Rank" "money" "[[I", Cond.fieldLink RX3 33 "TaxiRankLaw$Rank" "base" "I", Cond.fieldLink RX3 37 "TaxiRankLaw$Rank" "rate" "I", Cond.methodLink RL 95 yL_cell, Cond.static yL_cell, Cond.initialized RL, Cond.code yL_cell cL_cell 2 (some .int), Cond.constant RL 8 (790386105), Cond.methodLink RL 99 yL_act, Cond.static yL_act, Cond.codeWith yL_act cL_act 10 (some .boolean) [(467, 627, 630, 72)], Cond.classLink RL 72 "java/lang/IllegalStateException", Cond.fieldLink RL 33 "TaxiRankLaw$Rank" "now" "I", Cond.fieldLink RL 50 "TaxiRankLaw$Rank" "ways" "[[I"]
def wsL_law0_r4 : List Cond := [Cond.methodLink RL 9 yL_below, Cond.static yL_below, Cond.code yL_below cL_below 2 (some .int), Cond.constant RL 7 (2147483647), Cond.methodLink RL 25 yX2_addCab, Cond.instanceMethod yX2_addCab, Cond.selects RX2 yX2_addCab yX2_addCab, Cond.code yX2_addCab cX2_addCab 4 (some .int), Cond.classLink RX2 34 "java/lang/IllegalArgumentException", Cond.initialized "java/lang/IllegalArgumentException", Cond.classLink RX2 63 "java/lang/IllegalStateException", Cond.initialized "java/lang/IllegalStateException", Cond.classLink RX2 68 RX0, Cond.instantiable RX0 9, Cond.initialized RX0, Cond.methodLink RX2 53 yX2_isZone, Cond.static yX2_isZone, Cond.code yX2_isZone cX2_isZone 1 (some .boolean), Cond.methodLink RX2 59 yJx4a65c_size_8abf5, Cond.instanceMethod yJx4a65c_size_8abf5, Cond.selects RJx4a65c yJx4a65c_size_8abf5 yJx4a65c_size_8abf5, Cond.code yJx4a65c_size_8abf5 cJx4a65c_size_8abf5 1 (some .int), Cond.fieldLink RJx4a65c 48 "java/util/ArrayList" "size" "I", Cond.methodLink RX2 70 yX0_init]
def wsL_law0_r5 : List Cond := [Cond.instanceMethod yX0_init, Cond.code yX0_init cX0_init 4 none, Cond.methodLink RX0 3 objectInit, Cond.fieldLink RX0 9 "TaxiRank$Cab" "state" "I", Cond.fieldLink RX0 15 "TaxiRank$Cab" "number" "I", Cond.fieldLink RX0 18 "TaxiRank$Cab" "seats" "I", Cond.fieldLink RX0 21 "TaxiRank$Cab" "zone" "I", Cond.methodLink RX2 72 yJx4a65c_add_9ea2d, Cond.instanceMethod yJx4a65c_add_9ea2d, Cond.selects RJx4a65c yJx4a65c_add_9ea2d yJx4a65c_add_9ea2d, Cond.code yJx4a65c_add_9ea2d cJx4a65c_add_9ea2d 2 (some .boolean), Cond.fieldLink RJx4a65c 63 "java/util/ArrayList" "modCount" "I", Cond.sameField "java/util/ArrayList" "java/util/AbstractList" "modCount" "I", Cond.methodLink RJx4a65c 131 yJx4a65c_add_72be8, Cond.instanceMethod yJx4a65c_add_72be8, Cond.selects RJx4a65c yJx4a65c_add_72be8 yJx4a65c_add_72be8, Cond.code yJx4a65c_add_72be8 cJx4a65c_add_72be8 4 none, Cond.methodLink RJx4a65c 129 yJx4a65c_grow_d5877, Cond.instanceMethod yJx4a65c_grow_d5877, Cond.selects RJx4a65c yJx4a65c_grow_d5877 yJx4a65c_grow_d5877, Cond.code yJx4a65c_grow_d5877 cJx4a65c_grow_d5877 1 (some (.array (.object "java/lang/Object"))), Cond.methodLink RJx4a65c 69 yJx4a65c_grow_92f84, Cond.instanceMethod yJx4a65c_grow_92f84, Cond.selects RJx4a65c yJx4a65c_grow_92f84 yJx4a65c_grow_92f84]
def wsL_law0_r6 : List Cond := [Cond.code yJx4a65c_grow_92f84 cJx4a65c_grow_92f84 4 (some (.array (.object "java/lang/Object"))), Cond.methodLink RJx4a65c 79 Lib.Math.max.name, Cond.classLink RJx4a65c 7 "java/lang/Object", Cond.methodLink RJx4a65c 73 yJ8_newLength_cabcc, Cond.static yJ8_newLength_cabcc, Cond.initialized RJ8, Cond.code yJ8_newLength_cabcc cJ8_newLength_cabcc 4 (some .int), Cond.methodLink RJ8 194 Lib.Math.max.name, Cond.constant RJ8 200 (2147483639), Cond.methodLink RJ8 201 yJ8_hugeLength_7cf53, Cond.static yJ8_hugeLength_7cf53, Cond.code yJ8_hugeLength_7cf53 cJ8_hugeLength_7cf53 3 (some .int), Cond.methodLink RJx4a65c 66 yJ7_copyOf_1904c, Cond.static yJ7_copyOf_1904c, Cond.initialized RJ7, Cond.code yJ7_copyOf_1904c cJ7_copyOf_1904c 2 (some (.array (.object "java/lang/Object"))), Cond.methodLink RJ7 86 ⟨"java/lang/Object", "getClass", "()Ljava/lang/Class;"⟩, Cond.selects "[Ljava/lang/Object;" ⟨"java/lang/Object", "getClass", "()Ljava/lang/Class;"⟩ ⟨"java/lang/Object", "getClass", "()Ljava/lang/Class;"⟩, Cond.instanceMethod ⟨"java/lang/Object", "getClass", "()Ljava/lang/Class;"⟩, Cond.native ⟨"java/lang/Object", "getClass", "()Ljava/lang/Class;"⟩, Cond.methodLink RJ7 300 yJ7_copyOf_6403c, Cond.static yJ7_copyOf_6403c, Cond.code yJ7_copyOf_6403c cJ7_copyOf_6403c 4 (some (.array (.object "java/lang/Object"))), Cond.classLink RJ7 110 "[Ljava/lang/Object;"]
def wsL_law0_r7 : List Cond := [Cond.classLink RJ7 2 "java/lang/Object", Cond.methodLink RJ7 304 Lib.Math.min.name, Cond.static Lib.Math.min.name, Cond.code Lib.Math.min.name Lib.Math.min.code 2 (some .int), Cond.methodLink RJ7 150 arraycopyName, Cond.native arraycopyName, Cond.static arraycopyName, Cond.initialized "java/lang/System", Cond.methodLink RL 39 yX2_order, Cond.instanceMethod yX2_order, Cond.selects RX2 yX2_order yX2_order, Cond.code yX2_order cX2_order 6 (some .int), Cond.fieldLink RX2 120 "TaxiRank" "time" "I", Cond.classLink RX2 127 RX1, Cond.instantiable RX1 15, Cond.initialized RX1, Cond.methodLink RX2 30 yX2_requireZone, Cond.static yX2_requireZone, Cond.code yX2_requireZone cX2_requireZone 1 none, Cond.classLink RX2 108 "java/lang/IndexOutOfBoundsException", Cond.initialized "java/lang/IndexOutOfBoundsException", Cond.methodLink RX2 117 yX2_requirePassengers, Cond.static yX2_requirePassengers, Cond.code yX2_requirePassengers cX2_requirePassengers 1 none]
def wsL_law0_r8 : List Cond := [Cond.methodLink RX2 129 yX1_init, Cond.instanceMethod yX1_init, Cond.code yX1_init cX1_init 6 none, Cond.methodLink RX1 3 objectInit, Cond.fieldLink RX1 9 "TaxiRank$Order" "state" "I", Cond.fieldLink RX1 15 "TaxiRank$Order" "begunAt" "I", Cond.fieldLink RX1 18 "TaxiRank$Order" "doneAt" "I", Cond.fieldLink RX1 21 "TaxiRank$Order" "number" "I", Cond.fieldLink RX1 24 "TaxiRank$Order" "from" "I", Cond.fieldLink RX1 27 "TaxiRank$Order" "to" "I", Cond.fieldLink RX1 30 "TaxiRank$Order" "passengers" "I", Cond.fieldLink RX1 33 "TaxiRank$Order" "due" "I", Cond.methodLink RX2 89 yX2_makeOffers, Cond.instanceMethod yX2_makeOffers, Cond.selects RX2 yX2_makeOffers yX2_makeOffers, Cond.code yX2_makeOffers cX2_makeOffers 3 none, Cond.methodLink RX2 255 yX2_makeNextOffer, Cond.instanceMethod yX2_makeNextOffer, Cond.selects RX2 yX2_makeNextOffer yX2_makeNextOffer, Cond.code yX2_makeNextOffer cX2_makeNextOffer 6 (some .boolean), Cond.classLink RX2 127 "TaxiRank$Order", Cond.fieldLink RX2 141 "TaxiRank$Order" "due" "I", Cond.fieldLink RX2 152 "TaxiRank$Order" "state" "I", Cond.fieldLink RX2 267 "TaxiRank$Order" "cab" "LTaxiRank$Cab;"]
def wsL_law0_r9 : List Cond := [Cond.fieldLink RX2 271 "TaxiRank$Order" "offeredAt" "I", Cond.fieldLink RX2 251 "TaxiRank$Cab" "order" "LTaxiRank$Order;", Cond.methodLink RX2 197 yJx4a65c_get_915e3, Cond.instanceMethod yJx4a65c_get_915e3, Cond.selects RJx4a65c yJx4a65c_get_915e3 yJx4a65c_get_915e3, Cond.code yJx4a65c_get_915e3 cJx4a65c_get_915e3 2 (some (.object "java/lang/Object")), Cond.methodLink RJx4a65c 118 yJ15_checkIndex_7cf53, Cond.static yJ15_checkIndex_7cf53, Cond.initialized RJ15, Cond.code yJ15_checkIndex_7cf53 cJ15_checkIndex_7cf53 2 (some .int), Cond.methodLink RJ15 105 yJ3_checkIndex_8e157, Cond.static yJ3_checkIndex_8e157, Cond.initialized RJ3, Cond.code yJ3_checkIndex_8e157 cJ3_checkIndex_8e157 3 (some .int), Cond.methodLink RJx4a65c 123 yJx4a65c_elementData_915e3, Cond.instanceMethod yJx4a65c_elementData_915e3, Cond.selects RJx4a65c yJx4a65c_elementData_915e3 yJx4a65c_elementData_915e3, Cond.code yJx4a65c_elementData_915e3 cJx4a65c_elementData_915e3 2 (some (.object "java/lang/Object")), Cond.methodLink RX2 259 yX2_isLookedAt, Cond.instanceMethod yX2_isLookedAt, Cond.selects RX2 yX2_isLookedAt yX2_isLookedAt, Cond.code yX2_isLookedAt cX2_isLookedAt 2 (some .boolean), Cond.methodLink RX2 263 yX2_cabFor, Cond.instanceMethod yX2_cabFor]
def wsL_law0_r10 : List Cond := [Cond.selects RX2 yX2_cabFor yX2_cabFor, Cond.code yX2_cabFor cX2_cabFor 7 (some (.object "TaxiRank$Cab")), Cond.classLink RX2 68 "TaxiRank$Cab", Cond.fieldLink RX2 101 "TaxiRank$Cab" "zone" "I", Cond.fieldLink RX2 138 "TaxiRank$Order" "from" "I", Cond.fieldLink RX2 243 "TaxiRank$Cab" "turn" "I", Cond.methodLink RX2 274 yX2_canBeOffered, Cond.static yX2_canBeOffered, Cond.code yX2_canBeOffered cX2_canBeOffered 2 (some .boolean), Cond.fieldLink RX2 208 "TaxiRank$Cab" "seats" "I", Cond.fieldLink RX2 281 "TaxiRank$Order" "passengers" "I", Cond.fieldLink RX2 284 "TaxiRank$Order" "refusers" "I", Cond.methodLink RX2 204 yX2_isIdle, Cond.static yX2_isIdle, Cond.code yX2_isIdle cX2_isIdle 1 (some .boolean), Cond.fieldLink RX2 80 "TaxiRank$Cab" "state" "I", Cond.methodLink RX2 287 yX2_refuserBit, Cond.static yX2_refuserBit, Cond.code yX2_refuserBit cX2_refuserBit 1 (some .int), Cond.fieldLink RX2 250 "TaxiRank$Cab" "number" "I", Cond.methodLink RX2 278 yX2_rankOfZone, Cond.instanceMethod yX2_rankOfZone, Cond.selects RX2 yX2_rankOfZone yX2_rankOfZone, Cond.code yX2_rankOfZone cX2_rankOfZone 3 (some .int)]
def wsL_law0_r11 : List Cond := [Cond.methodLink RX2 43 yX2_wayBetween, Cond.instanceMethod yX2_wayBetween, Cond.selects RX2 yX2_wayBetween yX2_wayBetween, Cond.code yX2_wayBetween cX2_wayBetween 4 (some .int), Cond.methodLink RL 43 yX3_offer, Cond.instanceMethod yX3_offer, Cond.selects RX3 yX3_offer yX3_offer, Cond.code yX3_offer cX3_offer 3 none, Cond.fieldLink RX3 44 "TaxiRankLaw$Rank" "all" "I", Cond.fieldLink RX3 47 "TaxiRankLaw$Rank" "now" "I", Cond.methodLink RX3 50 yX3_choose, Cond.instanceMethod yX3_choose, Cond.selects RX3 yX3_choose yX3_choose, Cond.code yX3_choose cX3_choose 5 (some .int), Cond.methodLink RX3 40 yX3_first, Cond.instanceMethod yX3_first, Cond.selects RX3 yX3_first yX3_first, Cond.code yX3_first cX3_first 5 (some .int), Cond.methodLink RL 46 yX2_setWay, Cond.instanceMethod yX2_setWay, Cond.selects RX2 yX2_setWay yX2_setWay, Cond.code yX2_setWay cX2_setWay 5 (some .int), Cond.methodLink RX2 47 yX2_putWay, Cond.instanceMethod yX2_putWay]
def wsL_law0_r12 : List Cond := [Cond.selects RX2 yX2_putWay yX2_putWay, Cond.code yX2_putWay cX2_putWay 5 none, Cond.methodLink RL 53 yX2_start, Cond.instanceMethod yX2_start, Cond.selects RX2 yX2_start yX2_start, Cond.code yX2_start cX2_start 3 (some .int), Cond.methodLink RX2 76 yX2_cabNumbered, Cond.instanceMethod yX2_cabNumbered, Cond.selects RX2 yX2_cabNumbered yX2_cabNumbered, Cond.code yX2_cabNumbered cX2_cabNumbered 2 (some (.object "TaxiRank$Cab")), Cond.methodLink RX2 85 yX2_joinQueue, Cond.instanceMethod yX2_joinQueue, Cond.selects RX2 yX2_joinQueue yX2_joinQueue, Cond.code yX2_joinQueue cX2_joinQueue 2 none, Cond.fieldLink RX2 240 "TaxiRank" "turnsGiven" "I", Cond.methodLink RX2 92 yX2_placeOf, Cond.instanceMethod yX2_placeOf, Cond.selects RX2 yX2_placeOf yX2_placeOf, Cond.code yX2_placeOf cX2_placeOf 5 (some .int), Cond.methodLink RX2 246 yX2_isInQueue, Cond.static yX2_isInQueue, Cond.code yX2_isInQueue cX2_isInQueue 2 (some .boolean), Cond.methodLink RL 57 yX2_stop, Cond.instanceMethod yX2_stop]
def wsL_law0_r13 : List Cond := [Cond.selects RX2 yX2_stop yX2_stop, Cond.code yX2_stop cX2_stop 3 (some .int), Cond.methodLink RX2 98 yX2_turnDown, Cond.instanceMethod yX2_turnDown, Cond.selects RX2 yX2_turnDown yX2_turnDown, Cond.code yX2_turnDown cX2_turnDown 3 none, Cond.methodLink RX2 132 yX2_offeredTo, Cond.static yX2_offeredTo, Cond.code yX2_offeredTo cX2_offeredTo 1 (some (.object "TaxiRank$Order")), Cond.methodLink RL 60 yX2_accept, Cond.instanceMethod yX2_accept, Cond.selects RX2 yX2_accept yX2_accept, Cond.code yX2_accept cX2_accept 5 (some .int), Cond.methodLink RX2 144 Lib.Math.max.name, Cond.fieldLink RX2 149 "TaxiRank$Cab" "arrival" "I", Cond.methodLink RL 63 yX2_refuse, Cond.instanceMethod yX2_refuse, Cond.selects RX2 yX2_refuse yX2_refuse, Cond.code yX2_refuse cX2_refuse 4 (some .int), Cond.fieldLink RX2 153 "TaxiRank$Order" "number" "I", Cond.methodLink RL 66 yX2_cancel, Cond.instanceMethod yX2_cancel, Cond.selects RX2 yX2_cancel yX2_cancel, Cond.code yX2_cancel cX2_cancel 4 (some .int)]
def wsL_law0_r14 : List Cond := [Cond.methodLink RX2 156 yX2_orderNumbered, Cond.instanceMethod yX2_orderNumbered, Cond.selects RX2 yX2_orderNumbered yX2_orderNumbered, Cond.code yX2_orderNumbered cX2_orderNumbered 2 (some (.object "TaxiRank$Order")), Cond.methodLink RX2 162 yX2_releaseCab, Cond.instanceMethod yX2_releaseCab, Cond.selects RX2 yX2_releaseCab yX2_releaseCab, Cond.code yX2_releaseCab cX2_releaseCab 3 none, Cond.methodLink RL 69 yX2_tick, Cond.instanceMethod yX2_tick, Cond.selects RX2 yX2_tick yX2_tick, Cond.code yX2_tick cX2_tick 4 (some .int), Cond.methodLink RX2 179 yX2_passMinute, Cond.instanceMethod yX2_passMinute, Cond.selects RX2 yX2_passMinute yX2_passMinute, Cond.code yX2_passMinute cX2_passMinute 2 (some .int), Cond.methodLink RX2 290 yX2_refuseOldOffers, Cond.instanceMethod yX2_refuseOldOffers, Cond.selects RX2 yX2_refuseOldOffers yX2_refuseOldOffers, Cond.code yX2_refuseOldOffers cX2_refuseOldOffers 4 none, Cond.methodLink RX2 293 yX2_bringCabsOn, Cond.instanceMethod yX2_bringCabsOn, Cond.selects RX2 yX2_bringCabsOn yX2_bringCabsOn, Cond.code yX2_bringCabsOn cX2_bringCabsOn 5 (some .int)]
def wsL_law0_r15 : List Cond := [Cond.methodLink RX2 296 yX2_beginRide, Cond.instanceMethod yX2_beginRide, Cond.selects RX2 yX2_beginRide yX2_beginRide, Cond.code yX2_beginRide cX2_beginRide 4 none, Cond.fieldLink RX2 303 "TaxiRank$Order" "to" "I", Cond.fieldLink RX2 201 "TaxiRank$Order" "begunAt" "I", Cond.methodLink RX2 306 yX2_meterFare, Cond.instanceMethod yX2_meterFare, Cond.selects RX2 yX2_meterFare yX2_meterFare, Cond.code yX2_meterFare cX2_meterFare 3 none, Cond.fieldLink RX2 310 "TaxiRank$Order" "base" "I", Cond.fieldLink RX2 313 "TaxiRank$Order" "way" "I", Cond.methodLink RX2 211 Lib.Math.min.name, Cond.fieldLink RX2 316 "TaxiRank$Order" "waiting" "I", Cond.fieldLink RX2 319 "TaxiRank$Order" "night" "I", Cond.methodLink RX2 300 yX2_endRide, Cond.instanceMethod yX2_endRide, Cond.selects RX2 yX2_endRide yX2_endRide, Cond.code yX2_endRide cX2_endRide 5 none, Cond.fieldLink RX2 194 "TaxiRank$Cab" "kept" "I", Cond.fieldLink RX2 193 "TaxiRank$Cab" "due" "I", Cond.fieldLink RX2 326 "TaxiRank$Order" "doneAt" "I", Cond.methodLink RX2 322 yX2_wholeFare, Cond.static yX2_wholeFare]
def wsL_law0_r16 : List Cond := [Cond.code yX2_wholeFare cX2_wholeFare 1 (some .int), Cond.methodLink RL 74 yX3_join, Cond.instanceMethod yX3_join, Cond.selects RX3 yX3_join yX3_join, Cond.code yX3_join cX3_join 3 (some .int), Cond.methodLink RL 77 yX3_refuse, Cond.instanceMethod yX3_refuse, Cond.selects RX3 yX3_refuse yX3_refuse, Cond.code yX3_refuse cX3_refuse 3 none, Cond.methodLink RL 80 yX3_leave, Cond.instanceMethod yX3_leave, Cond.selects RX3 yX3_leave yX3_leave, Cond.code yX3_leave cX3_leave 4 none, Cond.methodLink RL 84 yX3_accept, Cond.instanceMethod yX3_accept, Cond.selects RX3 yX3_accept yX3_accept, Cond.code yX3_accept cX3_accept 4 (some .int), Cond.methodLink RX3 54 yX3_leave, Cond.methodLink RL 85 yX3_back, Cond.instanceMethod yX3_back, Cond.selects RX3 yX3_back yX3_back, Cond.code yX3_back cX3_back 2 none, Cond.methodLink RX3 58 yX3_join, Cond.methodLink RL 88 yX3_cancel]
def wsL_law0_r17 : List Cond := [Cond.instanceMethod yX3_cancel, Cond.selects RX3 yX3_cancel yX3_cancel, Cond.code yX3_cancel cX3_cancel 4 (some .int), Cond.methodLink RX3 61 yX3_free, Cond.instanceMethod yX3_free, Cond.selects RX3 yX3_free yX3_free, Cond.code yX3_free cX3_free 3 none, Cond.methodLink RL 89 yX3_minute, Cond.instanceMethod yX3_minute, Cond.selects RX3 yX3_minute yX3_minute, Cond.code yX3_minute cX3_minute 6 (some .int), Cond.fieldLink RX3 64 "TaxiRankLaw$Rank" "many" "I", Cond.methodLink RX3 67 yX3_refuse, Cond.methodLink RX3 71 yX3_back, Cond.methodLink RX3 74 yX3_offer, Cond.methodLink RL 103 yX2_told, Cond.instanceMethod yX2_told, Cond.selects RX2 yX2_told yX2_told, Cond.code yX2_told cX2_told 4 (some .int), Cond.methodLink RX2 166 yX2_orderDetail, Cond.static yX2_orderDetail, Cond.code yX2_orderDetail cX2_orderDetail 2 (some .int), Cond.methodLink RX2 329 yJ6_bitCount_0f7a4, Cond.static yJ6_bitCount_0f7a4]
def wsL_law0_r18 : List Cond := [Cond.initialized RJ6, Cond.code yJ6_bitCount_0f7a4 cJ6_bitCount_0f7a4 1 (some .int), Cond.constant RJ6 265 (1431655765), Cond.constant RJ6 266 (858993459), Cond.constant RJ6 267 (252645135), Cond.methodLink RL 110 yX2_cab, Cond.instanceMethod yX2_cab, Cond.selects RX2 yX2_cab yX2_cab, Cond.code yX2_cab cX2_cab 4 (some .int), Cond.methodLink RX2 113 yX2_cabDetail, Cond.instanceMethod yX2_cabDetail, Cond.selects RX2 yX2_cabDetail yX2_cabDetail, Cond.code yX2_cabDetail cX2_cabDetail 3 (some .int), Cond.methodLink RL 113 yX2_now, Cond.instanceMethod yX2_now, Cond.selects RX2 yX2_now yX2_now, Cond.code yX2_now cX2_now 1 (some .int), Cond.methodLink RL 120 yX2_count, Cond.instanceMethod yX2_count, Cond.selects RX2 yX2_count yX2_count, Cond.code yX2_count cX2_count 2 (some .int), Cond.methodLink RX2 189 yX2_ordersInState, Cond.instanceMethod yX2_ordersInState, Cond.selects RX2 yX2_ordersInState yX2_ordersInState]
def wsL_law0_r19 : List Cond := [Cond.code yX2_ordersInState cX2_ordersInState 4 (some .int)]
def wsL_law0 : List Cond := (wsL_law0_r1 ++ (wsL_law0_r2 ++ (wsL_law0_r3 ++ (wsL_law0_r4 ++ (wsL_law0_r5 ++ (wsL_law0_r6 ++ (wsL_law0_r7 ++ (wsL_law0_r8 ++ (wsL_law0_r9 ++ (wsL_law0_r10 ++ (wsL_law0_r11 ++ (wsL_law0_r12 ++ (wsL_law0_r13 ++ (wsL_law0_r14 ++ (wsL_law0_r15 ++ (wsL_law0_r16 ++ (wsL_law0_r17 ++ (wsL_law0_r18 ++ wsL_law0_r19)))))))))))))))))) ++ wsX20 ++ wsX30 ++ wsJx4a65c0 ++ wsX00 ++ wsX10 ++ ([] : List Cond)
def wsL_law : List Cond := wsL_law0 ++ (vx_atS RX2 38 "java/lang/IllegalArgumentException" ["java/lang/RuntimeException", "java/lang/Exception"]).filter goodWord ++ (vx_atS RX2 67 "java/lang/IllegalStateException" ["java/lang/RuntimeException", "java/lang/Exception"]).filter goodWord ++ (vx_atS RX2 112 "java/lang/IndexOutOfBoundsException" ["java/lang/RuntimeException", "java/lang/Exception"]).filter goodWord
end
section
set_option maxRecDepth 20000 in
theorem zi_wsL_law0_r1 : ∀ w ∈ wsL_law0_r1, w ∈ lw_tbl := fun w h => (goodIn_p wsL_law0_r1 [456, 52, 55] (by decide +kernel) (by decide +kernel) w h).1
set_option maxRecDepth 20000 in
theorem zi_wsL_law0_r2 : ∀ w ∈ wsL_law0_r2, w ∈ lw_tbl := fun w h => (goodIn_p wsL_law0_r2 [60, 63, 66, 312] (by decide +kernel) (by decide +kernel) w h).1
def wsL_law0_r3_a : List Cond := [Cond.methodLink RX3 1 objectInit, Cond.classLink RX3 7 "[[I", Cond.fieldLink RX3 9 "TaxiRankLaw$Rank" "ways" "[[I", Cond.classLink RX3 14 "[I", Cond.fieldLink RX3 16 "TaxiRankLaw$Rank" "cabs" "[[I", Cond.fieldLink RX3 19 "TaxiRankLaw$Rank" "orders" "[[I", Cond.fieldLink RX3 22 "TaxiRankLaw$Rank" "queues" "[[I", Cond.classLink RX3 25 "[[Z", Cond.arrayClass .boolean, Cond.fieldLink RX3 27 "TaxiRankLaw$Rank" "refused" "[[Z", Cond.fieldLink RX3 30 "TaxiRankLaw$Rank" "money" "[[I", Cond.fieldLink RX3 33 "TaxiRankLaw$Rank" "base" "I", Cond.fieldLink RX3 37 "TaxiRankLaw$Rank" "rate" "I", Cond.methodLink RL 95 yL_cell, Cond.static yL_cell, Cond.initialized RL, Cond.code yL_cell cL_cell 2 (some .int), Cond.constant RL 8 (790386105), Cond.methodLink RL 99 yL_act, Cond.static yL_act]
def wsL_law0_r3_b : List Cond := [Cond.classLink RL 72 "java/lang/IllegalStateException", Cond.fieldLink RL 33 "TaxiRankLaw$Rank" "now" "I", Cond.fieldLink RL 50 "TaxiRankLaw$Rank" "ways" "[[I"]
set_option maxRecDepth 20000 in
theorem zi_wsL_law0_r3_a : ∀ w ∈ wsL_law0_r3_a, w ∈ lw_tbl := fun w h => (goodIn_p wsL_law0_r3_a [363] (by decide +kernel) (by decide +kernel) w h).1
set_option maxRecDepth 20000 in
theorem zi_wsL_law0_r3_b : ∀ w ∈ wsL_law0_r3_b, w ∈ lw_tbl := fun w h => (goodIn_p wsL_law0_r3_b [] (by decide +kernel) (by decide +kernel) w h).1
set_option maxRecDepth 20000 in
theorem zi_wsL_law0_r3_c : lw_tbl[367]? = some (Cond.codeWith yL_act cL_act 10 (some .boolean) [(467, 627, 630, 72)]) := rfl
theorem zi_wsL_law0_r3 : ∀ w ∈ wsL_law0_r3, w ∈ lw_tbl := by
  have e : wsL_law0_r3 = wsL_law0_r3_a ++ ([Cond.codeWith yL_act cL_act 10 (some .boolean) [(467, 627, 630, 72)]] ++ wsL_law0_r3_b) := rfl
  rw [e]
  exact List.forall_mem_append.mpr ⟨zi_wsL_law0_r3_a, List.forall_mem_append.mpr ⟨fun w h => by rw [List.mem_singleton.mp h]; exact List.mem_of_getElem? zi_wsL_law0_r3_c, zi_wsL_law0_r3_b⟩⟩
set_option maxRecDepth 20000 in
theorem zi_wsL_law0_r4 : ∀ w ∈ wsL_law0_r4, w ∈ lw_tbl := fun w h => (goodIn_p wsL_law0_r4 [371, 376, 395, 116] (by decide +kernel) (by decide +kernel) w h).1
set_option maxRecDepth 20000 in
theorem zi_wsL_law0_r5 : ∀ w ∈ wsL_law0_r5, w ∈ lw_tbl := fun w h => (goodIn_p wsL_law0_r5 [401, 438, 442, 446] (by decide +kernel) (by decide +kernel) w h).1
set_option maxRecDepth 20000 in
theorem zi_wsL_law0_r6 : ∀ w ∈ wsL_law0_r6, w ∈ lw_tbl := fun w h => (goodIn_p wsL_law0_r6 [450, 453, 460, 463, 478] (by decide +kernel) (by decide +kernel) w h).1
set_option maxRecDepth 20000 in
theorem zi_wsL_law0_r7 : ∀ w ∈ wsL_law0_r7, w ∈ lw_tbl := fun w h => (goodIn_p wsL_law0_r7 [484, 493, 496, 500] (by decide +kernel) (by decide +kernel) w h).1
set_option maxRecDepth 20000 in
theorem zi_wsL_law0_r8 : ∀ w ∈ wsL_law0_r8, w ∈ lw_tbl := fun w h => (goodIn_p wsL_law0_r8 [507, 249, 253] (by decide +kernel) (by decide +kernel) w h).1
set_option maxRecDepth 20000 in
theorem zi_wsL_law0_r9 : ∀ w ∈ wsL_law0_r9, w ∈ lw_tbl := fun w h => (goodIn_p wsL_law0_r9 [188, 191, 194, 198, 258] (by decide +kernel) (by decide +kernel) w h).1
set_option maxRecDepth 20000 in
theorem zi_wsL_law0_r10 : ∀ w ∈ wsL_law0_r10, w ∈ lw_tbl := fun w h => (goodIn_p wsL_law0_r10 [262, 265, 268, 241, 272] (by decide +kernel) (by decide +kernel) w h).1
set_option maxRecDepth 20000 in
theorem zi_wsL_law0_r11 : ∀ w ∈ wsL_law0_r11, w ∈ lw_tbl := fun w h => (goodIn_p wsL_law0_r11 [276, 566, 570, 574, 578] (by decide +kernel) (by decide +kernel) w h).1
set_option maxRecDepth 20000 in
theorem zi_wsL_law0_r12 : ∀ w ∈ wsL_law0_r12, w ∈ lw_tbl := fun w h => (goodIn_p wsL_law0_r12 [584, 588, 112, 245, 208, 211] (by decide +kernel) (by decide +kernel) w h).1
set_option maxRecDepth 20000 in
theorem zi_wsL_law0_r13 : ∀ w ∈ wsL_law0_r13, w ∈ lw_tbl := fun w h => (goodIn_p wsL_law0_r13 [593, 238, 218, 598, 215, 603] (by decide +kernel) (by decide +kernel) w h).1
set_option maxRecDepth 20000 in
theorem zi_wsL_law0_r14 : ∀ w ∈ wsL_law0_r14, w ∈ lw_tbl := fun w h => (goodIn_p wsL_law0_r14 [284, 608, 612, 618, 622, 626] (by decide +kernel) (by decide +kernel) w h).1
set_option maxRecDepth 20000 in
theorem zi_wsL_law0_r15 : ∀ w ∈ wsL_law0_r15, w ∈ lw_tbl := fun w h => (goodIn_p wsL_law0_r15 [630, 634, 639] (by decide +kernel) (by decide +kernel) w h).1
set_option maxRecDepth 20000 in
theorem zi_wsL_law0_r16 : ∀ w ∈ wsL_law0_r16, w ∈ lw_tbl := fun w h => (goodIn_p wsL_law0_r16 [642, 646, 650, 654, 658, 663] (by decide +kernel) (by decide +kernel) w h).1
set_option maxRecDepth 20000 in
theorem zi_wsL_law0_r17 : ∀ w ∈ wsL_law0_r17, w ∈ lw_tbl := fun w h => (goodIn_p wsL_law0_r17 [668, 672, 676, 280, 288] (by decide +kernel) (by decide +kernel) w h).1
set_option maxRecDepth 20000 in
theorem zi_wsL_law0_r18 : ∀ w ∈ wsL_law0_r18, w ∈ lw_tbl := fun w h => (goodIn_p wsL_law0_r18 [291, 108, 204, 298, 302] (by decide +kernel) (by decide +kernel) w h).1
set_option maxRecDepth 20000 in
theorem zi_wsL_law0_r19 : ∀ w ∈ wsL_law0_r19, w ∈ lw_tbl := fun w h => (goodIn_p wsL_law0_r19 [307] (by decide +kernel) (by decide +kernel) w h).1
set_option maxRecDepth 20000 in
theorem zi_wsX20 : ∀ w ∈ wsX20, w ∈ lw_tbl := by decide +kernel
set_option maxRecDepth 20000 in
theorem zi_wsX30 : ∀ w ∈ wsX30, w ∈ lw_tbl := by decide +kernel
set_option maxRecDepth 20000 in
theorem zi_wsJx4a65c0 : ∀ w ∈ wsJx4a65c0, w ∈ lw_tbl := by decide +kernel
set_option maxRecDepth 20000 in
theorem zi_wsX00 : ∀ w ∈ wsX00, w ∈ lw_tbl := by decide +kernel
set_option maxRecDepth 20000 in
theorem zi_wsX10 : ∀ w ∈ wsX10, w ∈ lw_tbl := by decide +kernel
theorem wsL_law_in0 : ∀ w ∈ wsL_law0, w ∈ lw_tbl := (List.forall_mem_append.mpr ⟨(List.forall_mem_append.mpr ⟨(List.forall_mem_append.mpr ⟨(List.forall_mem_append.mpr ⟨(List.forall_mem_append.mpr ⟨(List.forall_mem_append.mpr ⟨(List.forall_mem_append.mpr ⟨zi_wsL_law0_r1, (List.forall_mem_append.mpr ⟨zi_wsL_law0_r2, (List.forall_mem_append.mpr ⟨zi_wsL_law0_r3, (List.forall_mem_append.mpr ⟨zi_wsL_law0_r4, (List.forall_mem_append.mpr ⟨zi_wsL_law0_r5, (List.forall_mem_append.mpr ⟨zi_wsL_law0_r6, (List.forall_mem_append.mpr ⟨zi_wsL_law0_r7, (List.forall_mem_append.mpr ⟨zi_wsL_law0_r8, (List.forall_mem_append.mpr ⟨zi_wsL_law0_r9, (List.forall_mem_append.mpr ⟨zi_wsL_law0_r10, (List.forall_mem_append.mpr ⟨zi_wsL_law0_r11, (List.forall_mem_append.mpr ⟨zi_wsL_law0_r12, (List.forall_mem_append.mpr ⟨zi_wsL_law0_r13, (List.forall_mem_append.mpr ⟨zi_wsL_law0_r14, (List.forall_mem_append.mpr ⟨zi_wsL_law0_r15, (List.forall_mem_append.mpr ⟨zi_wsL_law0_r16, (List.forall_mem_append.mpr ⟨zi_wsL_law0_r17, (List.forall_mem_append.mpr ⟨zi_wsL_law0_r18, zi_wsL_law0_r19⟩)⟩)⟩)⟩)⟩)⟩)⟩)⟩)⟩)⟩)⟩)⟩)⟩)⟩)⟩)⟩)⟩)⟩), zi_wsX20⟩), zi_wsX30⟩), zi_wsJx4a65c0⟩), zi_wsX00⟩), zi_wsX10⟩), fun _ h => nomatch h⟩)
end
section
theorem wsL_law_x0 : ∀ w ∈ (vx_atS RX2 38 "java/lang/IllegalArgumentException" ["java/lang/RuntimeException", "java/lang/Exception"]).filter goodWord, w ∈ lw_tbl := by decide +kernel
theorem wsL_law_x1 : ∀ w ∈ (vx_atS RX2 67 "java/lang/IllegalStateException" ["java/lang/RuntimeException", "java/lang/Exception"]).filter goodWord, w ∈ lw_tbl := by decide +kernel
theorem wsL_law_x2 : ∀ w ∈ (vx_atS RX2 112 "java/lang/IndexOutOfBoundsException" ["java/lang/RuntimeException", "java/lang/Exception"]).filter goodWord, w ∈ lw_tbl := by decide +kernel
theorem wsL_law_in : ∀ w ∈ wsL_law, w ∈ lw_tbl := fun w h => (List.mem_append.mp h).elim (fun h => (List.mem_append.mp h).elim (fun h => (List.mem_append.mp h).elim (fun h => wsL_law_in0 w h) (fun h => wsL_law_x0 w h)) (fun h => wsL_law_x1 w h)) (fun h => wsL_law_x2 w h)
theorem inlX0 : ∀ w ∈ wsX00, w ∈ wsL_law := fun _ h => List.mem_append_left _ (List.mem_append_left _ (List.mem_append_left _ (List.mem_append_left _ (List.mem_append_left _ (List.mem_append_right _ h)))))
theorem inX0 : ∀ w ∈ wsX00, w ∈ lw_tbl := fun w h => wsL_law_in w (inlX0 w h)
theorem inlX1 : ∀ w ∈ wsX10, w ∈ wsL_law := fun _ h => List.mem_append_left _ (List.mem_append_left _ (List.mem_append_left _ (List.mem_append_left _ (List.mem_append_right _ h))))
theorem inX1 : ∀ w ∈ wsX10, w ∈ lw_tbl := fun w h => wsL_law_in w (inlX1 w h)
theorem inlX2 : ∀ w ∈ wsX20, w ∈ wsL_law := fun _ h => List.mem_append_left _ (List.mem_append_left _ (List.mem_append_left _ (List.mem_append_left _ (List.mem_append_left _ (List.mem_append_left _ (List.mem_append_left _ (List.mem_append_left _ (List.mem_append_right _ h))))))))
theorem inX2 : ∀ w ∈ wsX20, w ∈ lw_tbl := fun w h => wsL_law_in w (inlX2 w h)
theorem inlX3 : ∀ w ∈ wsX30, w ∈ wsL_law := fun _ h => List.mem_append_left _ (List.mem_append_left _ (List.mem_append_left _ (List.mem_append_left _ (List.mem_append_left _ (List.mem_append_left _ (List.mem_append_left _ (List.mem_append_right _ h)))))))
theorem inX3 : ∀ w ∈ wsX30, w ∈ lw_tbl := fun w h => wsL_law_in w (inlX3 w h)
theorem inX4 : ∀ w ∈ wsX40, w ∈ lw_tbl := by decide +kernel
theorem inJx145de : ∀ w ∈ wsJx145de0, w ∈ lw_tbl := by decide +kernel
theorem inJx8e188 : ∀ w ∈ wsJx8e1880, w ∈ lw_tbl := by decide +kernel
theorem inJ6 : ∀ w ∈ wsJ60, w ∈ lw_tbl := by decide +kernel
theorem inJxab1ab : ∀ w ∈ wsJxab1ab0, w ∈ lw_tbl := by decide +kernel
theorem inJ9 : ∀ w ∈ wsJ90, w ∈ lw_tbl := by decide +kernel
theorem inJ0 : ∀ w ∈ wsJ00, w ∈ lw_tbl := by decide +kernel
theorem inJ10 : ∀ w ∈ wsJ100, w ∈ lw_tbl := by decide +kernel
theorem inJxa1e45 : ∀ w ∈ wsJxa1e450, w ∈ lw_tbl := by decide +kernel
theorem inJxc12de : ∀ w ∈ wsJxc12de0, w ∈ lw_tbl := by decide +kernel
theorem inlJx4a65c : ∀ w ∈ wsJx4a65c0, w ∈ wsL_law := fun _ h => List.mem_append_left _ (List.mem_append_left _ (List.mem_append_left _ (List.mem_append_left _ (List.mem_append_left _ (List.mem_append_left _ (List.mem_append_right _ h))))))
theorem inJx4a65c : ∀ w ∈ wsJx4a65c0, w ∈ lw_tbl := fun w h => wsL_law_in w (inlJx4a65c w h)
theorem inJ7 : ∀ w ∈ wsJ70, w ∈ lw_tbl := by decide +kernel
theorem inJx5ef63 : ∀ w ∈ wsJx5ef630, w ∈ lw_tbl := by decide +kernel
theorem inJxbd725 : ∀ w ∈ wsJxbd7250, w ∈ lw_tbl := by decide +kernel
theorem inJ15 : ∀ w ∈ wsJ150, w ∈ lw_tbl := by decide +kernel
theorem inJxf0a74 : ∀ w ∈ wsJxf0a740, w ∈ lw_tbl := by decide +kernel
theorem inJxa66e6 : ∀ w ∈ wsJxa66e60, w ∈ lw_tbl := by decide +kernel
theorem inJ8 : ∀ w ∈ wsJ80, w ∈ lw_tbl := by decide +kernel
theorem inJ3 : ∀ w ∈ wsJ30, w ∈ lw_tbl := by decide +kernel
theorem dX0_init_0 : decode cX0_init 0 = .ok (.aload_n 0, 1) := by decide +kernel
theorem dX0_init_1 : decode cX0_init 1 = .ok (.invokespecial 3, 3) := by decide +kernel
theorem dX0_init_4 : decode cX0_init 4 = .ok (.aload_n 0, 1) := by decide +kernel
theorem dX0_init_5 : decode cX0_init 5 = .ok (.iconst 0, 1) := by decide +kernel
theorem dX0_init_6 : decode cX0_init 6 = .ok (.putfield 9, 3) := by decide +kernel
theorem dX0_init_9 : decode cX0_init 9 = .ok (.aload_n 0, 1) := by decide +kernel
theorem dX0_init_10 : decode cX0_init 10 = .ok (.iload_n 1, 1) := by decide +kernel
theorem dX0_init_11 : decode cX0_init 11 = .ok (.putfield 15, 3) := by decide +kernel
theorem dX0_init_14 : decode cX0_init 14 = .ok (.aload_n 0, 1) := by decide +kernel
theorem dX0_init_15 : decode cX0_init 15 = .ok (.iload_n 2, 1) := by decide +kernel
theorem dX0_init_16 : decode cX0_init 16 = .ok (.putfield 18, 3) := by decide +kernel
theorem dX0_init_19 : decode cX0_init 19 = .ok (.aload_n 0, 1) := by decide +kernel
theorem dX0_init_20 : decode cX0_init 20 = .ok (.iload_n 3, 1) := by decide +kernel
theorem dX0_init_21 : decode cX0_init 21 = .ok (.putfield 21, 3) := by decide +kernel
theorem dX0_init_24 : decode cX0_init 24 = .ok (.return_, 1) := by decide +kernel
theorem dX1_init_0 : decode cX1_init 0 = .ok (.aload_n 0, 1) := by decide +kernel
theorem dX1_init_1 : decode cX1_init 1 = .ok (.invokespecial 3, 3) := by decide +kernel
theorem dX1_init_4 : decode cX1_init 4 = .ok (.aload_n 0, 1) := by decide +kernel
theorem dX1_init_5 : decode cX1_init 5 = .ok (.iconst 0, 1) := by decide +kernel
theorem dX1_init_6 : decode cX1_init 6 = .ok (.putfield 9, 3) := by decide +kernel
theorem dX1_init_9 : decode cX1_init 9 = .ok (.aload_n 0, 1) := by decide +kernel
theorem dX1_init_10 : decode cX1_init 10 = .ok (.iconst (-1), 1) := by decide +kernel
theorem dX1_init_11 : decode cX1_init 11 = .ok (.putfield 15, 3) := by decide +kernel
theorem dX1_init_14 : decode cX1_init 14 = .ok (.aload_n 0, 1) := by decide +kernel
theorem dX1_init_15 : decode cX1_init 15 = .ok (.iconst (-1), 1) := by decide +kernel
theorem dX1_init_16 : decode cX1_init 16 = .ok (.putfield 18, 3) := by decide +kernel
theorem dX1_init_19 : decode cX1_init 19 = .ok (.aload_n 0, 1) := by decide +kernel
theorem dX1_init_20 : decode cX1_init 20 = .ok (.iload_n 1, 1) := by decide +kernel
theorem dX1_init_21 : decode cX1_init 21 = .ok (.putfield 21, 3) := by decide +kernel
theorem dX1_init_24 : decode cX1_init 24 = .ok (.aload_n 0, 1) := by decide +kernel
theorem dX1_init_25 : decode cX1_init 25 = .ok (.iload_n 2, 1) := by decide +kernel
theorem dX1_init_26 : decode cX1_init 26 = .ok (.putfield 24, 3) := by decide +kernel
theorem dX1_init_29 : decode cX1_init 29 = .ok (.aload_n 0, 1) := by decide +kernel
theorem dX1_init_30 : decode cX1_init 30 = .ok (.iload_n 3, 1) := by decide +kernel
theorem dX1_init_31 : decode cX1_init 31 = .ok (.putfield 27, 3) := by decide +kernel
theorem dX1_init_34 : decode cX1_init 34 = .ok (.aload_n 0, 1) := by decide +kernel
theorem dX1_init_35 : decode cX1_init 35 = .ok (.iload 4, 2) := by decide +kernel
theorem dX1_init_37 : decode cX1_init 37 = .ok (.putfield 30, 3) := by decide +kernel
theorem dX1_init_40 : decode cX1_init 40 = .ok (.aload_n 0, 1) := by decide +kernel
theorem dX1_init_41 : decode cX1_init 41 = .ok (.iload 5, 2) := by decide +kernel
theorem dX1_init_43 : decode cX1_init 43 = .ok (.putfield 33, 3) := by decide +kernel
theorem dX1_init_46 : decode cX1_init 46 = .ok (.return_, 1) := by decide +kernel
set_option maxRecDepth 20000 in
theorem ggX2_init_Jx4a65c_init_da8c8 : GoodIn wsX2_init wsJx4a65c_init_da8c8 := goodIn_r _ [15, 16, 17, 18, 19, 20, 21, 22, 23, 24, 25, 26, 27, 2, 3, 35, 36, 37] (by decide +kernel) (by decide +kernel)
set_option maxRecDepth 20000 in
theorem gX2_init_Jx4a65c_init_da8c8 : GoodIn wsX2_init (wsJx4a65c_init_da8c8) := ggX2_init_Jx4a65c_init_da8c8
theorem dX2_init_0 : decode cX2_init 0 = .ok (.aload_n 0, 1) := by decide +kernel
theorem dX2_init_1 : decode cX2_init 1 = .ok (.invokespecial 1, 3) := by decide +kernel
theorem dX2_init_4 : decode cX2_init 4 = .ok (.aload_n 0, 1) := by decide +kernel
theorem dX2_init_5 : decode cX2_init 5 = .ok (.bipush 36, 2) := by decide +kernel
theorem dX2_init_7 : decode cX2_init 7 = .ok (.newarray .int, 2) := by decide +kernel
theorem dX2_init_9 : decode cX2_init 9 = .ok (.putfield 9, 3) := by decide +kernel
theorem dX2_init_12 : decode cX2_init 12 = .ok (.iconst 0, 1) := by decide +kernel
theorem dX2_init_13 : decode cX2_init 13 = .ok (.istore_n 1, 1) := by decide +kernel
theorem dX2_init_14 : decode cX2_init 14 = .ok (.iload_n 1, 1) := by decide +kernel
theorem dX2_init_15 : decode cX2_init 15 = .ok (.aload_n 0, 1) := by decide +kernel
theorem dX2_init_16 : decode cX2_init 16 = .ok (.getfield 9, 3) := by decide +kernel
theorem dX2_init_19 : decode cX2_init 19 = .ok (.arraylength, 1) := by decide +kernel
theorem dX2_init_20 : decode cX2_init 20 = .ok (.if_icmp .ge 32, 3) := by decide +kernel
theorem dX2_init_23 : decode cX2_init 23 = .ok (.aload_n 0, 1) := by decide +kernel
theorem dX2_init_24 : decode cX2_init 24 = .ok (.getfield 9, 3) := by decide +kernel
theorem dX2_init_27 : decode cX2_init 27 = .ok (.iload_n 1, 1) := by decide +kernel
theorem dX2_init_28 : decode cX2_init 28 = .ok (.iload_n 1, 1) := by decide +kernel
theorem dX2_init_29 : decode cX2_init 29 = .ok (.bipush 6, 2) := by decide +kernel
theorem dX2_init_31 : decode cX2_init 31 = .ok (.idiv, 1) := by decide +kernel
theorem dX2_init_32 : decode cX2_init 32 = .ok (.iload_n 1, 1) := by decide +kernel
theorem dX2_init_33 : decode cX2_init 33 = .ok (.bipush 6, 2) := by decide +kernel
theorem dX2_init_35 : decode cX2_init 35 = .ok (.irem, 1) := by decide +kernel
theorem dX2_init_36 : decode cX2_init 36 = .ok (.if_icmp .ne 7, 3) := by decide +kernel
theorem dX2_init_39 : decode cX2_init 39 = .ok (.iconst 5, 1) := by decide +kernel
theorem dX2_init_40 : decode cX2_init 40 = .ok (.goto 5, 3) := by decide +kernel
theorem dX2_init_43 : decode cX2_init 43 = .ok (.bipush 10, 2) := by decide +kernel
theorem dX2_init_45 : decode cX2_init 45 = .ok (.iastore, 1) := by decide +kernel
theorem dX2_init_46 : decode cX2_init 46 = .ok (.iinc 1 1, 3) := by decide +kernel
theorem dX2_init_49 : decode cX2_init 49 = .ok (.goto (-35), 3) := by decide +kernel
theorem dX2_init_52 : decode cX2_init 52 = .ok (.aload_n 0, 1) := by decide +kernel
theorem dX2_init_53 : decode cX2_init 53 = .ok (.new 13, 3) := by decide +kernel
theorem dX2_init_56 : decode cX2_init 56 = .ok (.dup, 1) := by decide +kernel
theorem dX2_init_57 : decode cX2_init 57 = .ok (.invokespecial 15, 3) := by decide +kernel
theorem dX2_init_60 : decode cX2_init 60 = .ok (.putfield 16, 3) := by decide +kernel
theorem dX2_init_63 : decode cX2_init 63 = .ok (.aload_n 0, 1) := by decide +kernel
theorem dX2_init_64 : decode cX2_init 64 = .ok (.new 13, 3) := by decide +kernel
theorem dX2_init_67 : decode cX2_init 67 = .ok (.dup, 1) := by decide +kernel
theorem dX2_init_68 : decode cX2_init 68 = .ok (.invokespecial 15, 3) := by decide +kernel
theorem dX2_init_71 : decode cX2_init 71 = .ok (.putfield 20, 3) := by decide +kernel
theorem dX2_init_74 : decode cX2_init 74 = .ok (.aload_n 0, 1) := by decide +kernel
theorem dX2_init_75 : decode cX2_init 75 = .ok (.iconst 4, 1) := by decide +kernel
theorem dX2_init_76 : decode cX2_init 76 = .ok (.putfield 23, 3) := by decide +kernel
theorem dX2_init_79 : decode cX2_init 79 = .ok (.aload_n 0, 1) := by decide +kernel
theorem dX2_init_80 : decode cX2_init 80 = .ok (.iconst 2, 1) := by decide +kernel
theorem dX2_init_81 : decode cX2_init 81 = .ok (.putfield 27, 3) := by decide +kernel
theorem dX2_init_84 : decode cX2_init 84 = .ok (.return_, 1) := by decide +kernel
set_option maxRecDepth 20000 in
theorem ggX2_setWay_X2_requireZone : GoodIn wsX2_setWay wsX2_requireZone := goodIn_ca (goodIn_r _ [6, 7, 8, 9, 10, 5, 11] (by decide +kernel) (by decide +kernel)) (goodIn_sub (fun _ h => List.mem_cons_of_mem _ (List.mem_append_right _ h)) (by decide +kernel))
set_option maxRecDepth 20000 in
theorem gX2_setWay_X2_requireZone : GoodIn wsX2_setWay (va_wsS RX2 30 yX2_requireZone wsX2_requireZone) := goodIn_app (goodIn_of _ (by decide +kernel)) ggX2_setWay_X2_requireZone
set_option maxRecDepth 20000 in
theorem ggX2_setWay_X2_wayBetween : GoodIn wsX2_setWay wsX2_wayBetween := goodIn_r _ [15, 16, 21, 22, 23, 24, 25, 26, 27] (by decide +kernel) (by decide +kernel)
set_option maxRecDepth 20000 in
theorem gX2_setWay_X2_wayBetween : GoodIn wsX2_setWay (wsV RX2 43 RX2 yX2_wayBetween wsX2_wayBetween) := goodIn_app (goodIn_of _ (by decide +kernel)) ggX2_setWay_X2_wayBetween
set_option maxRecDepth 20000 in
theorem ggX2_setWay_X2_putWay : GoodIn wsX2_setWay wsX2_putWay := goodIn_r _ [20, 16, 21, 22, 23, 24, 25, 26, 27] (by decide +kernel) (by decide +kernel)
set_option maxRecDepth 20000 in
theorem gX2_setWay_X2_putWay : GoodIn wsX2_setWay (wsV RX2 47 RX2 yX2_putWay wsX2_putWay) := goodIn_app (goodIn_of _ (by decide +kernel)) ggX2_setWay_X2_putWay
theorem dX2_setWay_0 : decode cX2_setWay 0 = .ok (.iload_n 1, 1) := by decide +kernel
theorem dX2_setWay_1 : decode cX2_setWay 1 = .ok (.invokestatic 30, 3) := by decide +kernel
theorem dX2_setWay_4 : decode cX2_setWay 4 = .ok (.iload_n 2, 1) := by decide +kernel
theorem dX2_setWay_5 : decode cX2_setWay 5 = .ok (.invokestatic 30, 3) := by decide +kernel
theorem dX2_setWay_8 : decode cX2_setWay 8 = .ok (.iload_n 1, 1) := by decide +kernel
theorem dX2_setWay_9 : decode cX2_setWay 9 = .ok (.iload_n 2, 1) := by decide +kernel
theorem dX2_setWay_10 : decode cX2_setWay 10 = .ok (.if_icmp .ne 13, 3) := by decide +kernel
theorem dX2_setWay_13 : decode cX2_setWay 13 = .ok (.new 34, 3) := by decide +kernel
theorem dX2_setWay_16 : decode cX2_setWay 16 = .ok (.dup, 1) := by decide +kernel
theorem dX2_setWay_17 : decode cX2_setWay 17 = .ok (.ldc 36, 2) := by decide +kernel
theorem dX2_setWay_19 : decode cX2_setWay 19 = .ok (.invokespecial 38, 3) := by decide +kernel
theorem dX2_setWay_22 : decode cX2_setWay 22 = .ok (.athrow, 1) := by decide +kernel
theorem dX2_setWay_23 : decode cX2_setWay 23 = .ok (.iload_n 3, 1) := by decide +kernel
theorem dX2_setWay_24 : decode cX2_setWay 24 = .ok (.iconst 1, 1) := by decide +kernel
theorem dX2_setWay_25 : decode cX2_setWay 25 = .ok (.if_icmp .lt 9, 3) := by decide +kernel
theorem dX2_setWay_28 : decode cX2_setWay 28 = .ok (.iload_n 3, 1) := by decide +kernel
theorem dX2_setWay_29 : decode cX2_setWay 29 = .ok (.bipush 120, 2) := by decide +kernel
theorem dX2_setWay_31 : decode cX2_setWay 31 = .ok (.if_icmp .le 13, 3) := by decide +kernel
theorem dX2_setWay_34 : decode cX2_setWay 34 = .ok (.new 34, 3) := by decide +kernel
theorem dX2_setWay_37 : decode cX2_setWay 37 = .ok (.dup, 1) := by decide +kernel
theorem dX2_setWay_38 : decode cX2_setWay 38 = .ok (.ldc 41, 2) := by decide +kernel
theorem dX2_setWay_40 : decode cX2_setWay 40 = .ok (.invokespecial 38, 3) := by decide +kernel
theorem dX2_setWay_43 : decode cX2_setWay 43 = .ok (.athrow, 1) := by decide +kernel
theorem dX2_setWay_44 : decode cX2_setWay 44 = .ok (.aload_n 0, 1) := by decide +kernel
theorem dX2_setWay_45 : decode cX2_setWay 45 = .ok (.iload_n 1, 1) := by decide +kernel
theorem dX2_setWay_46 : decode cX2_setWay 46 = .ok (.iload_n 2, 1) := by decide +kernel
theorem dX2_setWay_47 : decode cX2_setWay 47 = .ok (.invokevirtual 43, 3) := by decide +kernel
theorem dX2_setWay_50 : decode cX2_setWay 50 = .ok (.istore 4, 2) := by decide +kernel
theorem dX2_setWay_52 : decode cX2_setWay 52 = .ok (.aload_n 0, 1) := by decide +kernel
theorem dX2_setWay_53 : decode cX2_setWay 53 = .ok (.iload_n 1, 1) := by decide +kernel
theorem dX2_setWay_54 : decode cX2_setWay 54 = .ok (.iload_n 2, 1) := by decide +kernel
theorem dX2_setWay_55 : decode cX2_setWay 55 = .ok (.iload_n 3, 1) := by decide +kernel
theorem dX2_setWay_56 : decode cX2_setWay 56 = .ok (.invokevirtual 47, 3) := by decide +kernel
theorem dX2_setWay_59 : decode cX2_setWay 59 = .ok (.aload_n 0, 1) := by decide +kernel
theorem dX2_setWay_60 : decode cX2_setWay 60 = .ok (.iload_n 2, 1) := by decide +kernel
theorem dX2_setWay_61 : decode cX2_setWay 61 = .ok (.iload_n 1, 1) := by decide +kernel
theorem dX2_setWay_62 : decode cX2_setWay 62 = .ok (.iload_n 3, 1) := by decide +kernel
theorem dX2_setWay_63 : decode cX2_setWay 63 = .ok (.invokevirtual 47, 3) := by decide +kernel
theorem dX2_setWay_66 : decode cX2_setWay 66 = .ok (.iload 4, 2) := by decide +kernel
theorem dX2_setWay_68 : decode cX2_setWay 68 = .ok (.ireturn, 1) := by decide +kernel
set_option maxRecDepth 20000 in
theorem ggX2_addCab_X2_isZone : GoodIn wsX2_addCab wsX2_isZone := goodIn_r _ [12] (by decide +kernel) (by decide +kernel)
set_option maxRecDepth 20000 in
theorem gX2_addCab_X2_isZone : GoodIn wsX2_addCab (va_wsS RX2 53 yX2_isZone wsX2_isZone) := goodIn_app (goodIn_of _ (by decide +kernel)) ggX2_addCab_X2_isZone
set_option maxRecDepth 20000 in
theorem ggX2_addCab_Jx4a65c_size_8abf5 : GoodIn wsX2_addCab wsJx4a65c_size_8abf5 := goodIn_r _ [17, 18, 99, 100, 101] (by decide +kernel) (by decide +kernel)
set_option maxRecDepth 20000 in
theorem gX2_addCab_Jx4a65c_size_8abf5 : GoodIn wsX2_addCab (wsV RX2 59 RJx4a65c yJx4a65c_size_8abf5 wsJx4a65c_size_8abf5) := goodIn_app (goodIn_of _ (by decide +kernel)) ggX2_addCab_Jx4a65c_size_8abf5
set_option maxRecDepth 20000 in
theorem ggX2_addCab_X0_init : GoodIn wsX2_addCab wsX0_init := goodIn_r _ [21, 22, 23, 24, 25, 26, 27, 28, 90, 91, 92, 93, 94, 95, 96, 97, 98] (by decide +kernel) (by decide +kernel)
set_option maxRecDepth 20000 in
theorem gX2_addCab_X0_init : GoodIn wsX2_addCab (wsX0_init) := ggX2_addCab_X0_init
set_option maxRecDepth 20000 in
theorem ggX2_addCab_Jx4a65c_add_9ea2d : GoodIn wsX2_addCab wsJx4a65c_add_9ea2d := goodIn_r _ [32, 33, 34, 35, 18, 36, 37, 38, 16, 39, 40, 41, 42, 43, 44, 45, 46, 47, 48, 49, 50, 51, 52, 53, 54, 55, 56, 57, 58, 59, 60, 61, 62, 63, 64, 65, 66, 67, 68, 69, 70, 71, 72, 73, 74, 75, 76, 77, 78, 79, 80, 81, 82, 99, 100, 101] (by decide +kernel) (by decide +kernel)
set_option maxRecDepth 20000 in
theorem gX2_addCab_Jx4a65c_add_9ea2d : GoodIn wsX2_addCab (wsV RX2 72 RJx4a65c yJx4a65c_add_9ea2d wsJx4a65c_add_9ea2d) := goodIn_app (goodIn_of _ (by decide +kernel)) ggX2_addCab_Jx4a65c_add_9ea2d
theorem dX2_addCab_0 : decode cX2_addCab 0 = .ok (.iload_n 1, 1) := by decide +kernel
theorem dX2_addCab_1 : decode cX2_addCab 1 = .ok (.iconst 1, 1) := by decide +kernel
theorem dX2_addCab_2 : decode cX2_addCab 2 = .ok (.if_icmp .lt 9, 3) := by decide +kernel
theorem dX2_addCab_5 : decode cX2_addCab 5 = .ok (.iload_n 1, 1) := by decide +kernel
theorem dX2_addCab_6 : decode cX2_addCab 6 = .ok (.bipush 8, 2) := by decide +kernel
theorem dX2_addCab_8 : decode cX2_addCab 8 = .ok (.if_icmp .le 13, 3) := by decide +kernel
theorem dX2_addCab_11 : decode cX2_addCab 11 = .ok (.new 34, 3) := by decide +kernel
theorem dX2_addCab_14 : decode cX2_addCab 14 = .ok (.dup, 1) := by decide +kernel
theorem dX2_addCab_15 : decode cX2_addCab 15 = .ok (.ldc 51, 2) := by decide +kernel
theorem dX2_addCab_17 : decode cX2_addCab 17 = .ok (.invokespecial 38, 3) := by decide +kernel
theorem dX2_addCab_20 : decode cX2_addCab 20 = .ok (.athrow, 1) := by decide +kernel
theorem dX2_addCab_21 : decode cX2_addCab 21 = .ok (.iload_n 2, 1) := by decide +kernel
theorem dX2_addCab_22 : decode cX2_addCab 22 = .ok (.invokestatic 53, 3) := by decide +kernel
theorem dX2_addCab_25 : decode cX2_addCab 25 = .ok (.ifCond .ne 13, 3) := by decide +kernel
theorem dX2_addCab_28 : decode cX2_addCab 28 = .ok (.new 34, 3) := by decide +kernel
theorem dX2_addCab_31 : decode cX2_addCab 31 = .ok (.dup, 1) := by decide +kernel
theorem dX2_addCab_32 : decode cX2_addCab 32 = .ok (.ldc 57, 2) := by decide +kernel
theorem dX2_addCab_34 : decode cX2_addCab 34 = .ok (.invokespecial 38, 3) := by decide +kernel
theorem dX2_addCab_37 : decode cX2_addCab 37 = .ok (.athrow, 1) := by decide +kernel
theorem dX2_addCab_38 : decode cX2_addCab 38 = .ok (.aload_n 0, 1) := by decide +kernel
theorem dX2_addCab_39 : decode cX2_addCab 39 = .ok (.getfield 16, 3) := by decide +kernel
theorem dX2_addCab_42 : decode cX2_addCab 42 = .ok (.invokevirtual 59, 3) := by decide +kernel
theorem dX2_addCab_45 : decode cX2_addCab 45 = .ok (.istore_n 3, 1) := by decide +kernel
theorem dX2_addCab_46 : decode cX2_addCab 46 = .ok (.iload_n 3, 1) := by decide +kernel
theorem dX2_addCab_47 : decode cX2_addCab 47 = .ok (.bipush 10, 2) := by decide +kernel
theorem dX2_addCab_49 : decode cX2_addCab 49 = .ok (.if_icmp .lt 13, 3) := by decide +kernel
theorem dX2_addCab_52 : decode cX2_addCab 52 = .ok (.new 63, 3) := by decide +kernel
theorem dX2_addCab_55 : decode cX2_addCab 55 = .ok (.dup, 1) := by decide +kernel
theorem dX2_addCab_56 : decode cX2_addCab 56 = .ok (.ldc 65, 2) := by decide +kernel
theorem dX2_addCab_58 : decode cX2_addCab 58 = .ok (.invokespecial 67, 3) := by decide +kernel
theorem dX2_addCab_61 : decode cX2_addCab 61 = .ok (.athrow, 1) := by decide +kernel
theorem dX2_addCab_62 : decode cX2_addCab 62 = .ok (.aload_n 0, 1) := by decide +kernel
theorem dX2_addCab_63 : decode cX2_addCab 63 = .ok (.getfield 16, 3) := by decide +kernel
theorem dX2_addCab_66 : decode cX2_addCab 66 = .ok (.new 68, 3) := by decide +kernel
theorem dX2_addCab_69 : decode cX2_addCab 69 = .ok (.dup, 1) := by decide +kernel
theorem dX2_addCab_70 : decode cX2_addCab 70 = .ok (.iload_n 3, 1) := by decide +kernel
theorem dX2_addCab_71 : decode cX2_addCab 71 = .ok (.iload_n 1, 1) := by decide +kernel
theorem dX2_addCab_72 : decode cX2_addCab 72 = .ok (.iload_n 2, 1) := by decide +kernel
theorem dX2_addCab_73 : decode cX2_addCab 73 = .ok (.invokespecial 70, 3) := by decide +kernel
theorem dX2_addCab_76 : decode cX2_addCab 76 = .ok (.invokevirtual 72, 3) := by decide +kernel
theorem dX2_addCab_79 : decode cX2_addCab 79 = .ok (.pop, 1) := by decide +kernel
theorem dX2_addCab_80 : decode cX2_addCab 80 = .ok (.iload_n 3, 1) := by decide +kernel
theorem dX2_addCab_81 : decode cX2_addCab 81 = .ok (.ireturn, 1) := by decide +kernel
set_option maxRecDepth 20000 in
theorem ggX2_start_X2_cabNumbered : GoodIn wsX2_start wsX2_cabNumbered := goodIn_ca (goodIn_r _ [8, 9, 10, 11, 12, 13, 14, 15, 16, 17, 18, 19, 20, 21, 22, 23, 24, 25, 26, 27, 28, 29, 30, 31, 32, 33, 34, 35, 106, 107, 108, 109, 110, 111, 112, 113, 114, 115] (by decide +kernel) (by decide +kernel)) (goodIn_sub (fun _ h => List.mem_cons_of_mem _ (List.mem_append_right _ h)) (by decide +kernel))
set_option maxRecDepth 20000 in
theorem gX2_start_X2_cabNumbered : GoodIn wsX2_start (wsV RX2 76 RX2 yX2_cabNumbered wsX2_cabNumbered) := goodIn_app (goodIn_of _ (by decide +kernel)) ggX2_start_X2_cabNumbered
set_option maxRecDepth 20000 in
theorem ggX2_start_X2_joinQueue : GoodIn wsX2_start wsX2_joinQueue := goodIn_r _ [39, 3, 40, 41, 97, 98, 99, 100, 101, 102, 103, 104, 105, 106, 107, 108, 109, 110, 111, 112] (by decide +kernel) (by decide +kernel)
set_option maxRecDepth 20000 in
theorem gX2_start_X2_joinQueue : GoodIn wsX2_start (wsV RX2 85 RX2 yX2_joinQueue wsX2_joinQueue) := goodIn_app (goodIn_of _ (by decide +kernel)) ggX2_start_X2_joinQueue
set_option maxRecDepth 20000 in
theorem ggX2_start_X2_makeOffers : GoodIn wsX2_start wsX2_makeOffers := goodIn_r _ [45, 11, 13, 14, 15, 16, 17, 18, 46, 47, 48, 7, 49, 50, 51, 52, 53, 54, 55, 56, 57, 19, 20, 21, 22, 23, 24, 25, 26, 27, 28, 29, 30, 31, 32, 33, 34, 35, 58, 59, 60, 61, 62, 63, 64, 65, 12, 66, 67, 41, 68, 69, 70, 71, 72, 73, 74, 75, 76, 3, 77, 78, 79, 80, 81, 82, 83, 84, 85, 86, 87, 88, 89, 106, 107, 108, 109, 110, 111, 112, 113, 114, 115, 116, 117, 118, 119, 120, 121, 122, 123, 124, 125, 126, 127, 128, 129, 130, 97, 98, 99, 100, 101, 102, 103, 104, 105] (by decide +kernel) (by decide +kernel)
set_option maxRecDepth 20000 in
theorem gX2_start_X2_makeOffers : GoodIn wsX2_start (wsV RX2 89 RX2 yX2_makeOffers wsX2_makeOffers) := goodIn_app (goodIn_of _ (by decide +kernel)) ggX2_start_X2_makeOffers
set_option maxRecDepth 20000 in
theorem ggX2_start_X2_placeOf : GoodIn wsX2_start wsX2_placeOf := goodIn_r _ [93, 3, 11, 12, 66, 41, 13, 14, 15, 16, 17, 18, 19, 20, 21, 22, 23, 24, 25, 26, 27, 28, 29, 30, 31, 32, 33, 34, 35, 94, 95, 7, 96, 97, 98, 99, 100, 101, 102, 103, 104, 105, 106, 107, 108, 109, 110, 111, 112, 113, 114, 115] (by decide +kernel) (by decide +kernel)
set_option maxRecDepth 20000 in
theorem gX2_start_X2_placeOf : GoodIn wsX2_start (wsV RX2 92 RX2 yX2_placeOf wsX2_placeOf) := goodIn_app (goodIn_of _ (by decide +kernel)) ggX2_start_X2_placeOf
theorem dX2_start_0 : decode cX2_start 0 = .ok (.aload_n 0, 1) := by decide +kernel
theorem dX2_start_1 : decode cX2_start 1 = .ok (.iload_n 1, 1) := by decide +kernel
theorem dX2_start_2 : decode cX2_start 2 = .ok (.invokevirtual 76, 3) := by decide +kernel
theorem dX2_start_5 : decode cX2_start 5 = .ok (.astore_n 2, 1) := by decide +kernel
theorem dX2_start_6 : decode cX2_start 6 = .ok (.aload_n 2, 1) := by decide +kernel
theorem dX2_start_7 : decode cX2_start 7 = .ok (.getfield 80, 3) := by decide +kernel
theorem dX2_start_10 : decode cX2_start 10 = .ok (.ifCond .eq 13, 3) := by decide +kernel
theorem dX2_start_13 : decode cX2_start 13 = .ok (.new 63, 3) := by decide +kernel
theorem dX2_start_16 : decode cX2_start 16 = .ok (.dup, 1) := by decide +kernel
theorem dX2_start_17 : decode cX2_start 17 = .ok (.ldc 83, 2) := by decide +kernel
theorem dX2_start_19 : decode cX2_start 19 = .ok (.invokespecial 67, 3) := by decide +kernel
theorem dX2_start_22 : decode cX2_start 22 = .ok (.athrow, 1) := by decide +kernel
theorem dX2_start_23 : decode cX2_start 23 = .ok (.aload_n 0, 1) := by decide +kernel
theorem dX2_start_24 : decode cX2_start 24 = .ok (.aload_n 2, 1) := by decide +kernel
theorem dX2_start_25 : decode cX2_start 25 = .ok (.invokevirtual 85, 3) := by decide +kernel
theorem dX2_start_28 : decode cX2_start 28 = .ok (.aload_n 0, 1) := by decide +kernel
theorem dX2_start_29 : decode cX2_start 29 = .ok (.invokevirtual 89, 3) := by decide +kernel
theorem dX2_start_32 : decode cX2_start 32 = .ok (.aload_n 0, 1) := by decide +kernel
theorem dX2_start_33 : decode cX2_start 33 = .ok (.aload_n 2, 1) := by decide +kernel
theorem dX2_start_34 : decode cX2_start 34 = .ok (.invokevirtual 92, 3) := by decide +kernel
theorem dX2_start_37 : decode cX2_start 37 = .ok (.ireturn, 1) := by decide +kernel
set_option maxRecDepth 20000 in
theorem ggX2_stop_X2_cabNumbered : GoodIn wsX2_stop wsX2_cabNumbered := goodIn_ca (goodIn_r _ [9, 10, 11, 12, 13, 14, 15, 16, 17, 18, 19, 20, 21, 22, 23, 24, 25, 26, 27, 28, 29, 30, 31, 32, 33, 34, 35, 36, 106, 107, 108, 109, 110, 111, 112, 113, 114, 115] (by decide +kernel) (by decide +kernel)) (goodIn_sub (fun _ h => List.mem_cons_of_mem _ (List.mem_append_right _ h)) (by decide +kernel))
set_option maxRecDepth 20000 in
theorem gX2_stop_X2_cabNumbered : GoodIn wsX2_stop (wsV RX2 76 RX2 yX2_cabNumbered wsX2_cabNumbered) := goodIn_app (goodIn_of _ (by decide +kernel)) ggX2_stop_X2_cabNumbered
set_option maxRecDepth 20000 in
theorem ggX2_stop_X2_turnDown : GoodIn wsX2_stop wsX2_turnDown := goodIn_r _ [40, 41, 42, 43, 44, 45, 46, 8, 47, 3, 48, 49, 50, 51, 52, 53, 54, 55, 56, 57, 116, 117, 118, 119, 120, 121, 122, 123, 124, 125, 126, 127, 128, 129, 130, 97, 98, 99, 100, 101, 102, 103, 104, 105, 106, 107, 108, 109, 110, 111, 112] (by decide +kernel) (by decide +kernel)
set_option maxRecDepth 20000 in
theorem gX2_stop_X2_turnDown : GoodIn wsX2_stop (wsV RX2 98 RX2 yX2_turnDown wsX2_turnDown) := goodIn_app (goodIn_of _ (by decide +kernel)) ggX2_stop_X2_turnDown
set_option maxRecDepth 20000 in
theorem ggX2_stop_X2_makeOffers : GoodIn wsX2_stop wsX2_makeOffers := goodIn_r _ [61, 12, 14, 15, 16, 17, 18, 19, 62, 63, 64, 8, 65, 66, 67, 68, 42, 43, 69, 70, 44, 20, 21, 22, 23, 24, 25, 26, 27, 28, 29, 30, 31, 32, 33, 34, 35, 36, 71, 72, 73, 74, 75, 76, 77, 78, 13, 4, 79, 57, 80, 81, 82, 83, 84, 41, 85, 86, 87, 3, 48, 49, 50, 51, 88, 89, 90, 91, 92, 93, 94, 95, 96, 106, 107, 108, 109, 110, 111, 112, 113, 114, 115, 116, 117, 118, 119, 120, 121, 122, 123, 124, 125, 126, 127, 128, 129, 130, 97, 98, 99, 100, 101, 102, 103, 104, 105] (by decide +kernel) (by decide +kernel)
set_option maxRecDepth 20000 in
theorem gX2_stop_X2_makeOffers : GoodIn wsX2_stop (wsV RX2 89 RX2 yX2_makeOffers wsX2_makeOffers) := goodIn_app (goodIn_of _ (by decide +kernel)) ggX2_stop_X2_makeOffers
theorem dX2_stop_0 : decode cX2_stop 0 = .ok (.aload_n 0, 1) := by decide +kernel
theorem dX2_stop_1 : decode cX2_stop 1 = .ok (.iload_n 1, 1) := by decide +kernel
theorem dX2_stop_2 : decode cX2_stop 2 = .ok (.invokevirtual 76, 3) := by decide +kernel
theorem dX2_stop_5 : decode cX2_stop 5 = .ok (.astore_n 2, 1) := by decide +kernel
theorem dX2_stop_6 : decode cX2_stop 6 = .ok (.aload_n 2, 1) := by decide +kernel
theorem dX2_stop_7 : decode cX2_stop 7 = .ok (.getfield 80, 3) := by decide +kernel
theorem dX2_stop_10 : decode cX2_stop 10 = .ok (.iconst 1, 1) := by decide +kernel
theorem dX2_stop_11 : decode cX2_stop 11 = .ok (.if_icmp .eq 13, 3) := by decide +kernel
theorem dX2_stop_14 : decode cX2_stop 14 = .ok (.new 63, 3) := by decide +kernel
theorem dX2_stop_17 : decode cX2_stop 17 = .ok (.dup, 1) := by decide +kernel
theorem dX2_stop_18 : decode cX2_stop 18 = .ok (.ldc 96, 2) := by decide +kernel
theorem dX2_stop_20 : decode cX2_stop 20 = .ok (.invokespecial 67, 3) := by decide +kernel
theorem dX2_stop_23 : decode cX2_stop 23 = .ok (.athrow, 1) := by decide +kernel
theorem dX2_stop_24 : decode cX2_stop 24 = .ok (.aload_n 0, 1) := by decide +kernel
theorem dX2_stop_25 : decode cX2_stop 25 = .ok (.aload_n 2, 1) := by decide +kernel
theorem dX2_stop_26 : decode cX2_stop 26 = .ok (.invokevirtual 98, 3) := by decide +kernel
theorem dX2_stop_29 : decode cX2_stop 29 = .ok (.aload_n 2, 1) := by decide +kernel
theorem dX2_stop_30 : decode cX2_stop 30 = .ok (.iconst 0, 1) := by decide +kernel
theorem dX2_stop_31 : decode cX2_stop 31 = .ok (.putfield 80, 3) := by decide +kernel
theorem dX2_stop_34 : decode cX2_stop 34 = .ok (.aload_n 0, 1) := by decide +kernel
theorem dX2_stop_35 : decode cX2_stop 35 = .ok (.invokevirtual 89, 3) := by decide +kernel
theorem dX2_stop_38 : decode cX2_stop 38 = .ok (.aload_n 2, 1) := by decide +kernel
theorem dX2_stop_39 : decode cX2_stop 39 = .ok (.getfield 101, 3) := by decide +kernel
theorem dX2_stop_42 : decode cX2_stop 42 = .ok (.ireturn, 1) := by decide +kernel
set_option maxRecDepth 20000 in
theorem ggX2_cab_X2_cabNumbered : GoodIn wsX2_cab wsX2_cabNumbered := goodIn_ca (goodIn_r _ [7, 1, 2, 8, 9, 10, 11, 12, 13, 14, 15, 16, 17, 18, 19, 20, 21, 22, 23, 24, 25, 26, 27, 28, 29, 30, 31, 32, 50, 51, 52, 53, 54, 55, 56, 57, 58, 59] (by decide +kernel) (by decide +kernel)) (goodIn_sub (fun _ h => List.mem_cons_of_mem _ (List.mem_append_right _ h)) (by decide +kernel))
set_option maxRecDepth 20000 in
theorem gX2_cab_X2_cabNumbered : GoodIn wsX2_cab (wsV RX2 76 RX2 yX2_cabNumbered wsX2_cabNumbered) := goodIn_app (goodIn_of _ (by decide +kernel)) ggX2_cab_X2_cabNumbered
set_option maxRecDepth 20000 in
theorem ggX2_cab_X2_cabDetail : GoodIn wsX2_cab wsX2_cabDetail := goodIn_r _ [36, 37, 38, 39, 40, 41, 42, 43, 44, 6, 45, 8, 9, 46, 10, 11, 12, 13, 14, 15, 16, 17, 18, 19, 20, 21, 22, 23, 24, 25, 26, 27, 28, 29, 30, 31, 32, 47, 48, 49, 60, 61, 62, 63, 64, 65, 66, 67, 68, 69, 70, 71, 72, 73, 74, 75, 76, 77, 78, 79, 80, 81, 82, 83, 50, 51, 52, 53, 54, 55, 56, 57, 58, 59] (by decide +kernel) (by decide +kernel)
set_option maxRecDepth 20000 in
theorem gX2_cab_X2_cabDetail : GoodIn wsX2_cab (wsV RX2 113 RX2 yX2_cabDetail wsX2_cabDetail) := goodIn_app (goodIn_of _ (by decide +kernel)) ggX2_cab_X2_cabDetail
theorem dX2_cab_0 : decode cX2_cab 0 = .ok (.aload_n 0, 1) := by decide +kernel
theorem dX2_cab_1 : decode cX2_cab 1 = .ok (.iload_n 1, 1) := by decide +kernel
theorem dX2_cab_2 : decode cX2_cab 2 = .ok (.invokevirtual 76, 3) := by decide +kernel
theorem dX2_cab_5 : decode cX2_cab 5 = .ok (.astore_n 3, 1) := by decide +kernel
theorem dX2_cab_6 : decode cX2_cab 6 = .ok (.iload_n 2, 1) := by decide +kernel
theorem dX2_cab_7 : decode cX2_cab 7 = .ok (.ifCond .lt 8, 3) := by decide +kernel
theorem dX2_cab_10 : decode cX2_cab 10 = .ok (.iload_n 2, 1) := by decide +kernel
theorem dX2_cab_11 : decode cX2_cab 11 = .ok (.iconst 5, 1) := by decide +kernel
theorem dX2_cab_12 : decode cX2_cab 12 = .ok (.if_icmp .lt 13, 3) := by decide +kernel
theorem dX2_cab_15 : decode cX2_cab 15 = .ok (.new 108, 3) := by decide +kernel
theorem dX2_cab_18 : decode cX2_cab 18 = .ok (.dup, 1) := by decide +kernel
theorem dX2_cab_19 : decode cX2_cab 19 = .ok (.ldc 110, 2) := by decide +kernel
theorem dX2_cab_21 : decode cX2_cab 21 = .ok (.invokespecial 112, 3) := by decide +kernel
theorem dX2_cab_24 : decode cX2_cab 24 = .ok (.athrow, 1) := by decide +kernel
theorem dX2_cab_25 : decode cX2_cab 25 = .ok (.aload_n 0, 1) := by decide +kernel
theorem dX2_cab_26 : decode cX2_cab 26 = .ok (.aload_n 3, 1) := by decide +kernel
theorem dX2_cab_27 : decode cX2_cab 27 = .ok (.iload_n 2, 1) := by decide +kernel
theorem dX2_cab_28 : decode cX2_cab 28 = .ok (.invokevirtual 113, 3) := by decide +kernel
theorem dX2_cab_31 : decode cX2_cab 31 = .ok (.ireturn, 1) := by decide +kernel
set_option maxRecDepth 20000 in
theorem ggX2_order_X2_requireZone : GoodIn wsX2_order wsX2_requireZone := goodIn_ca (goodIn_r _ [13, 14, 15, 16, 17, 12, 18] (by decide +kernel) (by decide +kernel)) (goodIn_sub (fun _ h => List.mem_cons_of_mem _ (List.mem_append_right _ h)) (by decide +kernel))
set_option maxRecDepth 20000 in
theorem gX2_order_X2_requireZone : GoodIn wsX2_order (va_wsS RX2 30 yX2_requireZone wsX2_requireZone) := goodIn_app (goodIn_of _ (by decide +kernel)) ggX2_order_X2_requireZone
set_option maxRecDepth 20000 in
theorem ggX2_order_X2_requirePassengers : GoodIn wsX2_order wsX2_requirePassengers := goodIn_ca (goodIn_r _ [21, 1, 2] (by decide +kernel) (by decide +kernel)) (goodIn_sub (fun _ h => List.mem_cons_of_mem _ (List.mem_append_left _ (List.mem_append_left _ (List.mem_append_right _ h)))) (by decide +kernel))
set_option maxRecDepth 20000 in
theorem gX2_order_X2_requirePassengers : GoodIn wsX2_order (va_wsS RX2 117 yX2_requirePassengers wsX2_requirePassengers) := goodIn_app (goodIn_of _ (by decide +kernel)) ggX2_order_X2_requirePassengers
set_option maxRecDepth 20000 in
theorem ggX2_order_Jx4a65c_size_8abf5 : GoodIn wsX2_order wsJx4a65c_size_8abf5 := goodIn_r _ [26, 27, 184, 185, 186] (by decide +kernel) (by decide +kernel)
set_option maxRecDepth 20000 in
theorem gX2_order_Jx4a65c_size_8abf5 : GoodIn wsX2_order (wsV RX2 59 RJx4a65c yJx4a65c_size_8abf5 wsJx4a65c_size_8abf5) := goodIn_app (goodIn_of _ (by decide +kernel)) ggX2_order_Jx4a65c_size_8abf5
set_option maxRecDepth 20000 in
theorem ggX2_order_X1_init : GoodIn wsX2_order wsX1_init := goodIn_r _ [30, 31, 32, 33, 34, 35, 36, 37, 38, 39, 40, 41, 169, 170, 171, 172, 173, 174, 175, 176, 177, 178, 179, 180, 181, 182, 183] (by decide +kernel) (by decide +kernel)
set_option maxRecDepth 20000 in
theorem gX2_order_X1_init : GoodIn wsX2_order (wsX1_init) := ggX2_order_X1_init
set_option maxRecDepth 20000 in
theorem ggX2_order_Jx4a65c_add_9ea2d : GoodIn wsX2_order wsJx4a65c_add_9ea2d := goodIn_r _ [45, 46, 47, 48, 27, 49, 50, 51, 25, 52, 53, 54, 55, 56, 57, 58, 59, 60, 61, 62, 63, 64, 65, 66, 67, 68, 69, 70, 71, 72, 73, 74, 75, 76, 77, 78, 79, 80, 81, 82, 83, 84, 85, 86, 87, 88, 89, 90, 91, 92, 93, 94, 95, 184, 185, 186] (by decide +kernel) (by decide +kernel)
set_option maxRecDepth 20000 in
theorem gX2_order_Jx4a65c_add_9ea2d : GoodIn wsX2_order (wsV RX2 72 RJx4a65c yJx4a65c_add_9ea2d wsJx4a65c_add_9ea2d) := goodIn_app (goodIn_of _ (by decide +kernel)) ggX2_order_Jx4a65c_add_9ea2d
set_option maxRecDepth 20000 in
theorem ggX2_order_X2_makeOffers : GoodIn wsX2_order wsX2_makeOffers := goodIn_r _ [99, 100, 22, 23, 24, 25, 26, 27, 101, 102, 103, 12, 104, 6, 105, 106, 107, 108, 5, 109, 110, 111, 112, 113, 114, 115, 116, 117, 118, 119, 120, 121, 122, 123, 124, 125, 126, 48, 127, 128, 129, 130, 131, 132, 133, 134, 135, 136, 137, 138, 139, 140, 141, 142, 143, 144, 145, 146, 147, 148, 149, 150, 151, 152, 153, 154, 155, 156, 157, 158, 159, 160, 161, 162, 163, 164, 165, 166, 167, 168, 184, 185, 186, 169, 170, 171, 172, 173, 174, 175, 176, 177, 178, 179, 180, 181, 182, 183, 187, 188, 189, 190, 191, 192, 193, 194, 195] (by decide +kernel) (by decide +kernel)
set_option maxRecDepth 20000 in
theorem gX2_order_X2_makeOffers : GoodIn wsX2_order (wsV RX2 89 RX2 yX2_makeOffers wsX2_makeOffers) := goodIn_app (goodIn_of _ (by decide +kernel)) ggX2_order_X2_makeOffers
theorem dX2_order_0 : decode cX2_order 0 = .ok (.iload_n 1, 1) := by decide +kernel
theorem dX2_order_1 : decode cX2_order 1 = .ok (.invokestatic 30, 3) := by decide +kernel
theorem dX2_order_4 : decode cX2_order 4 = .ok (.iload_n 2, 1) := by decide +kernel
theorem dX2_order_5 : decode cX2_order 5 = .ok (.invokestatic 30, 3) := by decide +kernel
theorem dX2_order_8 : decode cX2_order 8 = .ok (.iload_n 3, 1) := by decide +kernel
theorem dX2_order_9 : decode cX2_order 9 = .ok (.invokestatic 117, 3) := by decide +kernel
theorem dX2_order_12 : decode cX2_order 12 = .ok (.iload 4, 2) := by decide +kernel
theorem dX2_order_14 : decode cX2_order 14 = .ok (.aload_n 0, 1) := by decide +kernel
theorem dX2_order_15 : decode cX2_order 15 = .ok (.getfield 120, 3) := by decide +kernel
theorem dX2_order_18 : decode cX2_order 18 = .ok (.if_icmp .lt 11, 3) := by decide +kernel
theorem dX2_order_21 : decode cX2_order 21 = .ok (.iload 4, 2) := by decide +kernel
theorem dX2_order_23 : decode cX2_order 23 = .ok (.sipush 9999, 3) := by decide +kernel
theorem dX2_order_26 : decode cX2_order 26 = .ok (.if_icmp .le 13, 3) := by decide +kernel
theorem dX2_order_29 : decode cX2_order 29 = .ok (.new 34, 3) := by decide +kernel
theorem dX2_order_32 : decode cX2_order 32 = .ok (.dup, 1) := by decide +kernel
theorem dX2_order_33 : decode cX2_order 33 = .ok (.ldc 123, 2) := by decide +kernel
theorem dX2_order_35 : decode cX2_order 35 = .ok (.invokespecial 38, 3) := by decide +kernel
theorem dX2_order_38 : decode cX2_order 38 = .ok (.athrow, 1) := by decide +kernel
theorem dX2_order_39 : decode cX2_order 39 = .ok (.aload_n 0, 1) := by decide +kernel
theorem dX2_order_40 : decode cX2_order 40 = .ok (.getfield 20, 3) := by decide +kernel
theorem dX2_order_43 : decode cX2_order 43 = .ok (.invokevirtual 59, 3) := by decide +kernel
theorem dX2_order_46 : decode cX2_order 46 = .ok (.istore 5, 2) := by decide +kernel
theorem dX2_order_48 : decode cX2_order 48 = .ok (.iload 5, 2) := by decide +kernel
theorem dX2_order_50 : decode cX2_order 50 = .ok (.bipush 60, 2) := by decide +kernel
theorem dX2_order_52 : decode cX2_order 52 = .ok (.if_icmp .lt 13, 3) := by decide +kernel
theorem dX2_order_55 : decode cX2_order 55 = .ok (.new 63, 3) := by decide +kernel
theorem dX2_order_58 : decode cX2_order 58 = .ok (.dup, 1) := by decide +kernel
theorem dX2_order_59 : decode cX2_order 59 = .ok (.ldc 125, 2) := by decide +kernel
theorem dX2_order_61 : decode cX2_order 61 = .ok (.invokespecial 67, 3) := by decide +kernel
theorem dX2_order_64 : decode cX2_order 64 = .ok (.athrow, 1) := by decide +kernel
theorem dX2_order_65 : decode cX2_order 65 = .ok (.aload_n 0, 1) := by decide +kernel
theorem dX2_order_66 : decode cX2_order 66 = .ok (.getfield 20, 3) := by decide +kernel
theorem dX2_order_69 : decode cX2_order 69 = .ok (.new 127, 3) := by decide +kernel
theorem dX2_order_72 : decode cX2_order 72 = .ok (.dup, 1) := by decide +kernel
theorem dX2_order_73 : decode cX2_order 73 = .ok (.iload 5, 2) := by decide +kernel
theorem dX2_order_75 : decode cX2_order 75 = .ok (.iload_n 1, 1) := by decide +kernel
theorem dX2_order_76 : decode cX2_order 76 = .ok (.iload_n 2, 1) := by decide +kernel
theorem dX2_order_77 : decode cX2_order 77 = .ok (.iload_n 3, 1) := by decide +kernel
theorem dX2_order_78 : decode cX2_order 78 = .ok (.iload 4, 2) := by decide +kernel
theorem dX2_order_80 : decode cX2_order 80 = .ok (.invokespecial 129, 3) := by decide +kernel
theorem dX2_order_83 : decode cX2_order 83 = .ok (.invokevirtual 72, 3) := by decide +kernel
theorem dX2_order_86 : decode cX2_order 86 = .ok (.pop, 1) := by decide +kernel
theorem dX2_order_87 : decode cX2_order 87 = .ok (.aload_n 0, 1) := by decide +kernel
theorem dX2_order_88 : decode cX2_order 88 = .ok (.invokevirtual 89, 3) := by decide +kernel
theorem dX2_order_91 : decode cX2_order 91 = .ok (.iload 5, 2) := by decide +kernel
theorem dX2_order_93 : decode cX2_order 93 = .ok (.ireturn, 1) := by decide +kernel
set_option maxRecDepth 20000 in
theorem ggX2_accept_X2_cabNumbered : GoodIn wsX2_accept wsX2_cabNumbered := goodIn_ca (goodIn_r _ [18, 19, 20, 21, 22, 23, 24, 25, 26, 27, 28, 29, 30, 31, 32, 33, 34, 35, 36, 37, 38, 39, 40, 41, 42, 43, 44, 45, 117, 118, 119, 120, 121, 122, 123, 124, 125, 126] (by decide +kernel) (by decide +kernel)) (goodIn_sub (fun _ h => List.mem_cons_of_mem _ (List.mem_append_right _ h)) (by decide +kernel))
set_option maxRecDepth 20000 in
theorem gX2_accept_X2_cabNumbered : GoodIn wsX2_accept (wsV RX2 76 RX2 yX2_cabNumbered wsX2_cabNumbered) := goodIn_app (goodIn_of _ (by decide +kernel)) ggX2_accept_X2_cabNumbered
set_option maxRecDepth 20000 in
theorem ggX2_accept_X2_offeredTo : GoodIn wsX2_accept wsX2_offeredTo := goodIn_r _ [48, 5, 49, 93, 94, 95, 96, 97, 98, 99, 100, 101] (by decide +kernel) (by decide +kernel)
set_option maxRecDepth 20000 in
theorem gX2_accept_X2_offeredTo : GoodIn wsX2_accept (va_wsS RX2 132 yX2_offeredTo wsX2_offeredTo) := goodIn_app (goodIn_of _ (by decide +kernel)) ggX2_accept_X2_offeredTo
set_option maxRecDepth 20000 in
theorem ggX2_accept_X2_wayBetween : GoodIn wsX2_accept wsX2_wayBetween := goodIn_r _ [53, 54, 117, 118, 119, 120, 121, 122, 123] (by decide +kernel) (by decide +kernel)
set_option maxRecDepth 20000 in
theorem gX2_accept_X2_wayBetween : GoodIn wsX2_accept (wsV RX2 43 RX2 yX2_wayBetween wsX2_wayBetween) := goodIn_app (goodIn_of _ (by decide +kernel)) ggX2_accept_X2_wayBetween
set_option maxRecDepth 20000 in
theorem ggX2_accept_X2_makeOffers : GoodIn wsX2_accept wsX2_makeOffers := goodIn_r _ [58, 21, 23, 24, 25, 26, 27, 28, 59, 60, 61, 17, 62, 63, 64, 7, 13, 65, 6, 66, 49, 29, 30, 31, 32, 33, 34, 35, 36, 37, 38, 39, 40, 41, 42, 43, 44, 45, 67, 68, 69, 70, 71, 72, 73, 74, 22, 3, 4, 75, 76, 77, 78, 79, 80, 81, 82, 83, 84, 5, 85, 86, 87, 88, 89, 90, 91, 92, 50, 51, 52, 53, 54, 117, 118, 119, 120, 121, 122, 123, 124, 125, 126, 102, 103, 104, 105, 106, 107, 108, 109, 110, 111, 112, 113, 114, 115, 116, 93, 94, 95, 96, 97, 98, 99, 100, 101] (by decide +kernel) (by decide +kernel)
set_option maxRecDepth 20000 in
theorem gX2_accept_X2_makeOffers : GoodIn wsX2_accept (wsV RX2 89 RX2 yX2_makeOffers wsX2_makeOffers) := goodIn_app (goodIn_of _ (by decide +kernel)) ggX2_accept_X2_makeOffers
theorem dX2_accept_0 : decode cX2_accept 0 = .ok (.aload_n 0, 1) := by decide +kernel
theorem dX2_accept_1 : decode cX2_accept 1 = .ok (.iload_n 1, 1) := by decide +kernel
theorem dX2_accept_2 : decode cX2_accept 2 = .ok (.invokevirtual 76, 3) := by decide +kernel
theorem dX2_accept_5 : decode cX2_accept 5 = .ok (.astore_n 2, 1) := by decide +kernel
theorem dX2_accept_6 : decode cX2_accept 6 = .ok (.aload_n 2, 1) := by decide +kernel
theorem dX2_accept_7 : decode cX2_accept 7 = .ok (.invokestatic 132, 3) := by decide +kernel
theorem dX2_accept_10 : decode cX2_accept 10 = .ok (.astore_n 3, 1) := by decide +kernel
theorem dX2_accept_11 : decode cX2_accept 11 = .ok (.aload_n 3, 1) := by decide +kernel
theorem dX2_accept_12 : decode cX2_accept 12 = .ok (.ifnonnull 13, 3) := by decide +kernel
theorem dX2_accept_15 : decode cX2_accept 15 = .ok (.new 63, 3) := by decide +kernel
theorem dX2_accept_18 : decode cX2_accept 18 = .ok (.dup, 1) := by decide +kernel
theorem dX2_accept_19 : decode cX2_accept 19 = .ok (.ldc 136, 2) := by decide +kernel
theorem dX2_accept_21 : decode cX2_accept 21 = .ok (.invokespecial 67, 3) := by decide +kernel
theorem dX2_accept_24 : decode cX2_accept 24 = .ok (.athrow, 1) := by decide +kernel
theorem dX2_accept_25 : decode cX2_accept 25 = .ok (.aload_n 0, 1) := by decide +kernel
theorem dX2_accept_26 : decode cX2_accept 26 = .ok (.aload_n 2, 1) := by decide +kernel
theorem dX2_accept_27 : decode cX2_accept 27 = .ok (.getfield 101, 3) := by decide +kernel
theorem dX2_accept_30 : decode cX2_accept 30 = .ok (.aload_n 3, 1) := by decide +kernel
theorem dX2_accept_31 : decode cX2_accept 31 = .ok (.getfield 138, 3) := by decide +kernel
theorem dX2_accept_34 : decode cX2_accept 34 = .ok (.invokevirtual 43, 3) := by decide +kernel
theorem dX2_accept_37 : decode cX2_accept 37 = .ok (.istore 4, 2) := by decide +kernel
theorem dX2_accept_39 : decode cX2_accept 39 = .ok (.aload_n 2, 1) := by decide +kernel
theorem dX2_accept_40 : decode cX2_accept 40 = .ok (.iconst 2, 1) := by decide +kernel
theorem dX2_accept_41 : decode cX2_accept 41 = .ok (.putfield 80, 3) := by decide +kernel
theorem dX2_accept_44 : decode cX2_accept 44 = .ok (.aload_n 2, 1) := by decide +kernel
theorem dX2_accept_45 : decode cX2_accept 45 = .ok (.aload_n 0, 1) := by decide +kernel
theorem dX2_accept_46 : decode cX2_accept 46 = .ok (.getfield 120, 3) := by decide +kernel
theorem dX2_accept_49 : decode cX2_accept 49 = .ok (.iload 4, 2) := by decide +kernel
theorem dX2_accept_51 : decode cX2_accept 51 = .ok (.iadd, 1) := by decide +kernel
theorem dX2_accept_52 : decode cX2_accept 52 = .ok (.aload_n 3, 1) := by decide +kernel
theorem dX2_accept_53 : decode cX2_accept 53 = .ok (.getfield 141, 3) := by decide +kernel
theorem dX2_accept_56 : decode cX2_accept 56 = .ok (.invokestatic 144, 3) := by decide +kernel
theorem dX2_accept_59 : decode cX2_accept 59 = .ok (.putfield 149, 3) := by decide +kernel
theorem dX2_accept_62 : decode cX2_accept 62 = .ok (.aload_n 3, 1) := by decide +kernel
theorem dX2_accept_63 : decode cX2_accept 63 = .ok (.iconst 2, 1) := by decide +kernel
theorem dX2_accept_64 : decode cX2_accept 64 = .ok (.putfield 152, 3) := by decide +kernel
theorem dX2_accept_67 : decode cX2_accept 67 = .ok (.aload_n 0, 1) := by decide +kernel
theorem dX2_accept_68 : decode cX2_accept 68 = .ok (.invokevirtual 89, 3) := by decide +kernel
theorem dX2_accept_71 : decode cX2_accept 71 = .ok (.iload 4, 2) := by decide +kernel
theorem dX2_accept_73 : decode cX2_accept 73 = .ok (.ireturn, 1) := by decide +kernel
set_option maxRecDepth 20000 in
theorem ggX2_refuse_X2_cabNumbered : GoodIn wsX2_refuse wsX2_cabNumbered := goodIn_ca (goodIn_r _ [8, 9, 10, 11, 12, 13, 14, 15, 16, 17, 18, 19, 20, 21, 22, 23, 24, 25, 26, 27, 28, 29, 30, 31, 32, 33, 34, 35, 113, 114, 115, 116, 117, 118, 119, 120, 121, 122] (by decide +kernel) (by decide +kernel)) (goodIn_sub (fun _ h => List.mem_cons_of_mem _ (List.mem_append_right _ h)) (by decide +kernel))
set_option maxRecDepth 20000 in
theorem gX2_refuse_X2_cabNumbered : GoodIn wsX2_refuse (wsV RX2 76 RX2 yX2_cabNumbered wsX2_cabNumbered) := goodIn_app (goodIn_of _ (by decide +kernel)) ggX2_refuse_X2_cabNumbered
set_option maxRecDepth 20000 in
theorem ggX2_refuse_X2_offeredTo : GoodIn wsX2_refuse wsX2_offeredTo := goodIn_r _ [38, 39, 40, 123, 124, 125, 126, 127, 128, 129, 130, 131] (by decide +kernel) (by decide +kernel)
set_option maxRecDepth 20000 in
theorem gX2_refuse_X2_offeredTo : GoodIn wsX2_refuse (va_wsS RX2 132 yX2_offeredTo wsX2_offeredTo) := goodIn_app (goodIn_of _ (by decide +kernel)) ggX2_refuse_X2_offeredTo
set_option maxRecDepth 20000 in
theorem ggX2_refuse_X2_turnDown : GoodIn wsX2_refuse wsX2_turnDown := goodIn_r _ [44, 45, 46, 47, 40, 36, 37, 7, 38, 39, 48, 49, 50, 51, 52, 53, 54, 55, 56, 57, 98, 99, 100, 101, 102, 103, 104, 105, 106, 107, 108, 109, 110, 111, 112, 123, 124, 125, 126, 127, 128, 129, 130, 131, 113, 114, 115, 116, 117, 118, 119] (by decide +kernel) (by decide +kernel)
set_option maxRecDepth 20000 in
theorem gX2_refuse_X2_turnDown : GoodIn wsX2_refuse (wsV RX2 98 RX2 yX2_turnDown wsX2_turnDown) := goodIn_app (goodIn_of _ (by decide +kernel)) ggX2_refuse_X2_turnDown
set_option maxRecDepth 20000 in
theorem ggX2_refuse_X2_makeOffers : GoodIn wsX2_refuse wsX2_makeOffers := goodIn_r _ [61, 11, 13, 14, 15, 16, 17, 18, 62, 63, 64, 7, 65, 66, 67, 68, 46, 47, 69, 70, 40, 19, 20, 21, 22, 23, 24, 25, 26, 27, 28, 29, 30, 31, 32, 33, 34, 35, 71, 72, 73, 74, 75, 76, 77, 78, 12, 79, 80, 57, 81, 82, 83, 84, 85, 45, 86, 87, 88, 39, 48, 49, 50, 51, 89, 90, 91, 92, 93, 94, 95, 96, 97, 113, 114, 115, 116, 117, 118, 119, 120, 121, 122, 98, 99, 100, 101, 102, 103, 104, 105, 106, 107, 108, 109, 110, 111, 112, 123, 124, 125, 126, 127, 128, 129, 130, 131] (by decide +kernel) (by decide +kernel)
set_option maxRecDepth 20000 in
theorem gX2_refuse_X2_makeOffers : GoodIn wsX2_refuse (wsV RX2 89 RX2 yX2_makeOffers wsX2_makeOffers) := goodIn_app (goodIn_of _ (by decide +kernel)) ggX2_refuse_X2_makeOffers
theorem dX2_refuse_0 : decode cX2_refuse 0 = .ok (.aload_n 0, 1) := by decide +kernel
theorem dX2_refuse_1 : decode cX2_refuse 1 = .ok (.iload_n 1, 1) := by decide +kernel
theorem dX2_refuse_2 : decode cX2_refuse 2 = .ok (.invokevirtual 76, 3) := by decide +kernel
theorem dX2_refuse_5 : decode cX2_refuse 5 = .ok (.astore_n 2, 1) := by decide +kernel
theorem dX2_refuse_6 : decode cX2_refuse 6 = .ok (.aload_n 2, 1) := by decide +kernel
theorem dX2_refuse_7 : decode cX2_refuse 7 = .ok (.invokestatic 132, 3) := by decide +kernel
theorem dX2_refuse_10 : decode cX2_refuse 10 = .ok (.astore_n 3, 1) := by decide +kernel
theorem dX2_refuse_11 : decode cX2_refuse 11 = .ok (.aload_n 3, 1) := by decide +kernel
theorem dX2_refuse_12 : decode cX2_refuse 12 = .ok (.ifnonnull 13, 3) := by decide +kernel
theorem dX2_refuse_15 : decode cX2_refuse 15 = .ok (.new 63, 3) := by decide +kernel
theorem dX2_refuse_18 : decode cX2_refuse 18 = .ok (.dup, 1) := by decide +kernel
theorem dX2_refuse_19 : decode cX2_refuse 19 = .ok (.ldc 136, 2) := by decide +kernel
theorem dX2_refuse_21 : decode cX2_refuse 21 = .ok (.invokespecial 67, 3) := by decide +kernel
theorem dX2_refuse_24 : decode cX2_refuse 24 = .ok (.athrow, 1) := by decide +kernel
theorem dX2_refuse_25 : decode cX2_refuse 25 = .ok (.aload_n 0, 1) := by decide +kernel
theorem dX2_refuse_26 : decode cX2_refuse 26 = .ok (.aload_n 2, 1) := by decide +kernel
theorem dX2_refuse_27 : decode cX2_refuse 27 = .ok (.invokevirtual 98, 3) := by decide +kernel
theorem dX2_refuse_30 : decode cX2_refuse 30 = .ok (.aload_n 0, 1) := by decide +kernel
theorem dX2_refuse_31 : decode cX2_refuse 31 = .ok (.invokevirtual 89, 3) := by decide +kernel
theorem dX2_refuse_34 : decode cX2_refuse 34 = .ok (.aload_n 3, 1) := by decide +kernel
theorem dX2_refuse_35 : decode cX2_refuse 35 = .ok (.getfield 153, 3) := by decide +kernel
theorem dX2_refuse_38 : decode cX2_refuse 38 = .ok (.ireturn, 1) := by decide +kernel
set_option maxRecDepth 20000 in
theorem ggX2_cancel_X2_orderNumbered : GoodIn wsX2_cancel wsX2_orderNumbered := goodIn_ca (goodIn_r _ [8, 9, 10, 11, 12, 13, 14, 15, 16, 17, 18, 19, 20, 21, 22, 23, 24, 25, 26, 27, 28, 29, 30, 31, 32, 33, 34, 35, 109, 110, 111, 112, 113, 114, 115, 116, 117, 118] (by decide +kernel) (by decide +kernel)) (goodIn_sub (fun _ h => List.mem_cons_of_mem _ (List.mem_append_right _ h)) (by decide +kernel))
set_option maxRecDepth 20000 in
theorem gX2_cancel_X2_orderNumbered : GoodIn wsX2_cancel (wsV RX2 156 RX2 yX2_orderNumbered wsX2_orderNumbered) := goodIn_app (goodIn_of _ (by decide +kernel)) ggX2_cancel_X2_orderNumbered
set_option maxRecDepth 20000 in
theorem ggX2_cancel_X2_releaseCab : GoodIn wsX2_cancel wsX2_releaseCab := goodIn_r _ [39, 40, 41, 42, 43, 44, 45, 7, 46, 47, 48, 94, 95, 96, 97, 98, 99, 100, 101, 102, 103, 104, 105, 106, 107, 108, 119, 120, 121, 122, 123, 124, 125, 126, 127, 109, 110, 111, 112, 113, 114, 115] (by decide +kernel) (by decide +kernel)
set_option maxRecDepth 20000 in
theorem gX2_cancel_X2_releaseCab : GoodIn wsX2_cancel (wsV RX2 162 RX2 yX2_releaseCab wsX2_releaseCab) := goodIn_app (goodIn_of _ (by decide +kernel)) ggX2_cancel_X2_releaseCab
set_option maxRecDepth 20000 in
theorem ggX2_cancel_X2_makeOffers : GoodIn wsX2_cancel wsX2_makeOffers := goodIn_r _ [52, 53, 13, 14, 15, 16, 17, 18, 54, 55, 56, 7, 57, 11, 12, 58, 3, 40, 59, 60, 41, 19, 20, 21, 22, 23, 24, 25, 26, 27, 28, 29, 30, 31, 32, 33, 34, 35, 61, 62, 63, 64, 65, 66, 67, 68, 69, 70, 71, 48, 72, 73, 74, 75, 76, 77, 78, 79, 80, 42, 81, 82, 83, 84, 85, 86, 87, 88, 89, 90, 91, 92, 93, 109, 110, 111, 112, 113, 114, 115, 116, 117, 118, 94, 95, 96, 97, 98, 99, 100, 101, 102, 103, 104, 105, 106, 107, 108, 119, 120, 121, 122, 123, 124, 125, 126, 127] (by decide +kernel) (by decide +kernel)
set_option maxRecDepth 20000 in
theorem gX2_cancel_X2_makeOffers : GoodIn wsX2_cancel (wsV RX2 89 RX2 yX2_makeOffers wsX2_makeOffers) := goodIn_app (goodIn_of _ (by decide +kernel)) ggX2_cancel_X2_makeOffers
theorem dX2_cancel_0 : decode cX2_cancel 0 = .ok (.aload_n 0, 1) := by decide +kernel
theorem dX2_cancel_1 : decode cX2_cancel 1 = .ok (.iload_n 1, 1) := by decide +kernel
theorem dX2_cancel_2 : decode cX2_cancel 2 = .ok (.invokevirtual 156, 3) := by decide +kernel
theorem dX2_cancel_5 : decode cX2_cancel 5 = .ok (.astore_n 2, 1) := by decide +kernel
theorem dX2_cancel_6 : decode cX2_cancel 6 = .ok (.aload_n 2, 1) := by decide +kernel
theorem dX2_cancel_7 : decode cX2_cancel 7 = .ok (.getfield 152, 3) := by decide +kernel
theorem dX2_cancel_10 : decode cX2_cancel 10 = .ok (.istore_n 3, 1) := by decide +kernel
theorem dX2_cancel_11 : decode cX2_cancel 11 = .ok (.iload_n 3, 1) := by decide +kernel
theorem dX2_cancel_12 : decode cX2_cancel 12 = .ok (.ifCond .eq 23, 3) := by decide +kernel
theorem dX2_cancel_15 : decode cX2_cancel 15 = .ok (.iload_n 3, 1) := by decide +kernel
theorem dX2_cancel_16 : decode cX2_cancel 16 = .ok (.iconst 1, 1) := by decide +kernel
theorem dX2_cancel_17 : decode cX2_cancel 17 = .ok (.if_icmp .eq 18, 3) := by decide +kernel
theorem dX2_cancel_20 : decode cX2_cancel 20 = .ok (.iload_n 3, 1) := by decide +kernel
theorem dX2_cancel_21 : decode cX2_cancel 21 = .ok (.iconst 2, 1) := by decide +kernel
theorem dX2_cancel_22 : decode cX2_cancel 22 = .ok (.if_icmp .eq 13, 3) := by decide +kernel
theorem dX2_cancel_25 : decode cX2_cancel 25 = .ok (.new 63, 3) := by decide +kernel
theorem dX2_cancel_28 : decode cX2_cancel 28 = .ok (.dup, 1) := by decide +kernel
theorem dX2_cancel_29 : decode cX2_cancel 29 = .ok (.ldc 160, 2) := by decide +kernel
theorem dX2_cancel_31 : decode cX2_cancel 31 = .ok (.invokespecial 67, 3) := by decide +kernel
theorem dX2_cancel_34 : decode cX2_cancel 34 = .ok (.athrow, 1) := by decide +kernel
theorem dX2_cancel_35 : decode cX2_cancel 35 = .ok (.aload_n 0, 1) := by decide +kernel
theorem dX2_cancel_36 : decode cX2_cancel 36 = .ok (.aload_n 2, 1) := by decide +kernel
theorem dX2_cancel_37 : decode cX2_cancel 37 = .ok (.invokevirtual 162, 3) := by decide +kernel
theorem dX2_cancel_40 : decode cX2_cancel 40 = .ok (.aload_n 2, 1) := by decide +kernel
theorem dX2_cancel_41 : decode cX2_cancel 41 = .ok (.iconst 5, 1) := by decide +kernel
theorem dX2_cancel_42 : decode cX2_cancel 42 = .ok (.putfield 152, 3) := by decide +kernel
theorem dX2_cancel_45 : decode cX2_cancel 45 = .ok (.aload_n 0, 1) := by decide +kernel
theorem dX2_cancel_46 : decode cX2_cancel 46 = .ok (.invokevirtual 89, 3) := by decide +kernel
theorem dX2_cancel_49 : decode cX2_cancel 49 = .ok (.iload_n 3, 1) := by decide +kernel
theorem dX2_cancel_50 : decode cX2_cancel 50 = .ok (.ireturn, 1) := by decide +kernel
set_option maxRecDepth 20000 in
theorem ggX2_told_X2_orderNumbered : GoodIn wsX2_told wsX2_orderNumbered := goodIn_ca (goodIn_r _ [7, 1, 2, 8, 9, 10, 11, 12, 13, 14, 15, 16, 17, 18, 19, 20, 21, 22, 23, 24, 25, 26, 27, 28, 29, 30, 31, 32, 49, 50, 51, 52, 53, 54, 55, 56, 57, 58] (by decide +kernel) (by decide +kernel)) (goodIn_sub (fun _ h => List.mem_cons_of_mem _ (List.mem_append_right _ h)) (by decide +kernel))
set_option maxRecDepth 20000 in
theorem gX2_told_X2_orderNumbered : GoodIn wsX2_told (wsV RX2 156 RX2 yX2_orderNumbered wsX2_orderNumbered) := goodIn_app (goodIn_of _ (by decide +kernel)) ggX2_told_X2_orderNumbered
set_option maxRecDepth 20000 in
theorem ggX2_told_X2_orderDetail : GoodIn wsX2_told wsX2_orderDetail := goodIn_r _ [35, 36, 37, 38, 39, 40, 41, 42, 43, 44, 45, 46, 47, 48, 59, 60, 61, 62, 63, 64, 65, 66, 67, 68, 69, 70, 71, 72, 73, 74, 75, 76, 77, 78, 79, 80, 81, 82] (by decide +kernel) (by decide +kernel)
set_option maxRecDepth 20000 in
theorem gX2_told_X2_orderDetail : GoodIn wsX2_told (va_wsS RX2 166 yX2_orderDetail wsX2_orderDetail) := goodIn_app (goodIn_of _ (by decide +kernel)) ggX2_told_X2_orderDetail
theorem dX2_told_0 : decode cX2_told 0 = .ok (.aload_n 0, 1) := by decide +kernel
theorem dX2_told_1 : decode cX2_told 1 = .ok (.iload_n 1, 1) := by decide +kernel
theorem dX2_told_2 : decode cX2_told 2 = .ok (.invokevirtual 156, 3) := by decide +kernel
theorem dX2_told_5 : decode cX2_told 5 = .ok (.astore_n 3, 1) := by decide +kernel
theorem dX2_told_6 : decode cX2_told 6 = .ok (.iload_n 2, 1) := by decide +kernel
theorem dX2_told_7 : decode cX2_told 7 = .ok (.ifCond .lt 8, 3) := by decide +kernel
theorem dX2_told_10 : decode cX2_told 10 = .ok (.iload_n 2, 1) := by decide +kernel
theorem dX2_told_11 : decode cX2_told 11 = .ok (.iconst 5, 1) := by decide +kernel
theorem dX2_told_12 : decode cX2_told 12 = .ok (.if_icmp .lt 13, 3) := by decide +kernel
theorem dX2_told_15 : decode cX2_told 15 = .ok (.new 108, 3) := by decide +kernel
theorem dX2_told_18 : decode cX2_told 18 = .ok (.dup, 1) := by decide +kernel
theorem dX2_told_19 : decode cX2_told 19 = .ok (.ldc 110, 2) := by decide +kernel
theorem dX2_told_21 : decode cX2_told 21 = .ok (.invokespecial 112, 3) := by decide +kernel
theorem dX2_told_24 : decode cX2_told 24 = .ok (.athrow, 1) := by decide +kernel
theorem dX2_told_25 : decode cX2_told 25 = .ok (.aload_n 3, 1) := by decide +kernel
theorem dX2_told_26 : decode cX2_told 26 = .ok (.iload_n 2, 1) := by decide +kernel
theorem dX2_told_27 : decode cX2_told 27 = .ok (.invokestatic 166, 3) := by decide +kernel
theorem dX2_told_30 : decode cX2_told 30 = .ok (.ireturn, 1) := by decide +kernel
set_option maxRecDepth 20000 in
theorem ggX2_tick_X2_passMinute : GoodIn wsX2_tick wsX2_passMinute := goodIn_r _ [8, 3, 9, 10, 11, 7, 12, 13, 14, 15, 16, 17, 18, 19, 20, 21, 22, 23, 24, 25, 26, 27, 28, 29, 30, 31, 32, 33, 34, 35, 36, 37, 38, 39, 40, 41, 42, 43, 44, 45, 46, 47, 48, 49, 50, 51, 52, 53, 54, 55, 56, 57, 58, 59, 60, 61, 62, 63, 64, 65, 66, 67, 68, 69, 70, 71, 72, 73, 74, 75, 76, 77, 78, 79, 80, 81, 82, 83, 84, 85, 86, 87, 88, 89, 90, 91, 92, 93, 94, 95, 96, 97, 98, 99, 100, 101, 102, 103, 104, 105, 106, 107, 108, 109, 110, 111, 112, 113, 114, 115, 116, 117, 118, 119, 120, 121, 122, 123, 124, 125, 126, 127, 128, 129, 130, 131, 132, 133, 134, 135, 136, 137, 138, 139, 140, 141, 142, 143, 144, 145, 146, 147, 148, 149, 150, 151, 152, 153, 154, 155, 156, 157, 158, 159, 160, 161, 162, 163, 164, 165, 166, 167] (by decide +kernel) (by decide +kernel)
set_option maxRecDepth 20000 in
theorem gX2_tick_X2_passMinute : GoodIn wsX2_tick (wsV RX2 179 RX2 yX2_passMinute wsX2_passMinute) := goodIn_app (goodIn_of _ (by decide +kernel)) ggX2_tick_X2_passMinute
theorem dX2_tick_0 : decode cX2_tick 0 = .ok (.iload_n 1, 1) := by decide +kernel
theorem dX2_tick_1 : decode cX2_tick 1 = .ok (.iconst 1, 1) := by decide +kernel
theorem dX2_tick_2 : decode cX2_tick 2 = .ok (.if_icmp .lt 10, 3) := by decide +kernel
theorem dX2_tick_5 : decode cX2_tick 5 = .ok (.iload_n 1, 1) := by decide +kernel
theorem dX2_tick_6 : decode cX2_tick 6 = .ok (.sipush 300, 3) := by decide +kernel
theorem dX2_tick_9 : decode cX2_tick 9 = .ok (.if_icmp .le 13, 3) := by decide +kernel
theorem dX2_tick_12 : decode cX2_tick 12 = .ok (.new 34, 3) := by decide +kernel
theorem dX2_tick_15 : decode cX2_tick 15 = .ok (.dup, 1) := by decide +kernel
theorem dX2_tick_16 : decode cX2_tick 16 = .ok (.ldc 175, 2) := by decide +kernel
theorem dX2_tick_18 : decode cX2_tick 18 = .ok (.invokespecial 38, 3) := by decide +kernel
theorem dX2_tick_21 : decode cX2_tick 21 = .ok (.athrow, 1) := by decide +kernel
theorem dX2_tick_22 : decode cX2_tick 22 = .ok (.iload_n 1, 1) := by decide +kernel
theorem dX2_tick_23 : decode cX2_tick 23 = .ok (.sipush 9999, 3) := by decide +kernel
theorem dX2_tick_26 : decode cX2_tick 26 = .ok (.aload_n 0, 1) := by decide +kernel
theorem dX2_tick_27 : decode cX2_tick 27 = .ok (.getfield 120, 3) := by decide +kernel
theorem dX2_tick_30 : decode cX2_tick 30 = .ok (.isub, 1) := by decide +kernel
theorem dX2_tick_31 : decode cX2_tick 31 = .ok (.if_icmp .le 13, 3) := by decide +kernel
theorem dX2_tick_34 : decode cX2_tick 34 = .ok (.new 34, 3) := by decide +kernel
theorem dX2_tick_37 : decode cX2_tick 37 = .ok (.dup, 1) := by decide +kernel
theorem dX2_tick_38 : decode cX2_tick 38 = .ok (.ldc 177, 2) := by decide +kernel
theorem dX2_tick_40 : decode cX2_tick 40 = .ok (.invokespecial 38, 3) := by decide +kernel
theorem dX2_tick_43 : decode cX2_tick 43 = .ok (.athrow, 1) := by decide +kernel
theorem dX2_tick_44 : decode cX2_tick 44 = .ok (.iconst 0, 1) := by decide +kernel
theorem dX2_tick_45 : decode cX2_tick 45 = .ok (.istore_n 2, 1) := by decide +kernel
theorem dX2_tick_46 : decode cX2_tick 46 = .ok (.iconst 0, 1) := by decide +kernel
theorem dX2_tick_47 : decode cX2_tick 47 = .ok (.istore_n 3, 1) := by decide +kernel
theorem dX2_tick_48 : decode cX2_tick 48 = .ok (.iload_n 3, 1) := by decide +kernel
theorem dX2_tick_49 : decode cX2_tick 49 = .ok (.iload_n 1, 1) := by decide +kernel
theorem dX2_tick_50 : decode cX2_tick 50 = .ok (.if_icmp .ge 16, 3) := by decide +kernel
theorem dX2_tick_53 : decode cX2_tick 53 = .ok (.iload_n 2, 1) := by decide +kernel
theorem dX2_tick_54 : decode cX2_tick 54 = .ok (.aload_n 0, 1) := by decide +kernel
theorem dX2_tick_55 : decode cX2_tick 55 = .ok (.invokevirtual 179, 3) := by decide +kernel
theorem dX2_tick_58 : decode cX2_tick 58 = .ok (.iadd, 1) := by decide +kernel
theorem dX2_tick_59 : decode cX2_tick 59 = .ok (.istore_n 2, 1) := by decide +kernel
theorem dX2_tick_60 : decode cX2_tick 60 = .ok (.iinc 3 1, 3) := by decide +kernel
theorem dX2_tick_63 : decode cX2_tick 63 = .ok (.goto (-15), 3) := by decide +kernel
theorem dX2_tick_66 : decode cX2_tick 66 = .ok (.iload_n 2, 1) := by decide +kernel
theorem dX2_tick_67 : decode cX2_tick 67 = .ok (.ireturn, 1) := by decide +kernel
theorem dX2_now_0 : decode cX2_now 0 = .ok (.aload_n 0, 1) := by decide +kernel
theorem dX2_now_1 : decode cX2_now 1 = .ok (.getfield 120, 3) := by decide +kernel
theorem dX2_now_4 : decode cX2_now 4 = .ok (.ireturn, 1) := by decide +kernel
set_option maxRecDepth 20000 in
theorem ggX2_count_Jx4a65c_size_8abf5 : GoodIn wsX2_count wsJx4a65c_size_8abf5 := goodIn_r _ [9, 10, 42, 43, 44] (by decide +kernel) (by decide +kernel)
set_option maxRecDepth 20000 in
theorem gX2_count_Jx4a65c_size_8abf5 : GoodIn wsX2_count (wsV RX2 59 RJx4a65c yJx4a65c_size_8abf5 wsJx4a65c_size_8abf5) := goodIn_app (goodIn_of _ (by decide +kernel)) ggX2_count_Jx4a65c_size_8abf5
set_option maxRecDepth 20000 in
theorem ggX2_count_X2_ordersInState : GoodIn wsX2_count wsX2_ordersInState := goodIn_r _ [15, 4, 16, 17, 5, 6, 7, 8, 9, 10, 18, 19, 20, 21, 22, 23, 24, 25, 26, 27, 28, 29, 30, 31, 32, 33, 34, 35, 36, 37, 38, 39, 40, 41, 45, 46, 47, 48, 49, 50, 51, 52, 53, 54, 55, 56, 57, 58, 59, 42, 43, 44] (by decide +kernel) (by decide +kernel)
set_option maxRecDepth 20000 in
theorem gX2_count_X2_ordersInState : GoodIn wsX2_count (wsV RX2 189 RX2 yX2_ordersInState wsX2_ordersInState) := goodIn_app (goodIn_of _ (by decide +kernel)) ggX2_count_X2_ordersInState
theorem dX2_count_0 : decode cX2_count 0 = .ok (.iload_n 1, 1) := by decide +kernel
theorem dX2_count_1 : decode cX2_count 1 = .ok (.ifCond .lt 9, 3) := by decide +kernel
theorem dX2_count_4 : decode cX2_count 4 = .ok (.iload_n 1, 1) := by decide +kernel
theorem dX2_count_5 : decode cX2_count 5 = .ok (.bipush 7, 2) := by decide +kernel
theorem dX2_count_7 : decode cX2_count 7 = .ok (.if_icmp .le 13, 3) := by decide +kernel
theorem dX2_count_10 : decode cX2_count 10 = .ok (.new 108, 3) := by decide +kernel
theorem dX2_count_13 : decode cX2_count 13 = .ok (.dup, 1) := by decide +kernel
theorem dX2_count_14 : decode cX2_count 14 = .ok (.ldc 187, 2) := by decide +kernel
theorem dX2_count_16 : decode cX2_count 16 = .ok (.invokespecial 112, 3) := by decide +kernel
theorem dX2_count_19 : decode cX2_count 19 = .ok (.athrow, 1) := by decide +kernel
theorem dX2_count_20 : decode cX2_count 20 = .ok (.iload_n 1, 1) := by decide +kernel
theorem dX2_count_21 : decode cX2_count 21 = .ok (.ifCond .ne 11, 3) := by decide +kernel
theorem dX2_count_24 : decode cX2_count 24 = .ok (.aload_n 0, 1) := by decide +kernel
theorem dX2_count_25 : decode cX2_count 25 = .ok (.getfield 16, 3) := by decide +kernel
theorem dX2_count_28 : decode cX2_count 28 = .ok (.invokevirtual 59, 3) := by decide +kernel
theorem dX2_count_31 : decode cX2_count 31 = .ok (.ireturn, 1) := by decide +kernel
theorem dX2_count_32 : decode cX2_count 32 = .ok (.iload_n 1, 1) := by decide +kernel
theorem dX2_count_33 : decode cX2_count 33 = .ok (.iconst 1, 1) := by decide +kernel
theorem dX2_count_34 : decode cX2_count 34 = .ok (.if_icmp .ne 11, 3) := by decide +kernel
theorem dX2_count_37 : decode cX2_count 37 = .ok (.aload_n 0, 1) := by decide +kernel
theorem dX2_count_38 : decode cX2_count 38 = .ok (.getfield 20, 3) := by decide +kernel
theorem dX2_count_41 : decode cX2_count 41 = .ok (.invokevirtual 59, 3) := by decide +kernel
theorem dX2_count_44 : decode cX2_count 44 = .ok (.ireturn, 1) := by decide +kernel
theorem dX2_count_45 : decode cX2_count 45 = .ok (.aload_n 0, 1) := by decide +kernel
theorem dX2_count_46 : decode cX2_count 46 = .ok (.iload_n 1, 1) := by decide +kernel
theorem dX2_count_47 : decode cX2_count 47 = .ok (.iconst 2, 1) := by decide +kernel
theorem dX2_count_48 : decode cX2_count 48 = .ok (.isub, 1) := by decide +kernel
theorem dX2_count_49 : decode cX2_count 49 = .ok (.invokevirtual 189, 3) := by decide +kernel
theorem dX2_count_52 : decode cX2_count 52 = .ok (.ireturn, 1) := by decide +kernel
theorem dX2_isZone_0 : decode cX2_isZone 0 = .ok (.iload_n 0, 1) := by decide +kernel
theorem dX2_isZone_1 : decode cX2_isZone 1 = .ok (.ifCond .lt 13, 3) := by decide +kernel
theorem dX2_isZone_4 : decode cX2_isZone 4 = .ok (.iload_n 0, 1) := by decide +kernel
theorem dX2_isZone_5 : decode cX2_isZone 5 = .ok (.bipush 6, 2) := by decide +kernel
theorem dX2_isZone_7 : decode cX2_isZone 7 = .ok (.if_icmp .ge 7, 3) := by decide +kernel
theorem dX2_isZone_10 : decode cX2_isZone 10 = .ok (.iconst 1, 1) := by decide +kernel
theorem dX2_isZone_11 : decode cX2_isZone 11 = .ok (.goto 4, 3) := by decide +kernel
theorem dX2_isZone_14 : decode cX2_isZone 14 = .ok (.iconst 0, 1) := by decide +kernel
theorem dX2_isZone_15 : decode cX2_isZone 15 = .ok (.ireturn, 1) := by decide +kernel
set_option maxRecDepth 20000 in
theorem ggX2_requireZone_X2_isZone : GoodIn wsX2_requireZone wsX2_isZone := goodIn_r _ [6] (by decide +kernel) (by decide +kernel)
set_option maxRecDepth 20000 in
theorem gX2_requireZone_X2_isZone : GoodIn wsX2_requireZone (va_wsS RX2 53 yX2_isZone wsX2_isZone) := goodIn_app (goodIn_of _ (by decide +kernel)) ggX2_requireZone_X2_isZone
theorem dX2_requireZone_0 : decode cX2_requireZone 0 = .ok (.iload_n 0, 1) := by decide +kernel
theorem dX2_requireZone_1 : decode cX2_requireZone 1 = .ok (.invokestatic 53, 3) := by decide +kernel
theorem dX2_requireZone_4 : decode cX2_requireZone 4 = .ok (.ifCond .ne 13, 3) := by decide +kernel
theorem dX2_requireZone_7 : decode cX2_requireZone 7 = .ok (.new 108, 3) := by decide +kernel
theorem dX2_requireZone_10 : decode cX2_requireZone 10 = .ok (.dup, 1) := by decide +kernel
theorem dX2_requireZone_11 : decode cX2_requireZone 11 = .ok (.ldc 232, 2) := by decide +kernel
theorem dX2_requireZone_13 : decode cX2_requireZone 13 = .ok (.invokespecial 112, 3) := by decide +kernel
theorem dX2_requireZone_16 : decode cX2_requireZone 16 = .ok (.athrow, 1) := by decide +kernel
theorem dX2_requireZone_17 : decode cX2_requireZone 17 = .ok (.return_, 1) := by decide +kernel
theorem dX2_requirePassengers_0 : decode cX2_requirePassengers 0 = .ok (.iload_n 0, 1) := by decide +kernel
theorem dX2_requirePassengers_1 : decode cX2_requirePassengers 1 = .ok (.iconst 1, 1) := by decide +kernel
theorem dX2_requirePassengers_2 : decode cX2_requirePassengers 2 = .ok (.if_icmp .lt 9, 3) := by decide +kernel
theorem dX2_requirePassengers_5 : decode cX2_requirePassengers 5 = .ok (.iload_n 0, 1) := by decide +kernel
theorem dX2_requirePassengers_6 : decode cX2_requirePassengers 6 = .ok (.bipush 8, 2) := by decide +kernel
theorem dX2_requirePassengers_8 : decode cX2_requirePassengers 8 = .ok (.if_icmp .le 13, 3) := by decide +kernel
theorem dX2_requirePassengers_11 : decode cX2_requirePassengers 11 = .ok (.new 34, 3) := by decide +kernel
theorem dX2_requirePassengers_14 : decode cX2_requirePassengers 14 = .ok (.dup, 1) := by decide +kernel
theorem dX2_requirePassengers_15 : decode cX2_requirePassengers 15 = .ok (.ldc 234, 2) := by decide +kernel
theorem dX2_requirePassengers_17 : decode cX2_requirePassengers 17 = .ok (.invokespecial 38, 3) := by decide +kernel
theorem dX2_requirePassengers_20 : decode cX2_requirePassengers 20 = .ok (.athrow, 1) := by decide +kernel
theorem dX2_requirePassengers_21 : decode cX2_requirePassengers 21 = .ok (.return_, 1) := by decide +kernel
set_option maxRecDepth 20000 in
theorem ggX2_cabNumbered_Jx4a65c_size_8abf5 : GoodIn wsX2_cabNumbered wsJx4a65c_size_8abf5 := goodIn_r _ [9, 10, 35, 36, 37] (by decide +kernel) (by decide +kernel)
set_option maxRecDepth 20000 in
theorem gX2_cabNumbered_Jx4a65c_size_8abf5 : GoodIn wsX2_cabNumbered (wsV RX2 59 RJx4a65c yJx4a65c_size_8abf5 wsJx4a65c_size_8abf5) := goodIn_app (goodIn_of _ (by decide +kernel)) ggX2_cabNumbered_Jx4a65c_size_8abf5
set_option maxRecDepth 20000 in
theorem ggX2_cabNumbered_Jx4a65c_get_915e3 : GoodIn wsX2_cabNumbered wsJx4a65c_get_915e3 := goodIn_r _ [14, 10, 15, 16, 17, 18, 19, 20, 21, 22, 23, 24, 25, 8, 26, 27, 35, 36, 37] (by decide +kernel) (by decide +kernel)
set_option maxRecDepth 20000 in
theorem gX2_cabNumbered_Jx4a65c_get_915e3 : GoodIn wsX2_cabNumbered (wsV RX2 197 RJx4a65c yJx4a65c_get_915e3 wsJx4a65c_get_915e3) := goodIn_app (goodIn_of _ (by decide +kernel)) ggX2_cabNumbered_Jx4a65c_get_915e3
theorem dX2_cabNumbered_0 : decode cX2_cabNumbered 0 = .ok (.iload_n 1, 1) := by decide +kernel
theorem dX2_cabNumbered_1 : decode cX2_cabNumbered 1 = .ok (.ifCond .lt 14, 3) := by decide +kernel
theorem dX2_cabNumbered_4 : decode cX2_cabNumbered 4 = .ok (.iload_n 1, 1) := by decide +kernel
theorem dX2_cabNumbered_5 : decode cX2_cabNumbered 5 = .ok (.aload_n 0, 1) := by decide +kernel
theorem dX2_cabNumbered_6 : decode cX2_cabNumbered 6 = .ok (.getfield 16, 3) := by decide +kernel
theorem dX2_cabNumbered_9 : decode cX2_cabNumbered 9 = .ok (.invokevirtual 59, 3) := by decide +kernel
theorem dX2_cabNumbered_12 : decode cX2_cabNumbered 12 = .ok (.if_icmp .lt 13, 3) := by decide +kernel
theorem dX2_cabNumbered_15 : decode cX2_cabNumbered 15 = .ok (.new 108, 3) := by decide +kernel
theorem dX2_cabNumbered_18 : decode cX2_cabNumbered 18 = .ok (.dup, 1) := by decide +kernel
theorem dX2_cabNumbered_19 : decode cX2_cabNumbered 19 = .ok (.ldc 236, 2) := by decide +kernel
theorem dX2_cabNumbered_21 : decode cX2_cabNumbered 21 = .ok (.invokespecial 112, 3) := by decide +kernel
theorem dX2_cabNumbered_24 : decode cX2_cabNumbered 24 = .ok (.athrow, 1) := by decide +kernel
theorem dX2_cabNumbered_25 : decode cX2_cabNumbered 25 = .ok (.aload_n 0, 1) := by decide +kernel
theorem dX2_cabNumbered_26 : decode cX2_cabNumbered 26 = .ok (.getfield 16, 3) := by decide +kernel
theorem dX2_cabNumbered_29 : decode cX2_cabNumbered 29 = .ok (.iload_n 1, 1) := by decide +kernel
theorem dX2_cabNumbered_30 : decode cX2_cabNumbered 30 = .ok (.invokevirtual 197, 3) := by decide +kernel
theorem dX2_cabNumbered_33 : decode cX2_cabNumbered 33 = .ok (.checkcast 68, 3) := by decide +kernel
theorem dX2_cabNumbered_36 : decode cX2_cabNumbered 36 = .ok (.areturn, 1) := by decide +kernel
set_option maxRecDepth 20000 in
theorem ggX2_orderNumbered_Jx4a65c_size_8abf5 : GoodIn wsX2_orderNumbered wsJx4a65c_size_8abf5 := goodIn_r _ [9, 10, 35, 36, 37] (by decide +kernel) (by decide +kernel)
set_option maxRecDepth 20000 in
theorem gX2_orderNumbered_Jx4a65c_size_8abf5 : GoodIn wsX2_orderNumbered (wsV RX2 59 RJx4a65c yJx4a65c_size_8abf5 wsJx4a65c_size_8abf5) := goodIn_app (goodIn_of _ (by decide +kernel)) ggX2_orderNumbered_Jx4a65c_size_8abf5
set_option maxRecDepth 20000 in
theorem ggX2_orderNumbered_Jx4a65c_get_915e3 : GoodIn wsX2_orderNumbered wsJx4a65c_get_915e3 := goodIn_r _ [14, 10, 15, 16, 17, 18, 19, 20, 21, 22, 23, 24, 25, 8, 26, 27, 35, 36, 37] (by decide +kernel) (by decide +kernel)
set_option maxRecDepth 20000 in
theorem gX2_orderNumbered_Jx4a65c_get_915e3 : GoodIn wsX2_orderNumbered (wsV RX2 197 RJx4a65c yJx4a65c_get_915e3 wsJx4a65c_get_915e3) := goodIn_app (goodIn_of _ (by decide +kernel)) ggX2_orderNumbered_Jx4a65c_get_915e3
theorem dX2_orderNumbered_0 : decode cX2_orderNumbered 0 = .ok (.iload_n 1, 1) := by decide +kernel
theorem dX2_orderNumbered_1 : decode cX2_orderNumbered 1 = .ok (.ifCond .lt 14, 3) := by decide +kernel
theorem dX2_orderNumbered_4 : decode cX2_orderNumbered 4 = .ok (.iload_n 1, 1) := by decide +kernel
theorem dX2_orderNumbered_5 : decode cX2_orderNumbered 5 = .ok (.aload_n 0, 1) := by decide +kernel
theorem dX2_orderNumbered_6 : decode cX2_orderNumbered 6 = .ok (.getfield 20, 3) := by decide +kernel
theorem dX2_orderNumbered_9 : decode cX2_orderNumbered 9 = .ok (.invokevirtual 59, 3) := by decide +kernel
theorem dX2_orderNumbered_12 : decode cX2_orderNumbered 12 = .ok (.if_icmp .lt 13, 3) := by decide +kernel
theorem dX2_orderNumbered_15 : decode cX2_orderNumbered 15 = .ok (.new 108, 3) := by decide +kernel
theorem dX2_orderNumbered_18 : decode cX2_orderNumbered 18 = .ok (.dup, 1) := by decide +kernel
end
section
theorem dX2_orderNumbered_19 : decode cX2_orderNumbered 19 = .ok (.ldc 238, 2) := by decide +kernel
theorem dX2_orderNumbered_21 : decode cX2_orderNumbered 21 = .ok (.invokespecial 112, 3) := by decide +kernel
theorem dX2_orderNumbered_24 : decode cX2_orderNumbered 24 = .ok (.athrow, 1) := by decide +kernel
theorem dX2_orderNumbered_25 : decode cX2_orderNumbered 25 = .ok (.aload_n 0, 1) := by decide +kernel
theorem dX2_orderNumbered_26 : decode cX2_orderNumbered 26 = .ok (.getfield 20, 3) := by decide +kernel
theorem dX2_orderNumbered_29 : decode cX2_orderNumbered 29 = .ok (.iload_n 1, 1) := by decide +kernel
theorem dX2_orderNumbered_30 : decode cX2_orderNumbered 30 = .ok (.invokevirtual 197, 3) := by decide +kernel
theorem dX2_orderNumbered_33 : decode cX2_orderNumbered 33 = .ok (.checkcast 127, 3) := by decide +kernel
theorem dX2_orderNumbered_36 : decode cX2_orderNumbered 36 = .ok (.areturn, 1) := by decide +kernel
theorem dX2_wayBetween_0 : decode cX2_wayBetween 0 = .ok (.iload_n 1, 1) := by decide +kernel
theorem dX2_wayBetween_1 : decode cX2_wayBetween 1 = .ok (.bipush 6, 2) := by decide +kernel
theorem dX2_wayBetween_3 : decode cX2_wayBetween 3 = .ok (.imul, 1) := by decide +kernel
theorem dX2_wayBetween_4 : decode cX2_wayBetween 4 = .ok (.iload_n 2, 1) := by decide +kernel
theorem dX2_wayBetween_5 : decode cX2_wayBetween 5 = .ok (.iadd, 1) := by decide +kernel
theorem dX2_wayBetween_6 : decode cX2_wayBetween 6 = .ok (.istore_n 3, 1) := by decide +kernel
theorem dX2_wayBetween_7 : decode cX2_wayBetween 7 = .ok (.iload_n 3, 1) := by decide +kernel
theorem dX2_wayBetween_8 : decode cX2_wayBetween 8 = .ok (.ifCond .lt 21, 3) := by decide +kernel
theorem dX2_wayBetween_11 : decode cX2_wayBetween 11 = .ok (.iload_n 3, 1) := by decide +kernel
theorem dX2_wayBetween_12 : decode cX2_wayBetween 12 = .ok (.aload_n 0, 1) := by decide +kernel
theorem dX2_wayBetween_13 : decode cX2_wayBetween 13 = .ok (.getfield 9, 3) := by decide +kernel
theorem dX2_wayBetween_16 : decode cX2_wayBetween 16 = .ok (.arraylength, 1) := by decide +kernel
theorem dX2_wayBetween_17 : decode cX2_wayBetween 17 = .ok (.if_icmp .ge 12, 3) := by decide +kernel
theorem dX2_wayBetween_20 : decode cX2_wayBetween 20 = .ok (.aload_n 0, 1) := by decide +kernel
theorem dX2_wayBetween_21 : decode cX2_wayBetween 21 = .ok (.getfield 9, 3) := by decide +kernel
theorem dX2_wayBetween_24 : decode cX2_wayBetween 24 = .ok (.iload_n 3, 1) := by decide +kernel
theorem dX2_wayBetween_25 : decode cX2_wayBetween 25 = .ok (.iaload, 1) := by decide +kernel
theorem dX2_wayBetween_26 : decode cX2_wayBetween 26 = .ok (.goto 4, 3) := by decide +kernel
theorem dX2_wayBetween_29 : decode cX2_wayBetween 29 = .ok (.iconst 5, 1) := by decide +kernel
theorem dX2_wayBetween_30 : decode cX2_wayBetween 30 = .ok (.ireturn, 1) := by decide +kernel
theorem dX2_putWay_0 : decode cX2_putWay 0 = .ok (.iload_n 1, 1) := by decide +kernel
theorem dX2_putWay_1 : decode cX2_putWay 1 = .ok (.bipush 6, 2) := by decide +kernel
theorem dX2_putWay_3 : decode cX2_putWay 3 = .ok (.imul, 1) := by decide +kernel
theorem dX2_putWay_4 : decode cX2_putWay 4 = .ok (.iload_n 2, 1) := by decide +kernel
theorem dX2_putWay_5 : decode cX2_putWay 5 = .ok (.iadd, 1) := by decide +kernel
theorem dX2_putWay_6 : decode cX2_putWay 6 = .ok (.istore 4, 2) := by decide +kernel
theorem dX2_putWay_8 : decode cX2_putWay 8 = .ok (.iload 4, 2) := by decide +kernel
theorem dX2_putWay_10 : decode cX2_putWay 10 = .ok (.ifCond .lt 21, 3) := by decide +kernel
theorem dX2_putWay_13 : decode cX2_putWay 13 = .ok (.iload 4, 2) := by decide +kernel
theorem dX2_putWay_15 : decode cX2_putWay 15 = .ok (.aload_n 0, 1) := by decide +kernel
theorem dX2_putWay_16 : decode cX2_putWay 16 = .ok (.getfield 9, 3) := by decide +kernel
theorem dX2_putWay_19 : decode cX2_putWay 19 = .ok (.arraylength, 1) := by decide +kernel
theorem dX2_putWay_20 : decode cX2_putWay 20 = .ok (.if_icmp .ge 11, 3) := by decide +kernel
theorem dX2_putWay_23 : decode cX2_putWay 23 = .ok (.aload_n 0, 1) := by decide +kernel
theorem dX2_putWay_24 : decode cX2_putWay 24 = .ok (.getfield 9, 3) := by decide +kernel
theorem dX2_putWay_27 : decode cX2_putWay 27 = .ok (.iload 4, 2) := by decide +kernel
theorem dX2_putWay_29 : decode cX2_putWay 29 = .ok (.iload_n 3, 1) := by decide +kernel
theorem dX2_putWay_30 : decode cX2_putWay 30 = .ok (.iastore, 1) := by decide +kernel
theorem dX2_putWay_31 : decode cX2_putWay 31 = .ok (.return_, 1) := by decide +kernel
theorem dX2_joinQueue_0 : decode cX2_joinQueue 0 = .ok (.aload_n 1, 1) := by decide +kernel
theorem dX2_joinQueue_1 : decode cX2_joinQueue 1 = .ok (.iconst 1, 1) := by decide +kernel
theorem dX2_joinQueue_2 : decode cX2_joinQueue 2 = .ok (.putfield 80, 3) := by decide +kernel
theorem dX2_joinQueue_5 : decode cX2_joinQueue 5 = .ok (.aload_n 1, 1) := by decide +kernel
theorem dX2_joinQueue_6 : decode cX2_joinQueue 6 = .ok (.aload_n 0, 1) := by decide +kernel
theorem dX2_joinQueue_7 : decode cX2_joinQueue 7 = .ok (.getfield 240, 3) := by decide +kernel
theorem dX2_joinQueue_10 : decode cX2_joinQueue 10 = .ok (.putfield 243, 3) := by decide +kernel
theorem dX2_joinQueue_13 : decode cX2_joinQueue 13 = .ok (.aload_n 0, 1) := by decide +kernel
theorem dX2_joinQueue_14 : decode cX2_joinQueue 14 = .ok (.dup, 1) := by decide +kernel
theorem dX2_joinQueue_15 : decode cX2_joinQueue 15 = .ok (.getfield 240, 3) := by decide +kernel
theorem dX2_joinQueue_18 : decode cX2_joinQueue 18 = .ok (.iconst 1, 1) := by decide +kernel
theorem dX2_joinQueue_19 : decode cX2_joinQueue 19 = .ok (.iadd, 1) := by decide +kernel
theorem dX2_joinQueue_20 : decode cX2_joinQueue 20 = .ok (.putfield 240, 3) := by decide +kernel
theorem dX2_joinQueue_23 : decode cX2_joinQueue 23 = .ok (.return_, 1) := by decide +kernel
theorem dX2_isInQueue_0 : decode cX2_isInQueue 0 = .ok (.aload_n 0, 1) := by decide +kernel
theorem dX2_isInQueue_1 : decode cX2_isInQueue 1 = .ok (.getfield 80, 3) := by decide +kernel
theorem dX2_isInQueue_4 : decode cX2_isInQueue 4 = .ok (.iconst 1, 1) := by decide +kernel
theorem dX2_isInQueue_5 : decode cX2_isInQueue 5 = .ok (.if_icmp .ne 15, 3) := by decide +kernel
theorem dX2_isInQueue_8 : decode cX2_isInQueue 8 = .ok (.aload_n 0, 1) := by decide +kernel
theorem dX2_isInQueue_9 : decode cX2_isInQueue 9 = .ok (.getfield 101, 3) := by decide +kernel
theorem dX2_isInQueue_12 : decode cX2_isInQueue 12 = .ok (.iload_n 1, 1) := by decide +kernel
theorem dX2_isInQueue_13 : decode cX2_isInQueue 13 = .ok (.if_icmp .ne 7, 3) := by decide +kernel
theorem dX2_isInQueue_16 : decode cX2_isInQueue 16 = .ok (.iconst 1, 1) := by decide +kernel
theorem dX2_isInQueue_17 : decode cX2_isInQueue 17 = .ok (.goto 4, 3) := by decide +kernel
theorem dX2_isInQueue_20 : decode cX2_isInQueue 20 = .ok (.iconst 0, 1) := by decide +kernel
theorem dX2_isInQueue_21 : decode cX2_isInQueue 21 = .ok (.ireturn, 1) := by decide +kernel
set_option maxRecDepth 20000 in
theorem ggX2_placeOf_Jx4a65c_size_8abf5 : GoodIn wsX2_placeOf wsJx4a65c_size_8abf5 := goodIn_r _ [10, 11, 49, 50, 51] (by decide +kernel) (by decide +kernel)
set_option maxRecDepth 20000 in
theorem gX2_placeOf_Jx4a65c_size_8abf5 : GoodIn wsX2_placeOf (wsV RX2 59 RJx4a65c yJx4a65c_size_8abf5 wsJx4a65c_size_8abf5) := goodIn_app (goodIn_of _ (by decide +kernel)) ggX2_placeOf_Jx4a65c_size_8abf5
set_option maxRecDepth 20000 in
theorem ggX2_placeOf_Jx4a65c_get_915e3 : GoodIn wsX2_placeOf wsJx4a65c_get_915e3 := goodIn_r _ [15, 11, 16, 17, 18, 19, 20, 21, 22, 23, 24, 25, 26, 9, 27, 28, 49, 50, 51] (by decide +kernel) (by decide +kernel)
set_option maxRecDepth 20000 in
theorem gX2_placeOf_Jx4a65c_get_915e3 : GoodIn wsX2_placeOf (wsV RX2 197 RJx4a65c yJx4a65c_get_915e3 wsJx4a65c_get_915e3) := goodIn_app (goodIn_of _ (by decide +kernel)) ggX2_placeOf_Jx4a65c_get_915e3
set_option maxRecDepth 20000 in
theorem ggX2_placeOf_X2_isInQueue : GoodIn wsX2_placeOf wsX2_isInQueue := goodIn_r _ [32, 1, 4, 33, 34, 35, 36, 37, 38, 39, 40, 41] (by decide +kernel) (by decide +kernel)
set_option maxRecDepth 20000 in
theorem gX2_placeOf_X2_isInQueue : GoodIn wsX2_placeOf (va_wsS RX2 246 yX2_isInQueue wsX2_isInQueue) := goodIn_app (goodIn_of _ (by decide +kernel)) ggX2_placeOf_X2_isInQueue
theorem dX2_placeOf_0 : decode cX2_placeOf 0 = .ok (.aload_n 1, 1) := by decide +kernel
theorem dX2_placeOf_1 : decode cX2_placeOf 1 = .ok (.getfield 80, 3) := by decide +kernel
theorem dX2_placeOf_4 : decode cX2_placeOf 4 = .ok (.iconst 1, 1) := by decide +kernel
theorem dX2_placeOf_5 : decode cX2_placeOf 5 = .ok (.if_icmp .eq 5, 3) := by decide +kernel
theorem dX2_placeOf_8 : decode cX2_placeOf 8 = .ok (.iconst (-1), 1) := by decide +kernel
theorem dX2_placeOf_9 : decode cX2_placeOf 9 = .ok (.ireturn, 1) := by decide +kernel
theorem dX2_placeOf_10 : decode cX2_placeOf 10 = .ok (.iconst 0, 1) := by decide +kernel
theorem dX2_placeOf_11 : decode cX2_placeOf 11 = .ok (.istore_n 2, 1) := by decide +kernel
theorem dX2_placeOf_12 : decode cX2_placeOf 12 = .ok (.iconst 0, 1) := by decide +kernel
theorem dX2_placeOf_13 : decode cX2_placeOf 13 = .ok (.istore_n 3, 1) := by decide +kernel
theorem dX2_placeOf_14 : decode cX2_placeOf 14 = .ok (.iload_n 3, 1) := by decide +kernel
theorem dX2_placeOf_15 : decode cX2_placeOf 15 = .ok (.aload_n 0, 1) := by decide +kernel
theorem dX2_placeOf_16 : decode cX2_placeOf 16 = .ok (.getfield 16, 3) := by decide +kernel
theorem dX2_placeOf_19 : decode cX2_placeOf 19 = .ok (.invokevirtual 59, 3) := by decide +kernel
theorem dX2_placeOf_22 : decode cX2_placeOf 22 = .ok (.if_icmp .ge 49, 3) := by decide +kernel
theorem dX2_placeOf_25 : decode cX2_placeOf 25 = .ok (.aload_n 0, 1) := by decide +kernel
theorem dX2_placeOf_26 : decode cX2_placeOf 26 = .ok (.getfield 16, 3) := by decide +kernel
theorem dX2_placeOf_29 : decode cX2_placeOf 29 = .ok (.iload_n 3, 1) := by decide +kernel
theorem dX2_placeOf_30 : decode cX2_placeOf 30 = .ok (.invokevirtual 197, 3) := by decide +kernel
theorem dX2_placeOf_33 : decode cX2_placeOf 33 = .ok (.checkcast 68, 3) := by decide +kernel
theorem dX2_placeOf_36 : decode cX2_placeOf 36 = .ok (.astore 4, 2) := by decide +kernel
theorem dX2_placeOf_38 : decode cX2_placeOf 38 = .ok (.aload 4, 2) := by decide +kernel
theorem dX2_placeOf_40 : decode cX2_placeOf 40 = .ok (.aload_n 1, 1) := by decide +kernel
theorem dX2_placeOf_41 : decode cX2_placeOf 41 = .ok (.getfield 101, 3) := by decide +kernel
theorem dX2_placeOf_44 : decode cX2_placeOf 44 = .ok (.invokestatic 246, 3) := by decide +kernel
theorem dX2_placeOf_47 : decode cX2_placeOf 47 = .ok (.ifCond .eq 18, 3) := by decide +kernel
theorem dX2_placeOf_50 : decode cX2_placeOf 50 = .ok (.aload 4, 2) := by decide +kernel
theorem dX2_placeOf_52 : decode cX2_placeOf 52 = .ok (.getfield 243, 3) := by decide +kernel
theorem dX2_placeOf_55 : decode cX2_placeOf 55 = .ok (.aload_n 1, 1) := by decide +kernel
theorem dX2_placeOf_56 : decode cX2_placeOf 56 = .ok (.getfield 243, 3) := by decide +kernel
theorem dX2_placeOf_59 : decode cX2_placeOf 59 = .ok (.if_icmp .ge 6, 3) := by decide +kernel
theorem dX2_placeOf_62 : decode cX2_placeOf 62 = .ok (.iinc 2 1, 3) := by decide +kernel
theorem dX2_placeOf_65 : decode cX2_placeOf 65 = .ok (.iinc 3 1, 3) := by decide +kernel
theorem dX2_placeOf_68 : decode cX2_placeOf 68 = .ok (.goto (-54), 3) := by decide +kernel
theorem dX2_placeOf_71 : decode cX2_placeOf 71 = .ok (.iload_n 2, 1) := by decide +kernel
theorem dX2_placeOf_72 : decode cX2_placeOf 72 = .ok (.ireturn, 1) := by decide +kernel
theorem dX2_isIdle_0 : decode cX2_isIdle 0 = .ok (.aload_n 0, 1) := by decide +kernel
theorem dX2_isIdle_1 : decode cX2_isIdle 1 = .ok (.getfield 80, 3) := by decide +kernel
theorem dX2_isIdle_4 : decode cX2_isIdle 4 = .ok (.iconst 1, 1) := by decide +kernel
theorem dX2_isIdle_5 : decode cX2_isIdle 5 = .ok (.if_icmp .ne 14, 3) := by decide +kernel
theorem dX2_isIdle_8 : decode cX2_isIdle 8 = .ok (.aload_n 0, 1) := by decide +kernel
theorem dX2_isIdle_9 : decode cX2_isIdle 9 = .ok (.getfield 251, 3) := by decide +kernel
theorem dX2_isIdle_12 : decode cX2_isIdle 12 = .ok (.ifnonnull 7, 3) := by decide +kernel
theorem dX2_isIdle_15 : decode cX2_isIdle 15 = .ok (.iconst 1, 1) := by decide +kernel
theorem dX2_isIdle_16 : decode cX2_isIdle 16 = .ok (.goto 4, 3) := by decide +kernel
theorem dX2_isIdle_19 : decode cX2_isIdle 19 = .ok (.iconst 0, 1) := by decide +kernel
theorem dX2_isIdle_20 : decode cX2_isIdle 20 = .ok (.ireturn, 1) := by decide +kernel
theorem dX2_offeredTo_0 : decode cX2_offeredTo 0 = .ok (.aload_n 0, 1) := by decide +kernel
theorem dX2_offeredTo_1 : decode cX2_offeredTo 1 = .ok (.getfield 80, 3) := by decide +kernel
theorem dX2_offeredTo_4 : decode cX2_offeredTo 4 = .ok (.iconst 1, 1) := by decide +kernel
theorem dX2_offeredTo_5 : decode cX2_offeredTo 5 = .ok (.if_icmp .ne 10, 3) := by decide +kernel
theorem dX2_offeredTo_8 : decode cX2_offeredTo 8 = .ok (.aload_n 0, 1) := by decide +kernel
theorem dX2_offeredTo_9 : decode cX2_offeredTo 9 = .ok (.getfield 251, 3) := by decide +kernel
theorem dX2_offeredTo_12 : decode cX2_offeredTo 12 = .ok (.goto 4, 3) := by decide +kernel
theorem dX2_offeredTo_15 : decode cX2_offeredTo 15 = .ok (.aconst_null, 1) := by decide +kernel
theorem dX2_offeredTo_16 : decode cX2_offeredTo 16 = .ok (.areturn, 1) := by decide +kernel
set_option maxRecDepth 20000 in
theorem ggX2_makeOffers_Jx4a65c_size_8abf5 : GoodIn wsX2_makeOffers wsJx4a65c_size_8abf5 := goodIn_r _ [6, 7, 80, 81, 82] (by decide +kernel) (by decide +kernel)
set_option maxRecDepth 20000 in
theorem gX2_makeOffers_Jx4a65c_size_8abf5 : GoodIn wsX2_makeOffers (wsV RX2 59 RJx4a65c yJx4a65c_size_8abf5 wsJx4a65c_size_8abf5) := goodIn_app (goodIn_of _ (by decide +kernel)) ggX2_makeOffers_Jx4a65c_size_8abf5
set_option maxRecDepth 20000 in
theorem ggX2_makeOffers_X2_makeNextOffer : GoodIn wsX2_makeOffers wsX2_makeNextOffer := goodIn_r _ [12, 13, 14, 15, 16, 17, 18, 19, 20, 2, 3, 4, 5, 6, 7, 21, 22, 23, 24, 25, 26, 27, 28, 29, 30, 31, 32, 33, 34, 35, 36, 37, 38, 39, 40, 11, 41, 42, 43, 44, 45, 1, 46, 47, 48, 49, 50, 51, 52, 53, 54, 55, 56, 57, 58, 59, 60, 61, 62, 63, 64, 65, 66, 67, 68, 69, 70, 71, 72, 73, 74, 75, 76, 77, 78, 79, 83, 84, 85, 86, 87, 88, 89, 90, 91, 92, 93, 94, 95, 96, 97, 98, 99, 100, 101, 102, 103, 104, 105, 106, 80, 81, 82] (by decide +kernel) (by decide +kernel)
set_option maxRecDepth 20000 in
theorem gX2_makeOffers_X2_makeNextOffer : GoodIn wsX2_makeOffers (wsV RX2 255 RX2 yX2_makeNextOffer wsX2_makeNextOffer) := goodIn_app (goodIn_of _ (by decide +kernel)) ggX2_makeOffers_X2_makeNextOffer
theorem dX2_makeOffers_0 : decode cX2_makeOffers 0 = .ok (.iconst 1, 1) := by decide +kernel
theorem dX2_makeOffers_1 : decode cX2_makeOffers 1 = .ok (.istore_n 1, 1) := by decide +kernel
theorem dX2_makeOffers_2 : decode cX2_makeOffers 2 = .ok (.iconst 0, 1) := by decide +kernel
theorem dX2_makeOffers_3 : decode cX2_makeOffers 3 = .ok (.istore_n 2, 1) := by decide +kernel
theorem dX2_makeOffers_4 : decode cX2_makeOffers 4 = .ok (.iload_n 1, 1) := by decide +kernel
theorem dX2_makeOffers_5 : decode cX2_makeOffers 5 = .ok (.ifCond .eq 25, 3) := by decide +kernel
theorem dX2_makeOffers_8 : decode cX2_makeOffers 8 = .ok (.iload_n 2, 1) := by decide +kernel
theorem dX2_makeOffers_9 : decode cX2_makeOffers 9 = .ok (.aload_n 0, 1) := by decide +kernel
theorem dX2_makeOffers_10 : decode cX2_makeOffers 10 = .ok (.getfield 16, 3) := by decide +kernel
theorem dX2_makeOffers_13 : decode cX2_makeOffers 13 = .ok (.invokevirtual 59, 3) := by decide +kernel
theorem dX2_makeOffers_16 : decode cX2_makeOffers 16 = .ok (.if_icmp .ge 14, 3) := by decide +kernel
theorem dX2_makeOffers_19 : decode cX2_makeOffers 19 = .ok (.aload_n 0, 1) := by decide +kernel
theorem dX2_makeOffers_20 : decode cX2_makeOffers 20 = .ok (.invokevirtual 255, 3) := by decide +kernel
theorem dX2_makeOffers_23 : decode cX2_makeOffers 23 = .ok (.istore_n 1, 1) := by decide +kernel
theorem dX2_makeOffers_24 : decode cX2_makeOffers 24 = .ok (.iinc 2 1, 3) := by decide +kernel
theorem dX2_makeOffers_27 : decode cX2_makeOffers 27 = .ok (.goto (-23), 3) := by decide +kernel
theorem dX2_makeOffers_30 : decode cX2_makeOffers 30 = .ok (.return_, 1) := by decide +kernel
set_option maxRecDepth 20000 in
theorem ggX2_makeNextOffer_Jx4a65c_size_8abf5 : GoodIn wsX2_makeNextOffer wsJx4a65c_size_8abf5 := goodIn_r _ [13, 14, 100, 101, 102] (by decide +kernel) (by decide +kernel)
set_option maxRecDepth 20000 in
theorem gX2_makeNextOffer_Jx4a65c_size_8abf5 : GoodIn wsX2_makeNextOffer (wsV RX2 59 RJx4a65c yJx4a65c_size_8abf5 wsJx4a65c_size_8abf5) := goodIn_app (goodIn_of _ (by decide +kernel)) ggX2_makeNextOffer_Jx4a65c_size_8abf5
set_option maxRecDepth 20000 in
theorem ggX2_makeNextOffer_Jx4a65c_get_915e3 : GoodIn wsX2_makeNextOffer wsJx4a65c_get_915e3 := goodIn_r _ [18, 14, 19, 20, 21, 22, 23, 24, 25, 26, 27, 28, 29, 12, 30, 31, 100, 101, 102] (by decide +kernel) (by decide +kernel)
set_option maxRecDepth 20000 in
theorem gX2_makeNextOffer_Jx4a65c_get_915e3 : GoodIn wsX2_makeNextOffer (wsV RX2 197 RJx4a65c yJx4a65c_get_915e3 wsJx4a65c_get_915e3) := goodIn_app (goodIn_of _ (by decide +kernel)) ggX2_makeNextOffer_Jx4a65c_get_915e3
set_option maxRecDepth 20000 in
theorem ggX2_makeNextOffer_X2_isLookedAt : GoodIn wsX2_makeNextOffer wsX2_isLookedAt := goodIn_r _ [36, 4, 6, 3, 76, 77, 78, 79, 80, 81, 82, 83, 84, 85, 86, 87, 88, 89, 90, 69, 70, 71, 72, 73, 74, 75] (by decide +kernel) (by decide +kernel)
set_option maxRecDepth 20000 in
theorem gX2_makeNextOffer_X2_isLookedAt : GoodIn wsX2_makeNextOffer (wsV RX2 259 RX2 yX2_isLookedAt wsX2_isLookedAt) := goodIn_app (goodIn_of _ (by decide +kernel)) ggX2_makeNextOffer_X2_isLookedAt
set_option maxRecDepth 20000 in
theorem ggX2_makeNextOffer_X2_cabFor : GoodIn wsX2_makeNextOffer wsX2_cabFor := goodIn_r _ [40, 41, 42, 43, 44, 45, 9, 10, 11, 12, 13, 14, 15, 16, 17, 18, 19, 20, 21, 22, 23, 24, 25, 26, 27, 28, 29, 30, 31, 46, 47, 35, 48, 49, 50, 51, 52, 53, 54, 55, 8, 56, 57, 58, 59, 60, 61, 62, 63, 64, 65, 66, 67, 68, 69, 70, 71, 72, 73, 74, 75, 91, 92, 93, 94, 95, 96, 97, 98, 99, 76, 77, 78, 79, 80, 81, 82, 83, 84, 85, 86, 87, 88, 89, 90, 100, 101, 102] (by decide +kernel) (by decide +kernel)
set_option maxRecDepth 20000 in
theorem gX2_makeNextOffer_X2_cabFor : GoodIn wsX2_makeNextOffer (wsV RX2 263 RX2 yX2_cabFor wsX2_cabFor) := goodIn_app (goodIn_of _ (by decide +kernel)) ggX2_makeNextOffer_X2_cabFor
theorem dX2_makeNextOffer_0 : decode cX2_makeNextOffer 0 = .ok (.aconst_null, 1) := by decide +kernel
theorem dX2_makeNextOffer_1 : decode cX2_makeNextOffer 1 = .ok (.astore_n 1, 1) := by decide +kernel
theorem dX2_makeNextOffer_2 : decode cX2_makeNextOffer 2 = .ok (.aconst_null, 1) := by decide +kernel
theorem dX2_makeNextOffer_3 : decode cX2_makeNextOffer 3 = .ok (.astore_n 2, 1) := by decide +kernel
theorem dX2_makeNextOffer_4 : decode cX2_makeNextOffer 4 = .ok (.iconst 0, 1) := by decide +kernel
theorem dX2_makeNextOffer_5 : decode cX2_makeNextOffer 5 = .ok (.istore_n 3, 1) := by decide +kernel
theorem dX2_makeNextOffer_6 : decode cX2_makeNextOffer 6 = .ok (.iload_n 3, 1) := by decide +kernel
theorem dX2_makeNextOffer_7 : decode cX2_makeNextOffer 7 = .ok (.aload_n 0, 1) := by decide +kernel
theorem dX2_makeNextOffer_8 : decode cX2_makeNextOffer 8 = .ok (.getfield 20, 3) := by decide +kernel
theorem dX2_makeNextOffer_11 : decode cX2_makeNextOffer 11 = .ok (.invokevirtual 59, 3) := by decide +kernel
theorem dX2_makeNextOffer_14 : decode cX2_makeNextOffer 14 = .ok (.if_icmp .ge 66, 3) := by decide +kernel
theorem dX2_makeNextOffer_17 : decode cX2_makeNextOffer 17 = .ok (.aload_n 0, 1) := by decide +kernel
theorem dX2_makeNextOffer_18 : decode cX2_makeNextOffer 18 = .ok (.getfield 20, 3) := by decide +kernel
theorem dX2_makeNextOffer_21 : decode cX2_makeNextOffer 21 = .ok (.iload_n 3, 1) := by decide +kernel
theorem dX2_makeNextOffer_22 : decode cX2_makeNextOffer 22 = .ok (.invokevirtual 197, 3) := by decide +kernel
theorem dX2_makeNextOffer_25 : decode cX2_makeNextOffer 25 = .ok (.checkcast 127, 3) := by decide +kernel
theorem dX2_makeNextOffer_28 : decode cX2_makeNextOffer 28 = .ok (.astore 4, 2) := by decide +kernel
theorem dX2_makeNextOffer_30 : decode cX2_makeNextOffer 30 = .ok (.aload_n 0, 1) := by decide +kernel
theorem dX2_makeNextOffer_31 : decode cX2_makeNextOffer 31 = .ok (.aload 4, 2) := by decide +kernel
theorem dX2_makeNextOffer_33 : decode cX2_makeNextOffer 33 = .ok (.invokevirtual 259, 3) := by decide +kernel
theorem dX2_makeNextOffer_36 : decode cX2_makeNextOffer 36 = .ok (.ifCond .eq 38, 3) := by decide +kernel
theorem dX2_makeNextOffer_39 : decode cX2_makeNextOffer 39 = .ok (.aload_n 1, 1) := by decide +kernel
theorem dX2_makeNextOffer_40 : decode cX2_makeNextOffer 40 = .ok (.ifnull 15, 3) := by decide +kernel
theorem dX2_makeNextOffer_43 : decode cX2_makeNextOffer 43 = .ok (.aload 4, 2) := by decide +kernel
theorem dX2_makeNextOffer_45 : decode cX2_makeNextOffer 45 = .ok (.getfield 141, 3) := by decide +kernel
theorem dX2_makeNextOffer_48 : decode cX2_makeNextOffer 48 = .ok (.aload_n 1, 1) := by decide +kernel
theorem dX2_makeNextOffer_49 : decode cX2_makeNextOffer 49 = .ok (.getfield 141, 3) := by decide +kernel
theorem dX2_makeNextOffer_52 : decode cX2_makeNextOffer 52 = .ok (.if_icmp .ge 22, 3) := by decide +kernel
theorem dX2_makeNextOffer_55 : decode cX2_makeNextOffer 55 = .ok (.aload_n 0, 1) := by decide +kernel
theorem dX2_makeNextOffer_56 : decode cX2_makeNextOffer 56 = .ok (.aload 4, 2) := by decide +kernel
theorem dX2_makeNextOffer_58 : decode cX2_makeNextOffer 58 = .ok (.invokevirtual 263, 3) := by decide +kernel
theorem dX2_makeNextOffer_61 : decode cX2_makeNextOffer 61 = .ok (.astore 5, 2) := by decide +kernel
theorem dX2_makeNextOffer_63 : decode cX2_makeNextOffer 63 = .ok (.aload 5, 2) := by decide +kernel
theorem dX2_makeNextOffer_65 : decode cX2_makeNextOffer 65 = .ok (.ifnull 9, 3) := by decide +kernel
theorem dX2_makeNextOffer_68 : decode cX2_makeNextOffer 68 = .ok (.aload 4, 2) := by decide +kernel
theorem dX2_makeNextOffer_70 : decode cX2_makeNextOffer 70 = .ok (.astore_n 1, 1) := by decide +kernel
theorem dX2_makeNextOffer_71 : decode cX2_makeNextOffer 71 = .ok (.aload 5, 2) := by decide +kernel
theorem dX2_makeNextOffer_73 : decode cX2_makeNextOffer 73 = .ok (.astore_n 2, 1) := by decide +kernel
theorem dX2_makeNextOffer_74 : decode cX2_makeNextOffer 74 = .ok (.iinc 3 1, 3) := by decide +kernel
theorem dX2_makeNextOffer_77 : decode cX2_makeNextOffer 77 = .ok (.goto (-71), 3) := by decide +kernel
theorem dX2_makeNextOffer_80 : decode cX2_makeNextOffer 80 = .ok (.aload_n 1, 1) := by decide +kernel
theorem dX2_makeNextOffer_81 : decode cX2_makeNextOffer 81 = .ok (.ifnull 7, 3) := by decide +kernel
theorem dX2_makeNextOffer_84 : decode cX2_makeNextOffer 84 = .ok (.aload_n 2, 1) := by decide +kernel
theorem dX2_makeNextOffer_85 : decode cX2_makeNextOffer 85 = .ok (.ifnonnull 5, 3) := by decide +kernel
theorem dX2_makeNextOffer_88 : decode cX2_makeNextOffer 88 = .ok (.iconst 0, 1) := by decide +kernel
theorem dX2_makeNextOffer_89 : decode cX2_makeNextOffer 89 = .ok (.ireturn, 1) := by decide +kernel
theorem dX2_makeNextOffer_90 : decode cX2_makeNextOffer 90 = .ok (.aload_n 1, 1) := by decide +kernel
theorem dX2_makeNextOffer_91 : decode cX2_makeNextOffer 91 = .ok (.iconst 1, 1) := by decide +kernel
theorem dX2_makeNextOffer_92 : decode cX2_makeNextOffer 92 = .ok (.putfield 152, 3) := by decide +kernel
theorem dX2_makeNextOffer_95 : decode cX2_makeNextOffer 95 = .ok (.aload_n 1, 1) := by decide +kernel
theorem dX2_makeNextOffer_96 : decode cX2_makeNextOffer 96 = .ok (.aload_n 2, 1) := by decide +kernel
theorem dX2_makeNextOffer_97 : decode cX2_makeNextOffer 97 = .ok (.putfield 267, 3) := by decide +kernel
theorem dX2_makeNextOffer_100 : decode cX2_makeNextOffer 100 = .ok (.aload_n 1, 1) := by decide +kernel
theorem dX2_makeNextOffer_101 : decode cX2_makeNextOffer 101 = .ok (.aload_n 0, 1) := by decide +kernel
theorem dX2_makeNextOffer_102 : decode cX2_makeNextOffer 102 = .ok (.getfield 120, 3) := by decide +kernel
theorem dX2_makeNextOffer_105 : decode cX2_makeNextOffer 105 = .ok (.putfield 271, 3) := by decide +kernel
theorem dX2_makeNextOffer_108 : decode cX2_makeNextOffer 108 = .ok (.aload_n 2, 1) := by decide +kernel
theorem dX2_makeNextOffer_109 : decode cX2_makeNextOffer 109 = .ok (.aload_n 1, 1) := by decide +kernel
theorem dX2_makeNextOffer_110 : decode cX2_makeNextOffer 110 = .ok (.putfield 251, 3) := by decide +kernel
theorem dX2_makeNextOffer_113 : decode cX2_makeNextOffer 113 = .ok (.iconst 1, 1) := by decide +kernel
theorem dX2_makeNextOffer_114 : decode cX2_makeNextOffer 114 = .ok (.ireturn, 1) := by decide +kernel
theorem dX2_isLookedAt_0 : decode cX2_isLookedAt 0 = .ok (.aload_n 1, 1) := by decide +kernel
theorem dX2_isLookedAt_1 : decode cX2_isLookedAt 1 = .ok (.getfield 152, 3) := by decide +kernel
theorem dX2_isLookedAt_4 : decode cX2_isLookedAt 4 = .ok (.ifCond .ne 21, 3) := by decide +kernel
theorem dX2_isLookedAt_7 : decode cX2_isLookedAt 7 = .ok (.aload_n 0, 1) := by decide +kernel
theorem dX2_isLookedAt_8 : decode cX2_isLookedAt 8 = .ok (.getfield 120, 3) := by decide +kernel
theorem dX2_isLookedAt_11 : decode cX2_isLookedAt 11 = .ok (.aload_n 1, 1) := by decide +kernel
theorem dX2_isLookedAt_12 : decode cX2_isLookedAt 12 = .ok (.getfield 141, 3) := by decide +kernel
theorem dX2_isLookedAt_15 : decode cX2_isLookedAt 15 = .ok (.bipush 15, 2) := by decide +kernel
theorem dX2_isLookedAt_17 : decode cX2_isLookedAt 17 = .ok (.isub, 1) := by decide +kernel
theorem dX2_isLookedAt_18 : decode cX2_isLookedAt 18 = .ok (.if_icmp .lt 7, 3) := by decide +kernel
theorem dX2_isLookedAt_21 : decode cX2_isLookedAt 21 = .ok (.iconst 1, 1) := by decide +kernel
theorem dX2_isLookedAt_22 : decode cX2_isLookedAt 22 = .ok (.goto 4, 3) := by decide +kernel
theorem dX2_isLookedAt_25 : decode cX2_isLookedAt 25 = .ok (.iconst 0, 1) := by decide +kernel
theorem dX2_isLookedAt_26 : decode cX2_isLookedAt 26 = .ok (.ireturn, 1) := by decide +kernel
set_option maxRecDepth 20000 in
theorem ggX2_cabFor_Jx4a65c_size_8abf5 : GoodIn wsX2_cabFor wsJx4a65c_size_8abf5 := goodIn_r _ [10, 11, 85, 86, 87] (by decide +kernel) (by decide +kernel)
set_option maxRecDepth 20000 in
theorem gX2_cabFor_Jx4a65c_size_8abf5 : GoodIn wsX2_cabFor (wsV RX2 59 RJx4a65c yJx4a65c_size_8abf5 wsJx4a65c_size_8abf5) := goodIn_app (goodIn_of _ (by decide +kernel)) ggX2_cabFor_Jx4a65c_size_8abf5
set_option maxRecDepth 20000 in
theorem ggX2_cabFor_Jx4a65c_get_915e3 : GoodIn wsX2_cabFor wsJx4a65c_get_915e3 := goodIn_r _ [15, 11, 16, 17, 18, 19, 20, 21, 22, 23, 24, 25, 26, 9, 27, 28, 85, 86, 87] (by decide +kernel) (by decide +kernel)
set_option maxRecDepth 20000 in
theorem gX2_cabFor_Jx4a65c_get_915e3 : GoodIn wsX2_cabFor (wsV RX2 197 RJx4a65c yJx4a65c_get_915e3 wsJx4a65c_get_915e3) := goodIn_app (goodIn_of _ (by decide +kernel)) ggX2_cabFor_Jx4a65c_get_915e3
set_option maxRecDepth 20000 in
theorem ggX2_cabFor_X2_canBeOffered : GoodIn wsX2_cabFor wsX2_canBeOffered := goodIn_r _ [32, 33, 34, 35, 36, 37, 31, 38, 39, 40, 41, 42, 43, 44, 61, 62, 63, 64, 65, 66, 67, 68, 69, 70, 71, 72, 73, 74, 75, 76, 77, 78, 79, 80, 81, 82, 83, 84] (by decide +kernel) (by decide +kernel)
set_option maxRecDepth 20000 in
theorem gX2_cabFor_X2_canBeOffered : GoodIn wsX2_cabFor (va_wsS RX2 274 yX2_canBeOffered wsX2_canBeOffered) := goodIn_app (goodIn_of _ (by decide +kernel)) ggX2_cabFor_X2_canBeOffered
set_option maxRecDepth 20000 in
theorem ggX2_cabFor_X2_rankOfZone : GoodIn wsX2_cabFor wsX2_rankOfZone := goodIn_r _ [48, 49, 50, 51, 31, 52, 53, 54, 55, 56, 57, 58, 59, 60] (by decide +kernel) (by decide +kernel)
set_option maxRecDepth 20000 in
theorem gX2_cabFor_X2_rankOfZone : GoodIn wsX2_cabFor (wsV RX2 278 RX2 yX2_rankOfZone wsX2_rankOfZone) := goodIn_app (goodIn_of _ (by decide +kernel)) ggX2_cabFor_X2_rankOfZone
theorem dX2_cabFor_0 : decode cX2_cabFor 0 = .ok (.aconst_null, 1) := by decide +kernel
theorem dX2_cabFor_1 : decode cX2_cabFor 1 = .ok (.astore_n 2, 1) := by decide +kernel
theorem dX2_cabFor_2 : decode cX2_cabFor 2 = .ok (.iconst 0, 1) := by decide +kernel
theorem dX2_cabFor_3 : decode cX2_cabFor 3 = .ok (.istore_n 3, 1) := by decide +kernel
theorem dX2_cabFor_4 : decode cX2_cabFor 4 = .ok (.iconst 0, 1) := by decide +kernel
theorem dX2_cabFor_5 : decode cX2_cabFor 5 = .ok (.istore 4, 2) := by decide +kernel
theorem dX2_cabFor_7 : decode cX2_cabFor 7 = .ok (.iload 4, 2) := by decide +kernel
theorem dX2_cabFor_9 : decode cX2_cabFor 9 = .ok (.aload_n 0, 1) := by decide +kernel
theorem dX2_cabFor_10 : decode cX2_cabFor 10 = .ok (.getfield 16, 3) := by decide +kernel
theorem dX2_cabFor_13 : decode cX2_cabFor 13 = .ok (.invokevirtual 59, 3) := by decide +kernel
theorem dX2_cabFor_16 : decode cX2_cabFor 16 = .ok (.if_icmp .ge 81, 3) := by decide +kernel
theorem dX2_cabFor_19 : decode cX2_cabFor 19 = .ok (.aload_n 0, 1) := by decide +kernel
theorem dX2_cabFor_20 : decode cX2_cabFor 20 = .ok (.getfield 16, 3) := by decide +kernel
theorem dX2_cabFor_23 : decode cX2_cabFor 23 = .ok (.iload 4, 2) := by decide +kernel
theorem dX2_cabFor_25 : decode cX2_cabFor 25 = .ok (.invokevirtual 197, 3) := by decide +kernel
theorem dX2_cabFor_28 : decode cX2_cabFor 28 = .ok (.checkcast 68, 3) := by decide +kernel
theorem dX2_cabFor_31 : decode cX2_cabFor 31 = .ok (.astore 5, 2) := by decide +kernel
theorem dX2_cabFor_33 : decode cX2_cabFor 33 = .ok (.aload_n 1, 1) := by decide +kernel
theorem dX2_cabFor_34 : decode cX2_cabFor 34 = .ok (.aload 5, 2) := by decide +kernel
theorem dX2_cabFor_36 : decode cX2_cabFor 36 = .ok (.invokestatic 274, 3) := by decide +kernel
theorem dX2_cabFor_39 : decode cX2_cabFor 39 = .ok (.ifCond .eq 52, 3) := by decide +kernel
theorem dX2_cabFor_42 : decode cX2_cabFor 42 = .ok (.aload_n 0, 1) := by decide +kernel
theorem dX2_cabFor_43 : decode cX2_cabFor 43 = .ok (.aload 5, 2) := by decide +kernel
theorem dX2_cabFor_45 : decode cX2_cabFor 45 = .ok (.getfield 101, 3) := by decide +kernel
theorem dX2_cabFor_48 : decode cX2_cabFor 48 = .ok (.aload_n 1, 1) := by decide +kernel
theorem dX2_cabFor_49 : decode cX2_cabFor 49 = .ok (.getfield 138, 3) := by decide +kernel
theorem dX2_cabFor_52 : decode cX2_cabFor 52 = .ok (.invokevirtual 278, 3) := by decide +kernel
theorem dX2_cabFor_55 : decode cX2_cabFor 55 = .ok (.istore 6, 2) := by decide +kernel
theorem dX2_cabFor_57 : decode cX2_cabFor 57 = .ok (.aload_n 2, 1) := by decide +kernel
theorem dX2_cabFor_58 : decode cX2_cabFor 58 = .ok (.ifnull 27, 3) := by decide +kernel
theorem dX2_cabFor_61 : decode cX2_cabFor 61 = .ok (.iload 6, 2) := by decide +kernel
theorem dX2_cabFor_63 : decode cX2_cabFor 63 = .ok (.iload_n 3, 1) := by decide +kernel
theorem dX2_cabFor_64 : decode cX2_cabFor 64 = .ok (.if_icmp .lt 21, 3) := by decide +kernel
theorem dX2_cabFor_67 : decode cX2_cabFor 67 = .ok (.iload 6, 2) := by decide +kernel
theorem dX2_cabFor_69 : decode cX2_cabFor 69 = .ok (.iload_n 3, 1) := by decide +kernel
theorem dX2_cabFor_70 : decode cX2_cabFor 70 = .ok (.if_icmp .ne 21, 3) := by decide +kernel
theorem dX2_cabFor_73 : decode cX2_cabFor 73 = .ok (.aload 5, 2) := by decide +kernel
theorem dX2_cabFor_75 : decode cX2_cabFor 75 = .ok (.getfield 243, 3) := by decide +kernel
theorem dX2_cabFor_78 : decode cX2_cabFor 78 = .ok (.aload_n 2, 1) := by decide +kernel
theorem dX2_cabFor_79 : decode cX2_cabFor 79 = .ok (.getfield 243, 3) := by decide +kernel
theorem dX2_cabFor_82 : decode cX2_cabFor 82 = .ok (.if_icmp .ge 9, 3) := by decide +kernel
theorem dX2_cabFor_85 : decode cX2_cabFor 85 = .ok (.aload 5, 2) := by decide +kernel
theorem dX2_cabFor_87 : decode cX2_cabFor 87 = .ok (.astore_n 2, 1) := by decide +kernel
theorem dX2_cabFor_88 : decode cX2_cabFor 88 = .ok (.iload 6, 2) := by decide +kernel
theorem dX2_cabFor_90 : decode cX2_cabFor 90 = .ok (.istore_n 3, 1) := by decide +kernel
theorem dX2_cabFor_91 : decode cX2_cabFor 91 = .ok (.iinc 4 1, 3) := by decide +kernel
theorem dX2_cabFor_94 : decode cX2_cabFor 94 = .ok (.goto (-87), 3) := by decide +kernel
theorem dX2_cabFor_97 : decode cX2_cabFor 97 = .ok (.aload_n 2, 1) := by decide +kernel
theorem dX2_cabFor_98 : decode cX2_cabFor 98 = .ok (.areturn, 1) := by decide +kernel
set_option maxRecDepth 20000 in
theorem ggX2_rankOfZone_X2_wayBetween : GoodIn wsX2_rankOfZone wsX2_wayBetween := goodIn_r _ [5, 6, 7, 8, 9, 10, 11, 12, 13] (by decide +kernel) (by decide +kernel)
set_option maxRecDepth 20000 in
theorem gX2_rankOfZone_X2_wayBetween : GoodIn wsX2_rankOfZone (wsV RX2 43 RX2 yX2_wayBetween wsX2_wayBetween) := goodIn_app (goodIn_of _ (by decide +kernel)) ggX2_rankOfZone_X2_wayBetween
theorem dX2_rankOfZone_0 : decode cX2_rankOfZone 0 = .ok (.iload_n 1, 1) := by decide +kernel
theorem dX2_rankOfZone_1 : decode cX2_rankOfZone 1 = .ok (.iload_n 2, 1) := by decide +kernel
theorem dX2_rankOfZone_2 : decode cX2_rankOfZone 2 = .ok (.if_icmp .ne 7, 3) := by decide +kernel
theorem dX2_rankOfZone_5 : decode cX2_rankOfZone 5 = .ok (.iconst 0, 1) := by decide +kernel
theorem dX2_rankOfZone_6 : decode cX2_rankOfZone 6 = .ok (.goto 14, 3) := by decide +kernel
theorem dX2_rankOfZone_9 : decode cX2_rankOfZone 9 = .ok (.aload_n 0, 1) := by decide +kernel
theorem dX2_rankOfZone_10 : decode cX2_rankOfZone 10 = .ok (.iload_n 1, 1) := by decide +kernel
theorem dX2_rankOfZone_11 : decode cX2_rankOfZone 11 = .ok (.iload_n 2, 1) := by decide +kernel
theorem dX2_rankOfZone_12 : decode cX2_rankOfZone 12 = .ok (.invokevirtual 43, 3) := by decide +kernel
theorem dX2_rankOfZone_15 : decode cX2_rankOfZone 15 = .ok (.bipush 6, 2) := by decide +kernel
theorem dX2_rankOfZone_17 : decode cX2_rankOfZone 17 = .ok (.imul, 1) := by decide +kernel
theorem dX2_rankOfZone_18 : decode cX2_rankOfZone 18 = .ok (.iload_n 1, 1) := by decide +kernel
theorem dX2_rankOfZone_19 : decode cX2_rankOfZone 19 = .ok (.iadd, 1) := by decide +kernel
theorem dX2_rankOfZone_20 : decode cX2_rankOfZone 20 = .ok (.ireturn, 1) := by decide +kernel
set_option maxRecDepth 20000 in
theorem ggX2_canBeOffered_X2_isIdle : GoodIn wsX2_canBeOffered wsX2_isIdle := goodIn_r _ [7, 8, 9, 14, 15, 16, 17, 18, 19, 20, 21, 22] (by decide +kernel) (by decide +kernel)
set_option maxRecDepth 20000 in
theorem gX2_canBeOffered_X2_isIdle : GoodIn wsX2_canBeOffered (va_wsS RX2 204 yX2_isIdle wsX2_isIdle) := goodIn_app (goodIn_of _ (by decide +kernel)) ggX2_canBeOffered_X2_isIdle
set_option maxRecDepth 20000 in
theorem ggX2_canBeOffered_X2_refuserBit : GoodIn wsX2_canBeOffered wsX2_refuserBit := goodIn_r _ [12, 13, 14, 15, 16, 17, 18, 19, 20, 21, 22] (by decide +kernel) (by decide +kernel)
set_option maxRecDepth 20000 in
theorem gX2_canBeOffered_X2_refuserBit : GoodIn wsX2_canBeOffered (va_wsS RX2 287 yX2_refuserBit wsX2_refuserBit) := goodIn_app (goodIn_of _ (by decide +kernel)) ggX2_canBeOffered_X2_refuserBit
theorem dX2_canBeOffered_0 : decode cX2_canBeOffered 0 = .ok (.aload_n 1, 1) := by decide +kernel
theorem dX2_canBeOffered_1 : decode cX2_canBeOffered 1 = .ok (.invokestatic 204, 3) := by decide +kernel
theorem dX2_canBeOffered_4 : decode cX2_canBeOffered 4 = .ok (.ifCond .eq 30, 3) := by decide +kernel
theorem dX2_canBeOffered_7 : decode cX2_canBeOffered 7 = .ok (.aload_n 1, 1) := by decide +kernel
theorem dX2_canBeOffered_8 : decode cX2_canBeOffered 8 = .ok (.getfield 208, 3) := by decide +kernel
theorem dX2_canBeOffered_11 : decode cX2_canBeOffered 11 = .ok (.aload_n 0, 1) := by decide +kernel
theorem dX2_canBeOffered_12 : decode cX2_canBeOffered 12 = .ok (.getfield 281, 3) := by decide +kernel
theorem dX2_canBeOffered_15 : decode cX2_canBeOffered 15 = .ok (.if_icmp .lt 19, 3) := by decide +kernel
theorem dX2_canBeOffered_18 : decode cX2_canBeOffered 18 = .ok (.aload_n 0, 1) := by decide +kernel
theorem dX2_canBeOffered_19 : decode cX2_canBeOffered 19 = .ok (.getfield 284, 3) := by decide +kernel
theorem dX2_canBeOffered_22 : decode cX2_canBeOffered 22 = .ok (.aload_n 1, 1) := by decide +kernel
theorem dX2_canBeOffered_23 : decode cX2_canBeOffered 23 = .ok (.invokestatic 287, 3) := by decide +kernel
theorem dX2_canBeOffered_26 : decode cX2_canBeOffered 26 = .ok (.iand, 1) := by decide +kernel
theorem dX2_canBeOffered_27 : decode cX2_canBeOffered 27 = .ok (.ifCond .ne 7, 3) := by decide +kernel
theorem dX2_canBeOffered_30 : decode cX2_canBeOffered 30 = .ok (.iconst 1, 1) := by decide +kernel
theorem dX2_canBeOffered_31 : decode cX2_canBeOffered 31 = .ok (.goto 4, 3) := by decide +kernel
theorem dX2_canBeOffered_34 : decode cX2_canBeOffered 34 = .ok (.iconst 0, 1) := by decide +kernel
theorem dX2_canBeOffered_35 : decode cX2_canBeOffered 35 = .ok (.ireturn, 1) := by decide +kernel
theorem dX2_refuserBit_0 : decode cX2_refuserBit 0 = .ok (.iconst 1, 1) := by decide +kernel
theorem dX2_refuserBit_1 : decode cX2_refuserBit 1 = .ok (.aload_n 0, 1) := by decide +kernel
theorem dX2_refuserBit_2 : decode cX2_refuserBit 2 = .ok (.getfield 250, 3) := by decide +kernel
theorem dX2_refuserBit_5 : decode cX2_refuserBit 5 = .ok (.ishl, 1) := by decide +kernel
theorem dX2_refuserBit_6 : decode cX2_refuserBit 6 = .ok (.ireturn, 1) := by decide +kernel
set_option maxRecDepth 20000 in
theorem ggX2_turnDown_X2_offeredTo : GoodIn wsX2_turnDown wsX2_offeredTo := goodIn_r _ [8, 9, 4, 35, 36, 37, 38, 39, 40, 41, 42, 43] (by decide +kernel) (by decide +kernel)
set_option maxRecDepth 20000 in
theorem gX2_turnDown_X2_offeredTo : GoodIn wsX2_turnDown (va_wsS RX2 132 yX2_offeredTo wsX2_offeredTo) := goodIn_app (goodIn_of _ (by decide +kernel)) ggX2_turnDown_X2_offeredTo
set_option maxRecDepth 20000 in
theorem ggX2_turnDown_X2_refuserBit : GoodIn wsX2_turnDown wsX2_refuserBit := goodIn_r _ [12, 13, 35, 36, 37, 38, 39, 40, 41, 42, 43] (by decide +kernel) (by decide +kernel)
set_option maxRecDepth 20000 in
theorem gX2_turnDown_X2_refuserBit : GoodIn wsX2_turnDown (va_wsS RX2 287 yX2_refuserBit wsX2_refuserBit) := goodIn_app (goodIn_of _ (by decide +kernel)) ggX2_turnDown_X2_refuserBit
set_option maxRecDepth 20000 in
theorem ggX2_turnDown_X2_joinQueue : GoodIn wsX2_turnDown wsX2_joinQueue := goodIn_r _ [17, 9, 18, 19, 35, 36, 37, 38, 39, 40, 41, 42, 43, 44, 45, 46, 47, 48, 49, 50] (by decide +kernel) (by decide +kernel)
set_option maxRecDepth 20000 in
theorem gX2_turnDown_X2_joinQueue : GoodIn wsX2_turnDown (wsV RX2 85 RX2 yX2_joinQueue wsX2_joinQueue) := goodIn_app (goodIn_of _ (by decide +kernel)) ggX2_turnDown_X2_joinQueue
theorem dX2_turnDown_0 : decode cX2_turnDown 0 = .ok (.aload_n 1, 1) := by decide +kernel
theorem dX2_turnDown_1 : decode cX2_turnDown 1 = .ok (.invokestatic 132, 3) := by decide +kernel
theorem dX2_turnDown_4 : decode cX2_turnDown 4 = .ok (.astore_n 2, 1) := by decide +kernel
theorem dX2_turnDown_5 : decode cX2_turnDown 5 = .ok (.aload_n 2, 1) := by decide +kernel
theorem dX2_turnDown_6 : decode cX2_turnDown 6 = .ok (.ifnonnull 4, 3) := by decide +kernel
theorem dX2_turnDown_9 : decode cX2_turnDown 9 = .ok (.return_, 1) := by decide +kernel
theorem dX2_turnDown_10 : decode cX2_turnDown 10 = .ok (.aload_n 2, 1) := by decide +kernel
theorem dX2_turnDown_11 : decode cX2_turnDown 11 = .ok (.dup, 1) := by decide +kernel
theorem dX2_turnDown_12 : decode cX2_turnDown 12 = .ok (.getfield 284, 3) := by decide +kernel
theorem dX2_turnDown_15 : decode cX2_turnDown 15 = .ok (.aload_n 1, 1) := by decide +kernel
theorem dX2_turnDown_16 : decode cX2_turnDown 16 = .ok (.invokestatic 287, 3) := by decide +kernel
theorem dX2_turnDown_19 : decode cX2_turnDown 19 = .ok (.ior, 1) := by decide +kernel
theorem dX2_turnDown_20 : decode cX2_turnDown 20 = .ok (.putfield 284, 3) := by decide +kernel
theorem dX2_turnDown_23 : decode cX2_turnDown 23 = .ok (.aload_n 2, 1) := by decide +kernel
theorem dX2_turnDown_24 : decode cX2_turnDown 24 = .ok (.iconst 0, 1) := by decide +kernel
theorem dX2_turnDown_25 : decode cX2_turnDown 25 = .ok (.putfield 152, 3) := by decide +kernel
theorem dX2_turnDown_28 : decode cX2_turnDown 28 = .ok (.aload_n 2, 1) := by decide +kernel
theorem dX2_turnDown_29 : decode cX2_turnDown 29 = .ok (.aconst_null, 1) := by decide +kernel
theorem dX2_turnDown_30 : decode cX2_turnDown 30 = .ok (.putfield 267, 3) := by decide +kernel
theorem dX2_turnDown_33 : decode cX2_turnDown 33 = .ok (.aload_n 1, 1) := by decide +kernel
theorem dX2_turnDown_34 : decode cX2_turnDown 34 = .ok (.aconst_null, 1) := by decide +kernel
theorem dX2_turnDown_35 : decode cX2_turnDown 35 = .ok (.putfield 251, 3) := by decide +kernel
theorem dX2_turnDown_38 : decode cX2_turnDown 38 = .ok (.aload_n 0, 1) := by decide +kernel
theorem dX2_turnDown_39 : decode cX2_turnDown 39 = .ok (.aload_n 1, 1) := by decide +kernel
theorem dX2_turnDown_40 : decode cX2_turnDown 40 = .ok (.invokevirtual 85, 3) := by decide +kernel
theorem dX2_turnDown_43 : decode cX2_turnDown 43 = .ok (.return_, 1) := by decide +kernel
set_option maxRecDepth 20000 in
theorem ggX2_releaseCab_X2_joinQueue : GoodIn wsX2_releaseCab wsX2_joinQueue := goodIn_r _ [8, 3, 9, 10, 26, 27, 28, 29, 30, 31, 32, 33, 34, 35, 36, 37, 38, 39, 40, 41] (by decide +kernel) (by decide +kernel)
set_option maxRecDepth 20000 in
theorem gX2_releaseCab_X2_joinQueue : GoodIn wsX2_releaseCab (wsV RX2 85 RX2 yX2_joinQueue wsX2_joinQueue) := goodIn_app (goodIn_of _ (by decide +kernel)) ggX2_releaseCab_X2_joinQueue
theorem dX2_releaseCab_0 : decode cX2_releaseCab 0 = .ok (.aload_n 1, 1) := by decide +kernel
theorem dX2_releaseCab_1 : decode cX2_releaseCab 1 = .ok (.getfield 267, 3) := by decide +kernel
theorem dX2_releaseCab_4 : decode cX2_releaseCab 4 = .ok (.astore_n 2, 1) := by decide +kernel
theorem dX2_releaseCab_5 : decode cX2_releaseCab 5 = .ok (.aload_n 2, 1) := by decide +kernel
theorem dX2_releaseCab_6 : decode cX2_releaseCab 6 = .ok (.ifnonnull 4, 3) := by decide +kernel
theorem dX2_releaseCab_9 : decode cX2_releaseCab 9 = .ok (.return_, 1) := by decide +kernel
theorem dX2_releaseCab_10 : decode cX2_releaseCab 10 = .ok (.aload_n 1, 1) := by decide +kernel
theorem dX2_releaseCab_11 : decode cX2_releaseCab 11 = .ok (.aconst_null, 1) := by decide +kernel
theorem dX2_releaseCab_12 : decode cX2_releaseCab 12 = .ok (.putfield 267, 3) := by decide +kernel
theorem dX2_releaseCab_15 : decode cX2_releaseCab 15 = .ok (.aload_n 2, 1) := by decide +kernel
theorem dX2_releaseCab_16 : decode cX2_releaseCab 16 = .ok (.aconst_null, 1) := by decide +kernel
theorem dX2_releaseCab_17 : decode cX2_releaseCab 17 = .ok (.putfield 251, 3) := by decide +kernel
theorem dX2_releaseCab_20 : decode cX2_releaseCab 20 = .ok (.aload_n 2, 1) := by decide +kernel
theorem dX2_releaseCab_21 : decode cX2_releaseCab 21 = .ok (.getfield 80, 3) := by decide +kernel
theorem dX2_releaseCab_24 : decode cX2_releaseCab 24 = .ok (.iconst 2, 1) := by decide +kernel
theorem dX2_releaseCab_25 : decode cX2_releaseCab 25 = .ok (.if_icmp .ne 8, 3) := by decide +kernel
theorem dX2_releaseCab_28 : decode cX2_releaseCab 28 = .ok (.aload_n 0, 1) := by decide +kernel
theorem dX2_releaseCab_29 : decode cX2_releaseCab 29 = .ok (.aload_n 2, 1) := by decide +kernel
theorem dX2_releaseCab_30 : decode cX2_releaseCab 30 = .ok (.invokevirtual 85, 3) := by decide +kernel
theorem dX2_releaseCab_33 : decode cX2_releaseCab 33 = .ok (.return_, 1) := by decide +kernel
set_option maxRecDepth 20000 in
theorem ggX2_passMinute_X2_refuseOldOffers : GoodIn wsX2_passMinute wsX2_refuseOldOffers := goodIn_r _ [6, 7, 8, 1, 9, 10, 11, 12, 13, 14, 15, 16, 17, 18, 19, 20, 21, 22, 23, 24, 25, 26, 27, 28, 29, 30, 31, 32, 33, 34, 5, 35, 36, 37, 38, 39, 40, 41, 42, 43, 44, 45, 46, 47, 48, 49, 50, 51, 52, 53, 54, 128, 129, 130, 131, 132, 133, 134, 135, 136, 137, 138, 139, 140, 141, 142, 143, 144, 145, 146, 147, 148, 149, 150, 151, 152, 153, 154, 155, 156, 157, 158, 159, 160, 161] (by decide +kernel) (by decide +kernel)
set_option maxRecDepth 20000 in
theorem gX2_passMinute_X2_refuseOldOffers : GoodIn wsX2_passMinute (wsV RX2 290 RX2 yX2_refuseOldOffers wsX2_refuseOldOffers) := goodIn_app (goodIn_of _ (by decide +kernel)) ggX2_passMinute_X2_refuseOldOffers
set_option maxRecDepth 20000 in
theorem ggX2_passMinute_X2_bringCabsOn : GoodIn wsX2_passMinute wsX2_bringCabsOn := goodIn_r _ [58, 7, 8, 37, 1, 59, 36, 10, 11, 12, 13, 14, 15, 16, 17, 18, 19, 20, 21, 22, 23, 24, 25, 26, 27, 28, 29, 30, 31, 32, 60, 61, 62, 5, 63, 64, 65, 66, 43, 67, 68, 69, 70, 71, 72, 73, 74, 75, 76, 77, 78, 79, 80, 81, 82, 83, 84, 85, 86, 87, 88, 89, 90, 91, 92, 93, 94, 95, 96, 97, 49, 50, 51, 52, 53, 54, 128, 129, 130, 131, 132, 133, 134, 153, 154, 155, 156, 157, 158, 159, 160, 161, 150, 151, 152, 135, 136, 137, 138, 139, 140, 141, 142, 143, 144, 145, 146, 147, 148, 149] (by decide +kernel) (by decide +kernel)
set_option maxRecDepth 20000 in
theorem gX2_passMinute_X2_bringCabsOn : GoodIn wsX2_passMinute (wsV RX2 293 RX2 yX2_bringCabsOn wsX2_bringCabsOn) := goodIn_app (goodIn_of _ (by decide +kernel)) ggX2_passMinute_X2_bringCabsOn
set_option maxRecDepth 20000 in
theorem ggX2_passMinute_X2_makeOffers : GoodIn wsX2_passMinute wsX2_makeOffers := goodIn_r _ [101, 7, 10, 11, 12, 13, 14, 15, 102, 103, 104, 5, 105, 106, 107, 81, 43, 44, 1, 9, 37, 16, 17, 18, 19, 20, 21, 22, 23, 24, 25, 26, 27, 28, 29, 30, 31, 32, 108, 109, 110, 111, 112, 113, 114, 115, 8, 66, 64, 54, 116, 117, 118, 119, 120, 42, 121, 122, 123, 36, 45, 46, 47, 48, 124, 125, 126, 127, 68, 69, 70, 71, 72, 128, 129, 130, 131, 132, 133, 134, 150, 151, 152, 135, 136, 137, 138, 139, 140, 141, 142, 143, 144, 145, 146, 147, 148, 149, 153, 154, 155, 156, 157, 158, 159, 160, 161] (by decide +kernel) (by decide +kernel)
set_option maxRecDepth 20000 in
theorem gX2_passMinute_X2_makeOffers : GoodIn wsX2_passMinute (wsV RX2 89 RX2 yX2_makeOffers wsX2_makeOffers) := goodIn_app (goodIn_of _ (by decide +kernel)) ggX2_passMinute_X2_makeOffers
theorem dX2_passMinute_0 : decode cX2_passMinute 0 = .ok (.aload_n 0, 1) := by decide +kernel
theorem dX2_passMinute_1 : decode cX2_passMinute 1 = .ok (.dup, 1) := by decide +kernel
theorem dX2_passMinute_2 : decode cX2_passMinute 2 = .ok (.getfield 120, 3) := by decide +kernel
theorem dX2_passMinute_5 : decode cX2_passMinute 5 = .ok (.iconst 1, 1) := by decide +kernel
theorem dX2_passMinute_6 : decode cX2_passMinute 6 = .ok (.iadd, 1) := by decide +kernel
theorem dX2_passMinute_7 : decode cX2_passMinute 7 = .ok (.putfield 120, 3) := by decide +kernel
theorem dX2_passMinute_10 : decode cX2_passMinute 10 = .ok (.aload_n 0, 1) := by decide +kernel
theorem dX2_passMinute_11 : decode cX2_passMinute 11 = .ok (.invokevirtual 290, 3) := by decide +kernel
theorem dX2_passMinute_14 : decode cX2_passMinute 14 = .ok (.aload_n 0, 1) := by decide +kernel
theorem dX2_passMinute_15 : decode cX2_passMinute 15 = .ok (.invokevirtual 293, 3) := by decide +kernel
theorem dX2_passMinute_18 : decode cX2_passMinute 18 = .ok (.istore_n 1, 1) := by decide +kernel
theorem dX2_passMinute_19 : decode cX2_passMinute 19 = .ok (.aload_n 0, 1) := by decide +kernel
theorem dX2_passMinute_20 : decode cX2_passMinute 20 = .ok (.invokevirtual 89, 3) := by decide +kernel
theorem dX2_passMinute_23 : decode cX2_passMinute 23 = .ok (.iload_n 1, 1) := by decide +kernel
theorem dX2_passMinute_24 : decode cX2_passMinute 24 = .ok (.ireturn, 1) := by decide +kernel
set_option maxRecDepth 20000 in
theorem ggX2_refuseOldOffers_Jx4a65c_size_8abf5 : GoodIn wsX2_refuseOldOffers wsJx4a65c_size_8abf5 := goodIn_r _ [9, 10, 73, 74, 75] (by decide +kernel) (by decide +kernel)
set_option maxRecDepth 20000 in
theorem gX2_refuseOldOffers_Jx4a65c_size_8abf5 : GoodIn wsX2_refuseOldOffers (wsV RX2 59 RJx4a65c yJx4a65c_size_8abf5 wsJx4a65c_size_8abf5) := goodIn_app (goodIn_of _ (by decide +kernel)) ggX2_refuseOldOffers_Jx4a65c_size_8abf5
set_option maxRecDepth 20000 in
theorem ggX2_refuseOldOffers_Jx4a65c_get_915e3 : GoodIn wsX2_refuseOldOffers wsJx4a65c_get_915e3 := goodIn_r _ [14, 10, 15, 16, 17, 18, 19, 20, 21, 22, 23, 24, 25, 8, 26, 27, 73, 74, 75] (by decide +kernel) (by decide +kernel)
set_option maxRecDepth 20000 in
theorem gX2_refuseOldOffers_Jx4a65c_get_915e3 : GoodIn wsX2_refuseOldOffers (wsV RX2 197 RJx4a65c yJx4a65c_get_915e3 wsJx4a65c_get_915e3) := goodIn_app (goodIn_of _ (by decide +kernel)) ggX2_refuseOldOffers_Jx4a65c_get_915e3
set_option maxRecDepth 20000 in
theorem ggX2_refuseOldOffers_X2_offeredTo : GoodIn wsX2_refuseOldOffers wsX2_offeredTo := goodIn_r _ [31, 32, 33, 76, 77, 78, 79, 80, 81, 82, 83, 84] (by decide +kernel) (by decide +kernel)
set_option maxRecDepth 20000 in
theorem gX2_refuseOldOffers_X2_offeredTo : GoodIn wsX2_refuseOldOffers (va_wsS RX2 132 yX2_offeredTo wsX2_offeredTo) := goodIn_app (goodIn_of _ (by decide +kernel)) ggX2_refuseOldOffers_X2_offeredTo
set_option maxRecDepth 20000 in
theorem ggX2_refuseOldOffers_X2_turnDown : GoodIn wsX2_refuseOldOffers wsX2_turnDown := goodIn_r _ [37, 38, 39, 40, 33, 28, 29, 30, 31, 32, 41, 42, 43, 44, 45, 46, 47, 48, 49, 50, 58, 59, 60, 61, 62, 63, 64, 65, 66, 67, 68, 69, 70, 71, 72, 76, 77, 78, 79, 80, 81, 82, 83, 84, 51, 52, 53, 54, 55, 56, 57] (by decide +kernel) (by decide +kernel)
set_option maxRecDepth 20000 in
theorem gX2_refuseOldOffers_X2_turnDown : GoodIn wsX2_refuseOldOffers (wsV RX2 98 RX2 yX2_turnDown wsX2_turnDown) := goodIn_app (goodIn_of _ (by decide +kernel)) ggX2_refuseOldOffers_X2_turnDown
theorem dX2_refuseOldOffers_0 : decode cX2_refuseOldOffers 0 = .ok (.iconst 0, 1) := by decide +kernel
theorem dX2_refuseOldOffers_1 : decode cX2_refuseOldOffers 1 = .ok (.istore_n 1, 1) := by decide +kernel
theorem dX2_refuseOldOffers_2 : decode cX2_refuseOldOffers 2 = .ok (.iload_n 1, 1) := by decide +kernel
theorem dX2_refuseOldOffers_3 : decode cX2_refuseOldOffers 3 = .ok (.aload_n 0, 1) := by decide +kernel
theorem dX2_refuseOldOffers_4 : decode cX2_refuseOldOffers 4 = .ok (.getfield 16, 3) := by decide +kernel
theorem dX2_refuseOldOffers_7 : decode cX2_refuseOldOffers 7 = .ok (.invokevirtual 59, 3) := by decide +kernel
theorem dX2_refuseOldOffers_10 : decode cX2_refuseOldOffers 10 = .ok (.if_icmp .ge 48, 3) := by decide +kernel
theorem dX2_refuseOldOffers_13 : decode cX2_refuseOldOffers 13 = .ok (.aload_n 0, 1) := by decide +kernel
theorem dX2_refuseOldOffers_14 : decode cX2_refuseOldOffers 14 = .ok (.getfield 16, 3) := by decide +kernel
theorem dX2_refuseOldOffers_17 : decode cX2_refuseOldOffers 17 = .ok (.iload_n 1, 1) := by decide +kernel
theorem dX2_refuseOldOffers_18 : decode cX2_refuseOldOffers 18 = .ok (.invokevirtual 197, 3) := by decide +kernel
theorem dX2_refuseOldOffers_21 : decode cX2_refuseOldOffers 21 = .ok (.checkcast 68, 3) := by decide +kernel
theorem dX2_refuseOldOffers_24 : decode cX2_refuseOldOffers 24 = .ok (.astore_n 2, 1) := by decide +kernel
theorem dX2_refuseOldOffers_25 : decode cX2_refuseOldOffers 25 = .ok (.aload_n 2, 1) := by decide +kernel
theorem dX2_refuseOldOffers_26 : decode cX2_refuseOldOffers 26 = .ok (.invokestatic 132, 3) := by decide +kernel
theorem dX2_refuseOldOffers_29 : decode cX2_refuseOldOffers 29 = .ok (.astore_n 3, 1) := by decide +kernel
theorem dX2_refuseOldOffers_30 : decode cX2_refuseOldOffers 30 = .ok (.aload_n 3, 1) := by decide +kernel
theorem dX2_refuseOldOffers_31 : decode cX2_refuseOldOffers 31 = .ok (.ifnull 21, 3) := by decide +kernel
theorem dX2_refuseOldOffers_34 : decode cX2_refuseOldOffers 34 = .ok (.aload_n 0, 1) := by decide +kernel
theorem dX2_refuseOldOffers_35 : decode cX2_refuseOldOffers 35 = .ok (.getfield 120, 3) := by decide +kernel
theorem dX2_refuseOldOffers_38 : decode cX2_refuseOldOffers 38 = .ok (.aload_n 3, 1) := by decide +kernel
theorem dX2_refuseOldOffers_39 : decode cX2_refuseOldOffers 39 = .ok (.getfield 271, 3) := by decide +kernel
theorem dX2_refuseOldOffers_42 : decode cX2_refuseOldOffers 42 = .ok (.isub, 1) := by decide +kernel
theorem dX2_refuseOldOffers_43 : decode cX2_refuseOldOffers 43 = .ok (.iconst 2, 1) := by decide +kernel
theorem dX2_refuseOldOffers_44 : decode cX2_refuseOldOffers 44 = .ok (.if_icmp .lt 8, 3) := by decide +kernel
theorem dX2_refuseOldOffers_47 : decode cX2_refuseOldOffers 47 = .ok (.aload_n 0, 1) := by decide +kernel
theorem dX2_refuseOldOffers_48 : decode cX2_refuseOldOffers 48 = .ok (.aload_n 2, 1) := by decide +kernel
theorem dX2_refuseOldOffers_49 : decode cX2_refuseOldOffers 49 = .ok (.invokevirtual 98, 3) := by decide +kernel
theorem dX2_refuseOldOffers_52 : decode cX2_refuseOldOffers 52 = .ok (.iinc 1 1, 3) := by decide +kernel
theorem dX2_refuseOldOffers_55 : decode cX2_refuseOldOffers 55 = .ok (.goto (-53), 3) := by decide +kernel
theorem dX2_refuseOldOffers_58 : decode cX2_refuseOldOffers 58 = .ok (.return_, 1) := by decide +kernel
set_option maxRecDepth 20000 in
theorem ggX2_bringCabsOn_Jx4a65c_size_8abf5 : GoodIn wsX2_bringCabsOn wsJx4a65c_size_8abf5 := goodIn_r _ [11, 12, 92, 93, 94] (by decide +kernel) (by decide +kernel)
set_option maxRecDepth 20000 in
theorem gX2_bringCabsOn_Jx4a65c_size_8abf5 : GoodIn wsX2_bringCabsOn (wsV RX2 59 RJx4a65c yJx4a65c_size_8abf5 wsJx4a65c_size_8abf5) := goodIn_app (goodIn_of _ (by decide +kernel)) ggX2_bringCabsOn_Jx4a65c_size_8abf5
set_option maxRecDepth 20000 in
theorem ggX2_bringCabsOn_Jx4a65c_get_915e3 : GoodIn wsX2_bringCabsOn wsJx4a65c_get_915e3 := goodIn_r _ [16, 12, 17, 18, 19, 20, 21, 22, 23, 24, 25, 26, 27, 10, 28, 29, 92, 93, 94] (by decide +kernel) (by decide +kernel)
set_option maxRecDepth 20000 in
theorem gX2_bringCabsOn_Jx4a65c_get_915e3 : GoodIn wsX2_bringCabsOn (wsV RX2 197 RJx4a65c yJx4a65c_get_915e3 wsJx4a65c_get_915e3) := goodIn_app (goodIn_of _ (by decide +kernel)) ggX2_bringCabsOn_Jx4a65c_get_915e3
set_option maxRecDepth 20000 in
theorem ggX2_bringCabsOn_X2_beginRide : GoodIn wsX2_bringCabsOn wsX2_beginRide := goodIn_r _ [34, 35, 36, 6, 37, 4, 5, 38, 39, 40, 41, 42, 33, 43, 44, 45, 46, 47, 48, 49, 50, 51, 52, 53, 54, 55, 56, 57, 58, 59, 95, 96, 97, 98, 99, 100, 101, 102, 103, 104, 105, 106, 107, 108, 109, 83, 84, 85, 86, 87, 88, 89, 90, 91, 76, 77, 78, 79, 80, 81, 82] (by decide +kernel) (by decide +kernel)
set_option maxRecDepth 20000 in
theorem gX2_bringCabsOn_X2_beginRide : GoodIn wsX2_bringCabsOn (wsV RX2 296 RX2 yX2_beginRide wsX2_beginRide) := goodIn_app (goodIn_of _ (by decide +kernel)) ggX2_bringCabsOn_X2_beginRide
set_option maxRecDepth 20000 in
theorem ggX2_bringCabsOn_X2_endRide : GoodIn wsX2_bringCabsOn wsX2_endRide := goodIn_r _ [63, 64, 65, 36, 37, 3, 38, 4, 66, 67, 68, 33, 69, 50, 52, 58, 59, 70, 71, 72, 73, 6, 74, 75, 83, 84, 85, 86, 87, 88, 89, 90, 91, 95, 96, 97, 98, 99, 100, 101, 102, 103, 104, 105, 106, 107, 108, 109, 76, 77, 78, 79, 80, 81, 82] (by decide +kernel) (by decide +kernel)
set_option maxRecDepth 20000 in
theorem gX2_bringCabsOn_X2_endRide : GoodIn wsX2_bringCabsOn (wsV RX2 300 RX2 yX2_endRide wsX2_endRide) := goodIn_app (goodIn_of _ (by decide +kernel)) ggX2_bringCabsOn_X2_endRide
theorem dX2_bringCabsOn_0 : decode cX2_bringCabsOn 0 = .ok (.iconst 0, 1) := by decide +kernel
theorem dX2_bringCabsOn_1 : decode cX2_bringCabsOn 1 = .ok (.istore_n 1, 1) := by decide +kernel
theorem dX2_bringCabsOn_2 : decode cX2_bringCabsOn 2 = .ok (.iconst 0, 1) := by decide +kernel
theorem dX2_bringCabsOn_3 : decode cX2_bringCabsOn 3 = .ok (.istore_n 2, 1) := by decide +kernel
theorem dX2_bringCabsOn_4 : decode cX2_bringCabsOn 4 = .ok (.iload_n 2, 1) := by decide +kernel
theorem dX2_bringCabsOn_5 : decode cX2_bringCabsOn 5 = .ok (.aload_n 0, 1) := by decide +kernel
theorem dX2_bringCabsOn_6 : decode cX2_bringCabsOn 6 = .ok (.getfield 16, 3) := by decide +kernel
theorem dX2_bringCabsOn_9 : decode cX2_bringCabsOn 9 = .ok (.invokevirtual 59, 3) := by decide +kernel
theorem dX2_bringCabsOn_12 : decode cX2_bringCabsOn 12 = .ok (.if_icmp .ge 82, 3) := by decide +kernel
theorem dX2_bringCabsOn_15 : decode cX2_bringCabsOn 15 = .ok (.aload_n 0, 1) := by decide +kernel
theorem dX2_bringCabsOn_16 : decode cX2_bringCabsOn 16 = .ok (.getfield 16, 3) := by decide +kernel
theorem dX2_bringCabsOn_19 : decode cX2_bringCabsOn 19 = .ok (.iload_n 2, 1) := by decide +kernel
theorem dX2_bringCabsOn_20 : decode cX2_bringCabsOn 20 = .ok (.invokevirtual 197, 3) := by decide +kernel
theorem dX2_bringCabsOn_23 : decode cX2_bringCabsOn 23 = .ok (.checkcast 68, 3) := by decide +kernel
theorem dX2_bringCabsOn_26 : decode cX2_bringCabsOn 26 = .ok (.astore_n 3, 1) := by decide +kernel
theorem dX2_bringCabsOn_27 : decode cX2_bringCabsOn 27 = .ok (.aload_n 3, 1) := by decide +kernel
theorem dX2_bringCabsOn_28 : decode cX2_bringCabsOn 28 = .ok (.getfield 251, 3) := by decide +kernel
theorem dX2_bringCabsOn_31 : decode cX2_bringCabsOn 31 = .ok (.astore 4, 2) := by decide +kernel
theorem dX2_bringCabsOn_33 : decode cX2_bringCabsOn 33 = .ok (.aload 4, 2) := by decide +kernel
theorem dX2_bringCabsOn_35 : decode cX2_bringCabsOn 35 = .ok (.ifnull 53, 3) := by decide +kernel
theorem dX2_bringCabsOn_38 : decode cX2_bringCabsOn 38 = .ok (.aload_n 0, 1) := by decide +kernel
theorem dX2_bringCabsOn_39 : decode cX2_bringCabsOn 39 = .ok (.getfield 120, 3) := by decide +kernel
theorem dX2_bringCabsOn_42 : decode cX2_bringCabsOn 42 = .ok (.aload_n 3, 1) := by decide +kernel
theorem dX2_bringCabsOn_43 : decode cX2_bringCabsOn 43 = .ok (.getfield 149, 3) := by decide +kernel
theorem dX2_bringCabsOn_46 : decode cX2_bringCabsOn 46 = .ok (.if_icmp .ge 6, 3) := by decide +kernel
theorem dX2_bringCabsOn_49 : decode cX2_bringCabsOn 49 = .ok (.goto 39, 3) := by decide +kernel
theorem dX2_bringCabsOn_52 : decode cX2_bringCabsOn 52 = .ok (.aload_n 3, 1) := by decide +kernel
theorem dX2_bringCabsOn_53 : decode cX2_bringCabsOn 53 = .ok (.getfield 80, 3) := by decide +kernel
theorem dX2_bringCabsOn_56 : decode cX2_bringCabsOn 56 = .ok (.iconst 2, 1) := by decide +kernel
theorem dX2_bringCabsOn_57 : decode cX2_bringCabsOn 57 = .ok (.if_icmp .ne 13, 3) := by decide +kernel
theorem dX2_bringCabsOn_60 : decode cX2_bringCabsOn 60 = .ok (.aload_n 0, 1) := by decide +kernel
theorem dX2_bringCabsOn_61 : decode cX2_bringCabsOn 61 = .ok (.aload_n 3, 1) := by decide +kernel
theorem dX2_bringCabsOn_62 : decode cX2_bringCabsOn 62 = .ok (.aload 4, 2) := by decide +kernel
theorem dX2_bringCabsOn_64 : decode cX2_bringCabsOn 64 = .ok (.invokevirtual 296, 3) := by decide +kernel
theorem dX2_bringCabsOn_67 : decode cX2_bringCabsOn 67 = .ok (.goto 21, 3) := by decide +kernel
theorem dX2_bringCabsOn_70 : decode cX2_bringCabsOn 70 = .ok (.aload_n 3, 1) := by decide +kernel
theorem dX2_bringCabsOn_71 : decode cX2_bringCabsOn 71 = .ok (.getfield 80, 3) := by decide +kernel
theorem dX2_bringCabsOn_74 : decode cX2_bringCabsOn 74 = .ok (.iconst 3, 1) := by decide +kernel
theorem dX2_bringCabsOn_75 : decode cX2_bringCabsOn 75 = .ok (.if_icmp .ne 13, 3) := by decide +kernel
theorem dX2_bringCabsOn_78 : decode cX2_bringCabsOn 78 = .ok (.aload_n 0, 1) := by decide +kernel
theorem dX2_bringCabsOn_79 : decode cX2_bringCabsOn 79 = .ok (.aload_n 3, 1) := by decide +kernel
theorem dX2_bringCabsOn_80 : decode cX2_bringCabsOn 80 = .ok (.aload 4, 2) := by decide +kernel
theorem dX2_bringCabsOn_82 : decode cX2_bringCabsOn 82 = .ok (.invokevirtual 300, 3) := by decide +kernel
theorem dX2_bringCabsOn_85 : decode cX2_bringCabsOn 85 = .ok (.iinc 1 1, 3) := by decide +kernel
theorem dX2_bringCabsOn_88 : decode cX2_bringCabsOn 88 = .ok (.iinc 2 1, 3) := by decide +kernel
theorem dX2_bringCabsOn_91 : decode cX2_bringCabsOn 91 = .ok (.goto (-87), 3) := by decide +kernel
theorem dX2_bringCabsOn_94 : decode cX2_bringCabsOn 94 = .ok (.iload_n 1, 1) := by decide +kernel
theorem dX2_bringCabsOn_95 : decode cX2_bringCabsOn 95 = .ok (.ireturn, 1) := by decide +kernel
set_option maxRecDepth 20000 in
theorem ggX2_beginRide_X2_wayBetween : GoodIn wsX2_beginRide wsX2_wayBetween := goodIn_r _ [13, 14, 54, 55, 56, 57, 58, 59, 60] (by decide +kernel) (by decide +kernel)
set_option maxRecDepth 20000 in
theorem gX2_beginRide_X2_wayBetween : GoodIn wsX2_beginRide (wsV RX2 43 RX2 yX2_wayBetween wsX2_wayBetween) := goodIn_app (goodIn_of _ (by decide +kernel)) ggX2_beginRide_X2_wayBetween
set_option maxRecDepth 20000 in
theorem ggX2_beginRide_X2_meterFare : GoodIn wsX2_beginRide wsX2_meterFare := goodIn_r _ [18, 19, 20, 21, 22, 5, 23, 24, 25, 26, 27, 28, 29, 54, 55, 56, 57, 58, 59, 60, 30, 31, 32, 33, 34, 35, 36, 37, 38, 39, 40, 41, 42, 43, 44] (by decide +kernel) (by decide +kernel)
set_option maxRecDepth 20000 in
theorem gX2_beginRide_X2_meterFare : GoodIn wsX2_beginRide (wsV RX2 306 RX2 yX2_meterFare wsX2_meterFare) := goodIn_app (goodIn_of _ (by decide +kernel)) ggX2_beginRide_X2_meterFare
theorem dX2_beginRide_0 : decode cX2_beginRide 0 = .ok (.aload_n 0, 1) := by decide +kernel
theorem dX2_beginRide_1 : decode cX2_beginRide 1 = .ok (.aload_n 2, 1) := by decide +kernel
theorem dX2_beginRide_2 : decode cX2_beginRide 2 = .ok (.getfield 138, 3) := by decide +kernel
theorem dX2_beginRide_5 : decode cX2_beginRide 5 = .ok (.aload_n 2, 1) := by decide +kernel
theorem dX2_beginRide_6 : decode cX2_beginRide 6 = .ok (.getfield 303, 3) := by decide +kernel
theorem dX2_beginRide_9 : decode cX2_beginRide 9 = .ok (.invokevirtual 43, 3) := by decide +kernel
theorem dX2_beginRide_12 : decode cX2_beginRide 12 = .ok (.istore_n 3, 1) := by decide +kernel
theorem dX2_beginRide_13 : decode cX2_beginRide 13 = .ok (.aload_n 1, 1) := by decide +kernel
theorem dX2_beginRide_14 : decode cX2_beginRide 14 = .ok (.iconst 3, 1) := by decide +kernel
theorem dX2_beginRide_15 : decode cX2_beginRide 15 = .ok (.putfield 80, 3) := by decide +kernel
theorem dX2_beginRide_18 : decode cX2_beginRide 18 = .ok (.aload_n 1, 1) := by decide +kernel
theorem dX2_beginRide_19 : decode cX2_beginRide 19 = .ok (.aload_n 2, 1) := by decide +kernel
theorem dX2_beginRide_20 : decode cX2_beginRide 20 = .ok (.getfield 138, 3) := by decide +kernel
theorem dX2_beginRide_23 : decode cX2_beginRide 23 = .ok (.putfield 101, 3) := by decide +kernel
theorem dX2_beginRide_26 : decode cX2_beginRide 26 = .ok (.aload_n 1, 1) := by decide +kernel
theorem dX2_beginRide_27 : decode cX2_beginRide 27 = .ok (.aload_n 0, 1) := by decide +kernel
theorem dX2_beginRide_28 : decode cX2_beginRide 28 = .ok (.getfield 120, 3) := by decide +kernel
theorem dX2_beginRide_31 : decode cX2_beginRide 31 = .ok (.iload_n 3, 1) := by decide +kernel
theorem dX2_beginRide_32 : decode cX2_beginRide 32 = .ok (.iadd, 1) := by decide +kernel
theorem dX2_beginRide_33 : decode cX2_beginRide 33 = .ok (.putfield 149, 3) := by decide +kernel
theorem dX2_beginRide_36 : decode cX2_beginRide 36 = .ok (.aload_n 2, 1) := by decide +kernel
theorem dX2_beginRide_37 : decode cX2_beginRide 37 = .ok (.iconst 3, 1) := by decide +kernel
theorem dX2_beginRide_38 : decode cX2_beginRide 38 = .ok (.putfield 152, 3) := by decide +kernel
theorem dX2_beginRide_41 : decode cX2_beginRide 41 = .ok (.aload_n 2, 1) := by decide +kernel
theorem dX2_beginRide_42 : decode cX2_beginRide 42 = .ok (.aload_n 0, 1) := by decide +kernel
theorem dX2_beginRide_43 : decode cX2_beginRide 43 = .ok (.getfield 120, 3) := by decide +kernel
theorem dX2_beginRide_46 : decode cX2_beginRide 46 = .ok (.putfield 201, 3) := by decide +kernel
theorem dX2_beginRide_49 : decode cX2_beginRide 49 = .ok (.aload_n 0, 1) := by decide +kernel
theorem dX2_beginRide_50 : decode cX2_beginRide 50 = .ok (.aload_n 2, 1) := by decide +kernel
theorem dX2_beginRide_51 : decode cX2_beginRide 51 = .ok (.iload_n 3, 1) := by decide +kernel
theorem dX2_beginRide_52 : decode cX2_beginRide 52 = .ok (.invokevirtual 306, 3) := by decide +kernel
theorem dX2_beginRide_55 : decode cX2_beginRide 55 = .ok (.return_, 1) := by decide +kernel
theorem dX2_meterFare_0 : decode cX2_meterFare 0 = .ok (.aload_n 1, 1) := by decide +kernel
theorem dX2_meterFare_1 : decode cX2_meterFare 1 = .ok (.aload_n 0, 1) := by decide +kernel
theorem dX2_meterFare_2 : decode cX2_meterFare 2 = .ok (.getfield 23, 3) := by decide +kernel
theorem dX2_meterFare_5 : decode cX2_meterFare 5 = .ok (.putfield 310, 3) := by decide +kernel
theorem dX2_meterFare_8 : decode cX2_meterFare 8 = .ok (.aload_n 1, 1) := by decide +kernel
theorem dX2_meterFare_9 : decode cX2_meterFare 9 = .ok (.aload_n 0, 1) := by decide +kernel
theorem dX2_meterFare_10 : decode cX2_meterFare 10 = .ok (.getfield 27, 3) := by decide +kernel
theorem dX2_meterFare_13 : decode cX2_meterFare 13 = .ok (.iload_n 2, 1) := by decide +kernel
theorem dX2_meterFare_14 : decode cX2_meterFare 14 = .ok (.imul, 1) := by decide +kernel
theorem dX2_meterFare_15 : decode cX2_meterFare 15 = .ok (.putfield 313, 3) := by decide +kernel
theorem dX2_meterFare_18 : decode cX2_meterFare 18 = .ok (.aload_n 1, 1) := by decide +kernel
theorem dX2_meterFare_19 : decode cX2_meterFare 19 = .ok (.aload_n 0, 1) := by decide +kernel
theorem dX2_meterFare_20 : decode cX2_meterFare 20 = .ok (.getfield 120, 3) := by decide +kernel
theorem dX2_meterFare_23 : decode cX2_meterFare 23 = .ok (.aload_n 1, 1) := by decide +kernel
theorem dX2_meterFare_24 : decode cX2_meterFare 24 = .ok (.getfield 141, 3) := by decide +kernel
theorem dX2_meterFare_27 : decode cX2_meterFare 27 = .ok (.isub, 1) := by decide +kernel
theorem dX2_meterFare_28 : decode cX2_meterFare 28 = .ok (.iconst 5, 1) := by decide +kernel
theorem dX2_meterFare_29 : decode cX2_meterFare 29 = .ok (.invokestatic 211, 3) := by decide +kernel
theorem dX2_meterFare_32 : decode cX2_meterFare 32 = .ok (.ineg, 1) := by decide +kernel
theorem dX2_meterFare_33 : decode cX2_meterFare 33 = .ok (.putfield 316, 3) := by decide +kernel
theorem dX2_meterFare_36 : decode cX2_meterFare 36 = .ok (.aload_n 1, 1) := by decide +kernel
theorem dX2_meterFare_37 : decode cX2_meterFare 37 = .ok (.aload_n 0, 1) := by decide +kernel
theorem dX2_meterFare_38 : decode cX2_meterFare 38 = .ok (.getfield 120, 3) := by decide +kernel
theorem dX2_meterFare_41 : decode cX2_meterFare 41 = .ok (.sipush 1440, 3) := by decide +kernel
theorem dX2_meterFare_44 : decode cX2_meterFare 44 = .ok (.irem, 1) := by decide +kernel
theorem dX2_meterFare_45 : decode cX2_meterFare 45 = .ok (.sipush 360, 3) := by decide +kernel
theorem dX2_meterFare_48 : decode cX2_meterFare 48 = .ok (.if_icmp .ge 17, 3) := by decide +kernel
theorem dX2_meterFare_51 : decode cX2_meterFare 51 = .ok (.aload_n 1, 1) := by decide +kernel
theorem dX2_meterFare_52 : decode cX2_meterFare 52 = .ok (.getfield 310, 3) := by decide +kernel
theorem dX2_meterFare_55 : decode cX2_meterFare 55 = .ok (.aload_n 1, 1) := by decide +kernel
theorem dX2_meterFare_56 : decode cX2_meterFare 56 = .ok (.getfield 313, 3) := by decide +kernel
theorem dX2_meterFare_59 : decode cX2_meterFare 59 = .ok (.iadd, 1) := by decide +kernel
theorem dX2_meterFare_60 : decode cX2_meterFare 60 = .ok (.iconst 2, 1) := by decide +kernel
theorem dX2_meterFare_61 : decode cX2_meterFare 61 = .ok (.idiv, 1) := by decide +kernel
theorem dX2_meterFare_62 : decode cX2_meterFare 62 = .ok (.goto 4, 3) := by decide +kernel
theorem dX2_meterFare_65 : decode cX2_meterFare 65 = .ok (.iconst 0, 1) := by decide +kernel
theorem dX2_meterFare_66 : decode cX2_meterFare 66 = .ok (.putfield 319, 3) := by decide +kernel
theorem dX2_meterFare_69 : decode cX2_meterFare 69 = .ok (.return_, 1) := by decide +kernel
set_option maxRecDepth 20000 in
theorem ggX2_endRide_X2_wholeFare : GoodIn wsX2_endRide wsX2_wholeFare := goodIn_r _ [12, 13, 14, 15, 16, 33, 34, 35, 36, 37, 38, 39, 40, 41, 42, 43, 44, 45, 46, 47] (by decide +kernel) (by decide +kernel)
set_option maxRecDepth 20000 in
theorem gX2_endRide_X2_wholeFare : GoodIn wsX2_endRide (va_wsS RX2 322 yX2_wholeFare wsX2_wholeFare) := goodIn_app (goodIn_of _ (by decide +kernel)) ggX2_endRide_X2_wholeFare
set_option maxRecDepth 20000 in
theorem ggX2_endRide_X2_joinQueue : GoodIn wsX2_endRide wsX2_joinQueue := goodIn_r _ [20, 21, 22, 23, 24, 25, 26, 27, 28, 29, 30, 31, 32, 48, 49, 50, 51, 52, 53, 54] (by decide +kernel) (by decide +kernel)
set_option maxRecDepth 20000 in
theorem gX2_endRide_X2_joinQueue : GoodIn wsX2_endRide (wsV RX2 85 RX2 yX2_joinQueue wsX2_joinQueue) := goodIn_app (goodIn_of _ (by decide +kernel)) ggX2_endRide_X2_joinQueue
theorem dX2_endRide_0 : decode cX2_endRide 0 = .ok (.aload_n 2, 1) := by decide +kernel
theorem dX2_endRide_1 : decode cX2_endRide 1 = .ok (.invokestatic 322, 3) := by decide +kernel
theorem dX2_endRide_4 : decode cX2_endRide 4 = .ok (.istore_n 3, 1) := by decide +kernel
theorem dX2_endRide_5 : decode cX2_endRide 5 = .ok (.iload_n 3, 1) := by decide +kernel
theorem dX2_endRide_6 : decode cX2_endRide 6 = .ok (.bipush 80, 2) := by decide +kernel
theorem dX2_endRide_8 : decode cX2_endRide 8 = .ok (.imul, 1) := by decide +kernel
theorem dX2_endRide_9 : decode cX2_endRide 9 = .ok (.bipush 100, 2) := by decide +kernel
theorem dX2_endRide_11 : decode cX2_endRide 11 = .ok (.idiv, 1) := by decide +kernel
theorem dX2_endRide_12 : decode cX2_endRide 12 = .ok (.istore 4, 2) := by decide +kernel
theorem dX2_endRide_14 : decode cX2_endRide 14 = .ok (.aload_n 1, 1) := by decide +kernel
theorem dX2_endRide_15 : decode cX2_endRide 15 = .ok (.dup, 1) := by decide +kernel
theorem dX2_endRide_16 : decode cX2_endRide 16 = .ok (.getfield 194, 3) := by decide +kernel
theorem dX2_endRide_19 : decode cX2_endRide 19 = .ok (.iload 4, 2) := by decide +kernel
theorem dX2_endRide_21 : decode cX2_endRide 21 = .ok (.iadd, 1) := by decide +kernel
theorem dX2_endRide_22 : decode cX2_endRide 22 = .ok (.putfield 194, 3) := by decide +kernel
theorem dX2_endRide_25 : decode cX2_endRide 25 = .ok (.aload_n 1, 1) := by decide +kernel
theorem dX2_endRide_26 : decode cX2_endRide 26 = .ok (.dup, 1) := by decide +kernel
theorem dX2_endRide_27 : decode cX2_endRide 27 = .ok (.getfield 193, 3) := by decide +kernel
theorem dX2_endRide_30 : decode cX2_endRide 30 = .ok (.iload_n 3, 1) := by decide +kernel
theorem dX2_endRide_31 : decode cX2_endRide 31 = .ok (.iload 4, 2) := by decide +kernel
theorem dX2_endRide_33 : decode cX2_endRide 33 = .ok (.isub, 1) := by decide +kernel
theorem dX2_endRide_34 : decode cX2_endRide 34 = .ok (.iadd, 1) := by decide +kernel
theorem dX2_endRide_35 : decode cX2_endRide 35 = .ok (.putfield 193, 3) := by decide +kernel
theorem dX2_endRide_38 : decode cX2_endRide 38 = .ok (.aload_n 1, 1) := by decide +kernel
theorem dX2_endRide_39 : decode cX2_endRide 39 = .ok (.aload_n 2, 1) := by decide +kernel
theorem dX2_endRide_40 : decode cX2_endRide 40 = .ok (.getfield 303, 3) := by decide +kernel
theorem dX2_endRide_43 : decode cX2_endRide 43 = .ok (.putfield 101, 3) := by decide +kernel
theorem dX2_endRide_46 : decode cX2_endRide 46 = .ok (.aload_n 1, 1) := by decide +kernel
theorem dX2_endRide_47 : decode cX2_endRide 47 = .ok (.aconst_null, 1) := by decide +kernel
theorem dX2_endRide_48 : decode cX2_endRide 48 = .ok (.putfield 251, 3) := by decide +kernel
theorem dX2_endRide_51 : decode cX2_endRide 51 = .ok (.aload_n 0, 1) := by decide +kernel
theorem dX2_endRide_52 : decode cX2_endRide 52 = .ok (.aload_n 1, 1) := by decide +kernel
theorem dX2_endRide_53 : decode cX2_endRide 53 = .ok (.invokevirtual 85, 3) := by decide +kernel
theorem dX2_endRide_56 : decode cX2_endRide 56 = .ok (.aload_n 2, 1) := by decide +kernel
theorem dX2_endRide_57 : decode cX2_endRide 57 = .ok (.iconst 4, 1) := by decide +kernel
theorem dX2_endRide_58 : decode cX2_endRide 58 = .ok (.putfield 152, 3) := by decide +kernel
theorem dX2_endRide_61 : decode cX2_endRide 61 = .ok (.aload_n 2, 1) := by decide +kernel
theorem dX2_endRide_62 : decode cX2_endRide 62 = .ok (.aload_n 0, 1) := by decide +kernel
theorem dX2_endRide_63 : decode cX2_endRide 63 = .ok (.getfield 120, 3) := by decide +kernel
theorem dX2_endRide_66 : decode cX2_endRide 66 = .ok (.putfield 326, 3) := by decide +kernel
theorem dX2_endRide_69 : decode cX2_endRide 69 = .ok (.return_, 1) := by decide +kernel
set_option maxRecDepth 20000 in
theorem ggX2_cabDetail_X2_placeOf : GoodIn wsX2_cabDetail wsX2_placeOf := goodIn_r _ [10, 1, 11, 12, 2, 13, 14, 15, 16, 17, 18, 19, 20, 21, 22, 23, 24, 25, 26, 27, 28, 29, 30, 31, 32, 33, 34, 35, 36, 37, 38, 9, 39, 40, 41, 42, 43, 44, 45, 46, 47, 48, 64, 65, 66, 67, 68, 69, 70, 71, 72, 73] (by decide +kernel) (by decide +kernel)
set_option maxRecDepth 20000 in
theorem gX2_cabDetail_X2_placeOf : GoodIn wsX2_cabDetail (wsV RX2 92 RX2 yX2_placeOf wsX2_placeOf) := goodIn_app (goodIn_of _ (by decide +kernel)) ggX2_cabDetail_X2_placeOf
theorem dX2_cabDetail_0 : decode cX2_cabDetail 0 = .ok (.iload_n 2, 1) := by decide +kernel
theorem dX2_cabDetail_1 : decode cX2_cabDetail 1 = .ok (.tableswitch 65 0 3 #[31, 36, 41, 46], 31) := by decide +kernel
theorem dX2_cabDetail_32 : decode cX2_cabDetail 32 = .ok (.aload_n 1, 1) := by decide +kernel
theorem dX2_cabDetail_33 : decode cX2_cabDetail 33 = .ok (.getfield 80, 3) := by decide +kernel
theorem dX2_cabDetail_36 : decode cX2_cabDetail 36 = .ok (.ireturn, 1) := by decide +kernel
theorem dX2_cabDetail_37 : decode cX2_cabDetail 37 = .ok (.aload_n 1, 1) := by decide +kernel
theorem dX2_cabDetail_38 : decode cX2_cabDetail 38 = .ok (.getfield 101, 3) := by decide +kernel
theorem dX2_cabDetail_41 : decode cX2_cabDetail 41 = .ok (.ireturn, 1) := by decide +kernel
theorem dX2_cabDetail_42 : decode cX2_cabDetail 42 = .ok (.aload_n 1, 1) := by decide +kernel
theorem dX2_cabDetail_43 : decode cX2_cabDetail 43 = .ok (.getfield 208, 3) := by decide +kernel
theorem dX2_cabDetail_46 : decode cX2_cabDetail 46 = .ok (.ireturn, 1) := by decide +kernel
theorem dX2_cabDetail_47 : decode cX2_cabDetail 47 = .ok (.aload_n 1, 1) := by decide +kernel
theorem dX2_cabDetail_48 : decode cX2_cabDetail 48 = .ok (.getfield 251, 3) := by decide +kernel
theorem dX2_cabDetail_51 : decode cX2_cabDetail 51 = .ok (.ifnonnull 7, 3) := by decide +kernel
theorem dX2_cabDetail_54 : decode cX2_cabDetail 54 = .ok (.iconst (-1), 1) := by decide +kernel
theorem dX2_cabDetail_55 : decode cX2_cabDetail 55 = .ok (.goto 10, 3) := by decide +kernel
theorem dX2_cabDetail_58 : decode cX2_cabDetail 58 = .ok (.aload_n 1, 1) := by decide +kernel
theorem dX2_cabDetail_59 : decode cX2_cabDetail 59 = .ok (.getfield 251, 3) := by decide +kernel
theorem dX2_cabDetail_62 : decode cX2_cabDetail 62 = .ok (.getfield 153, 3) := by decide +kernel
theorem dX2_cabDetail_65 : decode cX2_cabDetail 65 = .ok (.ireturn, 1) := by decide +kernel
theorem dX2_cabDetail_66 : decode cX2_cabDetail 66 = .ok (.aload_n 0, 1) := by decide +kernel
theorem dX2_cabDetail_67 : decode cX2_cabDetail 67 = .ok (.aload_n 1, 1) := by decide +kernel
theorem dX2_cabDetail_68 : decode cX2_cabDetail 68 = .ok (.invokevirtual 92, 3) := by decide +kernel
end
section
theorem dX2_cabDetail_71 : decode cX2_cabDetail 71 = .ok (.ireturn, 1) := by decide +kernel
set_option maxRecDepth 20000 in
theorem ggX2_orderDetail_J6_bitCount_0f7a4 : GoodIn wsX2_orderDetail wsJ6_bitCount_0f7a4 := goodIn_r _ [10, 11, 12, 13] (by decide +kernel) (by decide +kernel)
set_option maxRecDepth 20000 in
theorem gX2_orderDetail_J6_bitCount_0f7a4 : GoodIn wsX2_orderDetail (va_wsS RX2 329 yJ6_bitCount_0f7a4 wsJ6_bitCount_0f7a4) := goodIn_app (goodIn_of _ (by decide +kernel)) ggX2_orderDetail_J6_bitCount_0f7a4
theorem dX2_orderDetail_0 : decode cX2_orderDetail 0 = .ok (.iload_n 1, 1) := by decide +kernel
theorem dX2_orderDetail_1 : decode cX2_orderDetail 1 = .ok (.tableswitch 65 0 3 #[31, 36, 55, 60], 31) := by decide +kernel
theorem dX2_orderDetail_32 : decode cX2_orderDetail 32 = .ok (.aload_n 0, 1) := by decide +kernel
theorem dX2_orderDetail_33 : decode cX2_orderDetail 33 = .ok (.getfield 152, 3) := by decide +kernel
theorem dX2_orderDetail_36 : decode cX2_orderDetail 36 = .ok (.ireturn, 1) := by decide +kernel
theorem dX2_orderDetail_37 : decode cX2_orderDetail 37 = .ok (.aload_n 0, 1) := by decide +kernel
theorem dX2_orderDetail_38 : decode cX2_orderDetail 38 = .ok (.getfield 267, 3) := by decide +kernel
theorem dX2_orderDetail_41 : decode cX2_orderDetail 41 = .ok (.ifnonnull 7, 3) := by decide +kernel
theorem dX2_orderDetail_44 : decode cX2_orderDetail 44 = .ok (.iconst (-1), 1) := by decide +kernel
theorem dX2_orderDetail_45 : decode cX2_orderDetail 45 = .ok (.goto 10, 3) := by decide +kernel
theorem dX2_orderDetail_48 : decode cX2_orderDetail 48 = .ok (.aload_n 0, 1) := by decide +kernel
theorem dX2_orderDetail_49 : decode cX2_orderDetail 49 = .ok (.getfield 267, 3) := by decide +kernel
theorem dX2_orderDetail_52 : decode cX2_orderDetail 52 = .ok (.getfield 250, 3) := by decide +kernel
theorem dX2_orderDetail_55 : decode cX2_orderDetail 55 = .ok (.ireturn, 1) := by decide +kernel
theorem dX2_orderDetail_56 : decode cX2_orderDetail 56 = .ok (.aload_n 0, 1) := by decide +kernel
theorem dX2_orderDetail_57 : decode cX2_orderDetail 57 = .ok (.getfield 201, 3) := by decide +kernel
theorem dX2_orderDetail_60 : decode cX2_orderDetail 60 = .ok (.ireturn, 1) := by decide +kernel
theorem dX2_orderDetail_61 : decode cX2_orderDetail 61 = .ok (.aload_n 0, 1) := by decide +kernel
theorem dX2_orderDetail_62 : decode cX2_orderDetail 62 = .ok (.getfield 326, 3) := by decide +kernel
theorem dX2_orderDetail_65 : decode cX2_orderDetail 65 = .ok (.ireturn, 1) := by decide +kernel
theorem dX2_orderDetail_66 : decode cX2_orderDetail 66 = .ok (.aload_n 0, 1) := by decide +kernel
theorem dX2_orderDetail_67 : decode cX2_orderDetail 67 = .ok (.getfield 284, 3) := by decide +kernel
theorem dX2_orderDetail_70 : decode cX2_orderDetail 70 = .ok (.invokestatic 329, 3) := by decide +kernel
theorem dX2_orderDetail_73 : decode cX2_orderDetail 73 = .ok (.ireturn, 1) := by decide +kernel
theorem dX2_wholeFare_0 : decode cX2_wholeFare 0 = .ok (.aload_n 0, 1) := by decide +kernel
theorem dX2_wholeFare_1 : decode cX2_wholeFare 1 = .ok (.getfield 310, 3) := by decide +kernel
theorem dX2_wholeFare_4 : decode cX2_wholeFare 4 = .ok (.aload_n 0, 1) := by decide +kernel
theorem dX2_wholeFare_5 : decode cX2_wholeFare 5 = .ok (.getfield 313, 3) := by decide +kernel
theorem dX2_wholeFare_8 : decode cX2_wholeFare 8 = .ok (.iadd, 1) := by decide +kernel
theorem dX2_wholeFare_9 : decode cX2_wholeFare 9 = .ok (.aload_n 0, 1) := by decide +kernel
theorem dX2_wholeFare_10 : decode cX2_wholeFare 10 = .ok (.getfield 316, 3) := by decide +kernel
theorem dX2_wholeFare_13 : decode cX2_wholeFare 13 = .ok (.iadd, 1) := by decide +kernel
theorem dX2_wholeFare_14 : decode cX2_wholeFare 14 = .ok (.aload_n 0, 1) := by decide +kernel
theorem dX2_wholeFare_15 : decode cX2_wholeFare 15 = .ok (.getfield 319, 3) := by decide +kernel
theorem dX2_wholeFare_18 : decode cX2_wholeFare 18 = .ok (.iadd, 1) := by decide +kernel
theorem dX2_wholeFare_19 : decode cX2_wholeFare 19 = .ok (.ireturn, 1) := by decide +kernel
set_option maxRecDepth 20000 in
theorem ggX2_ordersInState_Jx4a65c_size_8abf5 : GoodIn wsX2_ordersInState wsJx4a65c_size_8abf5 := goodIn_r _ [8, 9, 49, 50, 51] (by decide +kernel) (by decide +kernel)
set_option maxRecDepth 20000 in
theorem gX2_ordersInState_Jx4a65c_size_8abf5 : GoodIn wsX2_ordersInState (wsV RX2 59 RJx4a65c yJx4a65c_size_8abf5 wsJx4a65c_size_8abf5) := goodIn_app (goodIn_of _ (by decide +kernel)) ggX2_ordersInState_Jx4a65c_size_8abf5
set_option maxRecDepth 20000 in
theorem ggX2_ordersInState_Jx4a65c_get_915e3 : GoodIn wsX2_ordersInState wsJx4a65c_get_915e3 := goodIn_r _ [13, 9, 14, 15, 16, 17, 18, 19, 20, 21, 22, 23, 24, 7, 25, 26, 49, 50, 51] (by decide +kernel) (by decide +kernel)
set_option maxRecDepth 20000 in
theorem gX2_ordersInState_Jx4a65c_get_915e3 : GoodIn wsX2_ordersInState (wsV RX2 197 RJx4a65c yJx4a65c_get_915e3 wsJx4a65c_get_915e3) := goodIn_app (goodIn_of _ (by decide +kernel)) ggX2_ordersInState_Jx4a65c_get_915e3
theorem dX2_ordersInState_0 : decode cX2_ordersInState 0 = .ok (.iconst 0, 1) := by decide +kernel
theorem dX2_ordersInState_1 : decode cX2_ordersInState 1 = .ok (.istore_n 2, 1) := by decide +kernel
theorem dX2_ordersInState_2 : decode cX2_ordersInState 2 = .ok (.iconst 0, 1) := by decide +kernel
theorem dX2_ordersInState_3 : decode cX2_ordersInState 3 = .ok (.istore_n 3, 1) := by decide +kernel
theorem dX2_ordersInState_4 : decode cX2_ordersInState 4 = .ok (.iload_n 3, 1) := by decide +kernel
theorem dX2_ordersInState_5 : decode cX2_ordersInState 5 = .ok (.aload_n 0, 1) := by decide +kernel
theorem dX2_ordersInState_6 : decode cX2_ordersInState 6 = .ok (.getfield 20, 3) := by decide +kernel
theorem dX2_ordersInState_9 : decode cX2_ordersInState 9 = .ok (.invokevirtual 59, 3) := by decide +kernel
theorem dX2_ordersInState_12 : decode cX2_ordersInState 12 = .ok (.if_icmp .ge 30, 3) := by decide +kernel
theorem dX2_ordersInState_15 : decode cX2_ordersInState 15 = .ok (.aload_n 0, 1) := by decide +kernel
theorem dX2_ordersInState_16 : decode cX2_ordersInState 16 = .ok (.getfield 20, 3) := by decide +kernel
theorem dX2_ordersInState_19 : decode cX2_ordersInState 19 = .ok (.iload_n 3, 1) := by decide +kernel
theorem dX2_ordersInState_20 : decode cX2_ordersInState 20 = .ok (.invokevirtual 197, 3) := by decide +kernel
theorem dX2_ordersInState_23 : decode cX2_ordersInState 23 = .ok (.checkcast 127, 3) := by decide +kernel
theorem dX2_ordersInState_26 : decode cX2_ordersInState 26 = .ok (.getfield 152, 3) := by decide +kernel
theorem dX2_ordersInState_29 : decode cX2_ordersInState 29 = .ok (.iload_n 1, 1) := by decide +kernel
theorem dX2_ordersInState_30 : decode cX2_ordersInState 30 = .ok (.if_icmp .ne 6, 3) := by decide +kernel
theorem dX2_ordersInState_33 : decode cX2_ordersInState 33 = .ok (.iinc 2 1, 3) := by decide +kernel
theorem dX2_ordersInState_36 : decode cX2_ordersInState 36 = .ok (.iinc 3 1, 3) := by decide +kernel
theorem dX2_ordersInState_39 : decode cX2_ordersInState 39 = .ok (.goto (-35), 3) := by decide +kernel
theorem dX2_ordersInState_42 : decode cX2_ordersInState 42 = .ok (.iload_n 2, 1) := by decide +kernel
theorem dX2_ordersInState_43 : decode cX2_ordersInState 43 = .ok (.ireturn, 1) := by decide +kernel
theorem dX3_init_0 : decode cX3_init 0 = .ok (.aload_n 0, 1) := by decide +kernel
theorem dX3_init_1 : decode cX3_init 1 = .ok (.invokespecial 1, 3) := by decide +kernel
theorem dX3_init_4 : decode cX3_init 4 = .ok (.aload_n 0, 1) := by decide +kernel
theorem dX3_init_5 : decode cX3_init 5 = .ok (.bipush 6, 2) := by decide +kernel
theorem dX3_init_7 : decode cX3_init 7 = .ok (.bipush 6, 2) := by decide +kernel
theorem dX3_init_9 : decode cX3_init 9 = .ok (.multianewarray 7 2, 4) := by decide +kernel
theorem dX3_init_13 : decode cX3_init 13 = .ok (.putfield 9, 3) := by decide +kernel
theorem dX3_init_16 : decode cX3_init 16 = .ok (.aload_n 0, 1) := by decide +kernel
theorem dX3_init_17 : decode cX3_init 17 = .ok (.bipush 10, 2) := by decide +kernel
theorem dX3_init_19 : decode cX3_init 19 = .ok (.anewarray 14, 3) := by decide +kernel
theorem dX3_init_22 : decode cX3_init 22 = .ok (.putfield 16, 3) := by decide +kernel
theorem dX3_init_25 : decode cX3_init 25 = .ok (.aload_n 0, 1) := by decide +kernel
theorem dX3_init_26 : decode cX3_init 26 = .ok (.bipush 60, 2) := by decide +kernel
theorem dX3_init_28 : decode cX3_init 28 = .ok (.anewarray 14, 3) := by decide +kernel
theorem dX3_init_31 : decode cX3_init 31 = .ok (.putfield 19, 3) := by decide +kernel
theorem dX3_init_34 : decode cX3_init 34 = .ok (.aload_n 0, 1) := by decide +kernel
theorem dX3_init_35 : decode cX3_init 35 = .ok (.bipush 6, 2) := by decide +kernel
theorem dX3_init_37 : decode cX3_init 37 = .ok (.bipush 11, 2) := by decide +kernel
theorem dX3_init_39 : decode cX3_init 39 = .ok (.multianewarray 7 2, 4) := by decide +kernel
theorem dX3_init_43 : decode cX3_init 43 = .ok (.putfield 22, 3) := by decide +kernel
theorem dX3_init_46 : decode cX3_init 46 = .ok (.aload_n 0, 1) := by decide +kernel
theorem dX3_init_47 : decode cX3_init 47 = .ok (.bipush 60, 2) := by decide +kernel
theorem dX3_init_49 : decode cX3_init 49 = .ok (.bipush 10, 2) := by decide +kernel
theorem dX3_init_51 : decode cX3_init 51 = .ok (.multianewarray 25 2, 4) := by decide +kernel
theorem dX3_init_55 : decode cX3_init 55 = .ok (.putfield 27, 3) := by decide +kernel
theorem dX3_init_58 : decode cX3_init 58 = .ok (.aload_n 0, 1) := by decide +kernel
theorem dX3_init_59 : decode cX3_init 59 = .ok (.bipush 10, 2) := by decide +kernel
theorem dX3_init_61 : decode cX3_init 61 = .ok (.iconst 2, 1) := by decide +kernel
theorem dX3_init_62 : decode cX3_init 62 = .ok (.multianewarray 7 2, 4) := by decide +kernel
theorem dX3_init_66 : decode cX3_init 66 = .ok (.putfield 30, 3) := by decide +kernel
theorem dX3_init_69 : decode cX3_init 69 = .ok (.aload_n 0, 1) := by decide +kernel
theorem dX3_init_70 : decode cX3_init 70 = .ok (.iconst 4, 1) := by decide +kernel
theorem dX3_init_71 : decode cX3_init 71 = .ok (.putfield 33, 3) := by decide +kernel
theorem dX3_init_74 : decode cX3_init 74 = .ok (.aload_n 0, 1) := by decide +kernel
theorem dX3_init_75 : decode cX3_init 75 = .ok (.iconst 2, 1) := by decide +kernel
theorem dX3_init_76 : decode cX3_init 76 = .ok (.putfield 37, 3) := by decide +kernel
theorem dX3_init_79 : decode cX3_init 79 = .ok (.iconst 0, 1) := by decide +kernel
theorem dX3_init_80 : decode cX3_init 80 = .ok (.istore_n 1, 1) := by decide +kernel
theorem dX3_init_81 : decode cX3_init 81 = .ok (.iload_n 1, 1) := by decide +kernel
theorem dX3_init_82 : decode cX3_init 82 = .ok (.bipush 6, 2) := by decide +kernel
theorem dX3_init_84 : decode cX3_init 84 = .ok (.if_icmp .ge 42, 3) := by decide +kernel
theorem dX3_init_87 : decode cX3_init 87 = .ok (.iconst 0, 1) := by decide +kernel
theorem dX3_init_88 : decode cX3_init 88 = .ok (.istore_n 2, 1) := by decide +kernel
theorem dX3_init_89 : decode cX3_init 89 = .ok (.iload_n 2, 1) := by decide +kernel
theorem dX3_init_90 : decode cX3_init 90 = .ok (.bipush 6, 2) := by decide +kernel
theorem dX3_init_92 : decode cX3_init 92 = .ok (.if_icmp .ge 28, 3) := by decide +kernel
theorem dX3_init_95 : decode cX3_init 95 = .ok (.aload_n 0, 1) := by decide +kernel
theorem dX3_init_96 : decode cX3_init 96 = .ok (.getfield 9, 3) := by decide +kernel
theorem dX3_init_99 : decode cX3_init 99 = .ok (.iload_n 1, 1) := by decide +kernel
theorem dX3_init_100 : decode cX3_init 100 = .ok (.aaload, 1) := by decide +kernel
theorem dX3_init_101 : decode cX3_init 101 = .ok (.iload_n 2, 1) := by decide +kernel
theorem dX3_init_102 : decode cX3_init 102 = .ok (.iload_n 1, 1) := by decide +kernel
theorem dX3_init_103 : decode cX3_init 103 = .ok (.iload_n 2, 1) := by decide +kernel
theorem dX3_init_104 : decode cX3_init 104 = .ok (.if_icmp .ne 7, 3) := by decide +kernel
theorem dX3_init_107 : decode cX3_init 107 = .ok (.iconst 5, 1) := by decide +kernel
theorem dX3_init_108 : decode cX3_init 108 = .ok (.goto 5, 3) := by decide +kernel
theorem dX3_init_111 : decode cX3_init 111 = .ok (.bipush 10, 2) := by decide +kernel
theorem dX3_init_113 : decode cX3_init 113 = .ok (.iastore, 1) := by decide +kernel
theorem dX3_init_114 : decode cX3_init 114 = .ok (.iinc 2 1, 3) := by decide +kernel
theorem dX3_init_117 : decode cX3_init 117 = .ok (.goto (-28), 3) := by decide +kernel
theorem dX3_init_120 : decode cX3_init 120 = .ok (.iinc 1 1, 3) := by decide +kernel
theorem dX3_init_123 : decode cX3_init 123 = .ok (.goto (-42), 3) := by decide +kernel
theorem dX3_init_126 : decode cX3_init 126 = .ok (.return_, 1) := by decide +kernel
theorem dX3_join_0 : decode cX3_join 0 = .ok (.aload_n 0, 1) := by decide +kernel
theorem dX3_join_1 : decode cX3_join 1 = .ok (.getfield 22, 3) := by decide +kernel
theorem dX3_join_4 : decode cX3_join 4 = .ok (.iload_n 1, 1) := by decide +kernel
theorem dX3_join_5 : decode cX3_join 5 = .ok (.aaload, 1) := by decide +kernel
theorem dX3_join_6 : decode cX3_join 6 = .ok (.iconst 0, 1) := by decide +kernel
theorem dX3_join_7 : decode cX3_join 7 = .ok (.dup2, 1) := by decide +kernel
theorem dX3_join_8 : decode cX3_join 8 = .ok (.iaload, 1) := by decide +kernel
theorem dX3_join_9 : decode cX3_join 9 = .ok (.iconst 1, 1) := by decide +kernel
theorem dX3_join_10 : decode cX3_join 10 = .ok (.iadd, 1) := by decide +kernel
theorem dX3_join_11 : decode cX3_join 11 = .ok (.iastore, 1) := by decide +kernel
theorem dX3_join_12 : decode cX3_join 12 = .ok (.aload_n 0, 1) := by decide +kernel
theorem dX3_join_13 : decode cX3_join 13 = .ok (.getfield 22, 3) := by decide +kernel
theorem dX3_join_16 : decode cX3_join 16 = .ok (.iload_n 1, 1) := by decide +kernel
theorem dX3_join_17 : decode cX3_join 17 = .ok (.aaload, 1) := by decide +kernel
theorem dX3_join_18 : decode cX3_join 18 = .ok (.aload_n 0, 1) := by decide +kernel
theorem dX3_join_19 : decode cX3_join 19 = .ok (.getfield 22, 3) := by decide +kernel
theorem dX3_join_22 : decode cX3_join 22 = .ok (.iload_n 1, 1) := by decide +kernel
theorem dX3_join_23 : decode cX3_join 23 = .ok (.aaload, 1) := by decide +kernel
theorem dX3_join_24 : decode cX3_join 24 = .ok (.iconst 0, 1) := by decide +kernel
theorem dX3_join_25 : decode cX3_join 25 = .ok (.iaload, 1) := by decide +kernel
theorem dX3_join_26 : decode cX3_join 26 = .ok (.iload_n 2, 1) := by decide +kernel
theorem dX3_join_27 : decode cX3_join 27 = .ok (.iastore, 1) := by decide +kernel
theorem dX3_join_28 : decode cX3_join 28 = .ok (.aload_n 0, 1) := by decide +kernel
theorem dX3_join_29 : decode cX3_join 29 = .ok (.getfield 22, 3) := by decide +kernel
theorem dX3_join_32 : decode cX3_join 32 = .ok (.iload_n 1, 1) := by decide +kernel
theorem dX3_join_33 : decode cX3_join 33 = .ok (.aaload, 1) := by decide +kernel
theorem dX3_join_34 : decode cX3_join 34 = .ok (.iconst 0, 1) := by decide +kernel
theorem dX3_join_35 : decode cX3_join 35 = .ok (.iaload, 1) := by decide +kernel
theorem dX3_join_36 : decode cX3_join 36 = .ok (.iconst 1, 1) := by decide +kernel
theorem dX3_join_37 : decode cX3_join 37 = .ok (.isub, 1) := by decide +kernel
theorem dX3_join_38 : decode cX3_join 38 = .ok (.ireturn, 1) := by decide +kernel
theorem dX3_leave_0 : decode cX3_leave 0 = .ok (.iconst 1, 1) := by decide +kernel
theorem dX3_leave_1 : decode cX3_leave 1 = .ok (.istore_n 3, 1) := by decide +kernel
theorem dX3_leave_2 : decode cX3_leave 2 = .ok (.aload_n 0, 1) := by decide +kernel
theorem dX3_leave_3 : decode cX3_leave 3 = .ok (.getfield 22, 3) := by decide +kernel
theorem dX3_leave_6 : decode cX3_leave 6 = .ok (.iload_n 1, 1) := by decide +kernel
theorem dX3_leave_7 : decode cX3_leave 7 = .ok (.aaload, 1) := by decide +kernel
theorem dX3_leave_8 : decode cX3_leave 8 = .ok (.iload_n 3, 1) := by decide +kernel
theorem dX3_leave_9 : decode cX3_leave 9 = .ok (.iaload, 1) := by decide +kernel
theorem dX3_leave_10 : decode cX3_leave 10 = .ok (.iload_n 2, 1) := by decide +kernel
theorem dX3_leave_11 : decode cX3_leave 11 = .ok (.if_icmp .eq 9, 3) := by decide +kernel
theorem dX3_leave_14 : decode cX3_leave 14 = .ok (.iinc 3 1, 3) := by decide +kernel
theorem dX3_leave_17 : decode cX3_leave 17 = .ok (.goto (-15), 3) := by decide +kernel
theorem dX3_leave_20 : decode cX3_leave 20 = .ok (.iload_n 3, 1) := by decide +kernel
theorem dX3_leave_21 : decode cX3_leave 21 = .ok (.aload_n 0, 1) := by decide +kernel
theorem dX3_leave_22 : decode cX3_leave 22 = .ok (.getfield 22, 3) := by decide +kernel
theorem dX3_leave_25 : decode cX3_leave 25 = .ok (.iload_n 1, 1) := by decide +kernel
theorem dX3_leave_26 : decode cX3_leave 26 = .ok (.aaload, 1) := by decide +kernel
theorem dX3_leave_27 : decode cX3_leave 27 = .ok (.iconst 0, 1) := by decide +kernel
theorem dX3_leave_28 : decode cX3_leave 28 = .ok (.iaload, 1) := by decide +kernel
theorem dX3_leave_29 : decode cX3_leave 29 = .ok (.if_icmp .ge 27, 3) := by decide +kernel
theorem dX3_leave_32 : decode cX3_leave 32 = .ok (.aload_n 0, 1) := by decide +kernel
theorem dX3_leave_33 : decode cX3_leave 33 = .ok (.getfield 22, 3) := by decide +kernel
theorem dX3_leave_36 : decode cX3_leave 36 = .ok (.iload_n 1, 1) := by decide +kernel
theorem dX3_leave_37 : decode cX3_leave 37 = .ok (.aaload, 1) := by decide +kernel
theorem dX3_leave_38 : decode cX3_leave 38 = .ok (.iload_n 3, 1) := by decide +kernel
theorem dX3_leave_39 : decode cX3_leave 39 = .ok (.aload_n 0, 1) := by decide +kernel
theorem dX3_leave_40 : decode cX3_leave 40 = .ok (.getfield 22, 3) := by decide +kernel
theorem dX3_leave_43 : decode cX3_leave 43 = .ok (.iload_n 1, 1) := by decide +kernel
theorem dX3_leave_44 : decode cX3_leave 44 = .ok (.aaload, 1) := by decide +kernel
theorem dX3_leave_45 : decode cX3_leave 45 = .ok (.iload_n 3, 1) := by decide +kernel
theorem dX3_leave_46 : decode cX3_leave 46 = .ok (.iconst 1, 1) := by decide +kernel
theorem dX3_leave_47 : decode cX3_leave 47 = .ok (.iadd, 1) := by decide +kernel
theorem dX3_leave_48 : decode cX3_leave 48 = .ok (.iaload, 1) := by decide +kernel
theorem dX3_leave_49 : decode cX3_leave 49 = .ok (.iastore, 1) := by decide +kernel
theorem dX3_leave_50 : decode cX3_leave 50 = .ok (.iinc 3 1, 3) := by decide +kernel
theorem dX3_leave_53 : decode cX3_leave 53 = .ok (.goto (-33), 3) := by decide +kernel
theorem dX3_leave_56 : decode cX3_leave 56 = .ok (.aload_n 0, 1) := by decide +kernel
theorem dX3_leave_57 : decode cX3_leave 57 = .ok (.getfield 22, 3) := by decide +kernel
theorem dX3_leave_60 : decode cX3_leave 60 = .ok (.iload_n 1, 1) := by decide +kernel
theorem dX3_leave_61 : decode cX3_leave 61 = .ok (.aaload, 1) := by decide +kernel
theorem dX3_leave_62 : decode cX3_leave 62 = .ok (.iconst 0, 1) := by decide +kernel
theorem dX3_leave_63 : decode cX3_leave 63 = .ok (.dup2, 1) := by decide +kernel
theorem dX3_leave_64 : decode cX3_leave 64 = .ok (.iaload, 1) := by decide +kernel
theorem dX3_leave_65 : decode cX3_leave 65 = .ok (.iconst 1, 1) := by decide +kernel
theorem dX3_leave_66 : decode cX3_leave 66 = .ok (.isub, 1) := by decide +kernel
theorem dX3_leave_67 : decode cX3_leave 67 = .ok (.iastore, 1) := by decide +kernel
theorem dX3_leave_68 : decode cX3_leave 68 = .ok (.return_, 1) := by decide +kernel
theorem dX3_first_0 : decode cX3_first 0 = .ok (.iconst 1, 1) := by decide +kernel
theorem dX3_first_1 : decode cX3_first 1 = .ok (.istore_n 3, 1) := by decide +kernel
theorem dX3_first_2 : decode cX3_first 2 = .ok (.iload_n 3, 1) := by decide +kernel
theorem dX3_first_3 : decode cX3_first 3 = .ok (.aload_n 0, 1) := by decide +kernel
theorem dX3_first_4 : decode cX3_first 4 = .ok (.getfield 22, 3) := by decide +kernel
theorem dX3_first_7 : decode cX3_first 7 = .ok (.iload_n 2, 1) := by decide +kernel
theorem dX3_first_8 : decode cX3_first 8 = .ok (.aaload, 1) := by decide +kernel
theorem dX3_first_9 : decode cX3_first 9 = .ok (.iconst 0, 1) := by decide +kernel
theorem dX3_first_10 : decode cX3_first 10 = .ok (.iaload, 1) := by decide +kernel
theorem dX3_first_11 : decode cX3_first 11 = .ok (.if_icmp .gt 66, 3) := by decide +kernel
theorem dX3_first_14 : decode cX3_first 14 = .ok (.aload_n 0, 1) := by decide +kernel
theorem dX3_first_15 : decode cX3_first 15 = .ok (.getfield 22, 3) := by decide +kernel
theorem dX3_first_18 : decode cX3_first 18 = .ok (.iload_n 2, 1) := by decide +kernel
theorem dX3_first_19 : decode cX3_first 19 = .ok (.aaload, 1) := by decide +kernel
theorem dX3_first_20 : decode cX3_first 20 = .ok (.iload_n 3, 1) := by decide +kernel
theorem dX3_first_21 : decode cX3_first 21 = .ok (.iaload, 1) := by decide +kernel
theorem dX3_first_22 : decode cX3_first 22 = .ok (.istore 4, 2) := by decide +kernel
theorem dX3_first_24 : decode cX3_first 24 = .ok (.aload_n 0, 1) := by decide +kernel
theorem dX3_first_25 : decode cX3_first 25 = .ok (.getfield 16, 3) := by decide +kernel
theorem dX3_first_28 : decode cX3_first 28 = .ok (.iload 4, 2) := by decide +kernel
theorem dX3_first_30 : decode cX3_first 30 = .ok (.aaload, 1) := by decide +kernel
theorem dX3_first_31 : decode cX3_first 31 = .ok (.iconst 3, 1) := by decide +kernel
theorem dX3_first_32 : decode cX3_first 32 = .ok (.iaload, 1) := by decide +kernel
theorem dX3_first_33 : decode cX3_first 33 = .ok (.ifCond .ge 38, 3) := by decide +kernel
theorem dX3_first_36 : decode cX3_first 36 = .ok (.aload_n 0, 1) := by decide +kernel
theorem dX3_first_37 : decode cX3_first 37 = .ok (.getfield 16, 3) := by decide +kernel
theorem dX3_first_40 : decode cX3_first 40 = .ok (.iload 4, 2) := by decide +kernel
theorem dX3_first_42 : decode cX3_first 42 = .ok (.aaload, 1) := by decide +kernel
theorem dX3_first_43 : decode cX3_first 43 = .ok (.iconst 0, 1) := by decide +kernel
theorem dX3_first_44 : decode cX3_first 44 = .ok (.iaload, 1) := by decide +kernel
theorem dX3_first_45 : decode cX3_first 45 = .ok (.aload_n 0, 1) := by decide +kernel
theorem dX3_first_46 : decode cX3_first 46 = .ok (.getfield 19, 3) := by decide +kernel
theorem dX3_first_49 : decode cX3_first 49 = .ok (.iload_n 1, 1) := by decide +kernel
theorem dX3_first_50 : decode cX3_first 50 = .ok (.aaload, 1) := by decide +kernel
theorem dX3_first_51 : decode cX3_first 51 = .ok (.iconst 2, 1) := by decide +kernel
theorem dX3_first_52 : decode cX3_first 52 = .ok (.iaload, 1) := by decide +kernel
theorem dX3_first_53 : decode cX3_first 53 = .ok (.if_icmp .lt 18, 3) := by decide +kernel
theorem dX3_first_56 : decode cX3_first 56 = .ok (.aload_n 0, 1) := by decide +kernel
theorem dX3_first_57 : decode cX3_first 57 = .ok (.getfield 27, 3) := by decide +kernel
theorem dX3_first_60 : decode cX3_first 60 = .ok (.iload_n 1, 1) := by decide +kernel
theorem dX3_first_61 : decode cX3_first 61 = .ok (.aaload, 1) := by decide +kernel
theorem dX3_first_62 : decode cX3_first 62 = .ok (.iload 4, 2) := by decide +kernel
theorem dX3_first_64 : decode cX3_first 64 = .ok (.baload, 1) := by decide +kernel
theorem dX3_first_65 : decode cX3_first 65 = .ok (.ifCond .ne 6, 3) := by decide +kernel
theorem dX3_first_68 : decode cX3_first 68 = .ok (.iload 4, 2) := by decide +kernel
theorem dX3_first_70 : decode cX3_first 70 = .ok (.ireturn, 1) := by decide +kernel
theorem dX3_first_71 : decode cX3_first 71 = .ok (.iinc 3 1, 3) := by decide +kernel
theorem dX3_first_74 : decode cX3_first 74 = .ok (.goto (-72), 3) := by decide +kernel
theorem dX3_first_77 : decode cX3_first 77 = .ok (.iconst (-1), 1) := by decide +kernel
theorem dX3_first_78 : decode cX3_first 78 = .ok (.ireturn, 1) := by decide +kernel
set_option maxRecDepth 20000 in
theorem ggX3_choose_X3_first : GoodIn wsX3_choose wsX3_first := goodIn_r _ [7, 8, 9, 1, 10, 11, 12, 13, 14, 15, 16, 17, 18, 19, 20, 21] (by decide +kernel) (by decide +kernel)
set_option maxRecDepth 20000 in
theorem gX3_choose_X3_first : GoodIn wsX3_choose (wsV RX3 40 RX3 yX3_first wsX3_first) := goodIn_app (goodIn_of _ (by decide +kernel)) ggX3_choose_X3_first
theorem dX3_choose_0 : decode cX3_choose 0 = .ok (.aload_n 0, 1) := by decide +kernel
theorem dX3_choose_1 : decode cX3_choose 1 = .ok (.iload_n 1, 1) := by decide +kernel
theorem dX3_choose_2 : decode cX3_choose 2 = .ok (.aload_n 0, 1) := by decide +kernel
theorem dX3_choose_3 : decode cX3_choose 3 = .ok (.getfield 19, 3) := by decide +kernel
theorem dX3_choose_6 : decode cX3_choose 6 = .ok (.iload_n 1, 1) := by decide +kernel
theorem dX3_choose_7 : decode cX3_choose 7 = .ok (.aaload, 1) := by decide +kernel
theorem dX3_choose_8 : decode cX3_choose 8 = .ok (.iconst 0, 1) := by decide +kernel
theorem dX3_choose_9 : decode cX3_choose 9 = .ok (.iaload, 1) := by decide +kernel
theorem dX3_choose_10 : decode cX3_choose 10 = .ok (.invokevirtual 40, 3) := by decide +kernel
theorem dX3_choose_13 : decode cX3_choose 13 = .ok (.istore_n 2, 1) := by decide +kernel
theorem dX3_choose_14 : decode cX3_choose 14 = .ok (.iconst 1, 1) := by decide +kernel
theorem dX3_choose_15 : decode cX3_choose 15 = .ok (.istore_n 3, 1) := by decide +kernel
theorem dX3_choose_16 : decode cX3_choose 16 = .ok (.iload_n 3, 1) := by decide +kernel
theorem dX3_choose_17 : decode cX3_choose 17 = .ok (.bipush 120, 2) := by decide +kernel
theorem dX3_choose_19 : decode cX3_choose 19 = .ok (.if_icmp .gt 74, 3) := by decide +kernel
theorem dX3_choose_22 : decode cX3_choose 22 = .ok (.iload_n 2, 1) := by decide +kernel
theorem dX3_choose_23 : decode cX3_choose 23 = .ok (.ifCond .ge 70, 3) := by decide +kernel
theorem dX3_choose_26 : decode cX3_choose 26 = .ok (.iconst 0, 1) := by decide +kernel
theorem dX3_choose_27 : decode cX3_choose 27 = .ok (.istore 4, 2) := by decide +kernel
theorem dX3_choose_29 : decode cX3_choose 29 = .ok (.iload 4, 2) := by decide +kernel
theorem dX3_choose_31 : decode cX3_choose 31 = .ok (.bipush 6, 2) := by decide +kernel
theorem dX3_choose_33 : decode cX3_choose 33 = .ok (.if_icmp .ge 54, 3) := by decide +kernel
theorem dX3_choose_36 : decode cX3_choose 36 = .ok (.iload_n 2, 1) := by decide +kernel
theorem dX3_choose_37 : decode cX3_choose 37 = .ok (.ifCond .ge 50, 3) := by decide +kernel
theorem dX3_choose_40 : decode cX3_choose 40 = .ok (.iload 4, 2) := by decide +kernel
theorem dX3_choose_42 : decode cX3_choose 42 = .ok (.aload_n 0, 1) := by decide +kernel
theorem dX3_choose_43 : decode cX3_choose 43 = .ok (.getfield 19, 3) := by decide +kernel
theorem dX3_choose_46 : decode cX3_choose 46 = .ok (.iload_n 1, 1) := by decide +kernel
theorem dX3_choose_47 : decode cX3_choose 47 = .ok (.aaload, 1) := by decide +kernel
theorem dX3_choose_48 : decode cX3_choose 48 = .ok (.iconst 0, 1) := by decide +kernel
theorem dX3_choose_49 : decode cX3_choose 49 = .ok (.iaload, 1) := by decide +kernel
theorem dX3_choose_50 : decode cX3_choose 50 = .ok (.if_icmp .eq 31, 3) := by decide +kernel
theorem dX3_choose_53 : decode cX3_choose 53 = .ok (.aload_n 0, 1) := by decide +kernel
theorem dX3_choose_54 : decode cX3_choose 54 = .ok (.getfield 9, 3) := by decide +kernel
theorem dX3_choose_57 : decode cX3_choose 57 = .ok (.iload 4, 2) := by decide +kernel
theorem dX3_choose_59 : decode cX3_choose 59 = .ok (.aaload, 1) := by decide +kernel
theorem dX3_choose_60 : decode cX3_choose 60 = .ok (.aload_n 0, 1) := by decide +kernel
theorem dX3_choose_61 : decode cX3_choose 61 = .ok (.getfield 19, 3) := by decide +kernel
theorem dX3_choose_64 : decode cX3_choose 64 = .ok (.iload_n 1, 1) := by decide +kernel
theorem dX3_choose_65 : decode cX3_choose 65 = .ok (.aaload, 1) := by decide +kernel
theorem dX3_choose_66 : decode cX3_choose 66 = .ok (.iconst 0, 1) := by decide +kernel
theorem dX3_choose_67 : decode cX3_choose 67 = .ok (.iaload, 1) := by decide +kernel
theorem dX3_choose_68 : decode cX3_choose 68 = .ok (.iaload, 1) := by decide +kernel
theorem dX3_choose_69 : decode cX3_choose 69 = .ok (.iload_n 3, 1) := by decide +kernel
theorem dX3_choose_70 : decode cX3_choose 70 = .ok (.if_icmp .ne 11, 3) := by decide +kernel
theorem dX3_choose_73 : decode cX3_choose 73 = .ok (.aload_n 0, 1) := by decide +kernel
theorem dX3_choose_74 : decode cX3_choose 74 = .ok (.iload_n 1, 1) := by decide +kernel
theorem dX3_choose_75 : decode cX3_choose 75 = .ok (.iload 4, 2) := by decide +kernel
theorem dX3_choose_77 : decode cX3_choose 77 = .ok (.invokevirtual 40, 3) := by decide +kernel
theorem dX3_choose_80 : decode cX3_choose 80 = .ok (.istore_n 2, 1) := by decide +kernel
theorem dX3_choose_81 : decode cX3_choose 81 = .ok (.iinc 4 1, 3) := by decide +kernel
theorem dX3_choose_84 : decode cX3_choose 84 = .ok (.goto (-55), 3) := by decide +kernel
theorem dX3_choose_87 : decode cX3_choose 87 = .ok (.iinc 3 1, 3) := by decide +kernel
theorem dX3_choose_90 : decode cX3_choose 90 = .ok (.goto (-74), 3) := by decide +kernel
theorem dX3_choose_93 : decode cX3_choose 93 = .ok (.iload_n 2, 1) := by decide +kernel
theorem dX3_choose_94 : decode cX3_choose 94 = .ok (.ireturn, 1) := by decide +kernel
set_option maxRecDepth 20000 in
theorem ggX3_offer_X3_choose : GoodIn wsX3_offer wsX3_choose := goodIn_r _ [9, 2, 10, 11, 12, 13, 8, 14, 15, 4, 16, 17, 18, 19, 20, 21, 22, 23, 24, 25, 26, 27] (by decide +kernel) (by decide +kernel)
set_option maxRecDepth 20000 in
theorem gX3_offer_X3_choose : GoodIn wsX3_offer (wsV RX3 50 RX3 yX3_choose wsX3_choose) := goodIn_app (goodIn_of _ (by decide +kernel)) ggX3_offer_X3_choose
theorem dX3_offer_0 : decode cX3_offer 0 = .ok (.iconst (-1), 1) := by decide +kernel
theorem dX3_offer_1 : decode cX3_offer 1 = .ok (.istore_n 1, 1) := by decide +kernel
theorem dX3_offer_2 : decode cX3_offer 2 = .ok (.aload_n 0, 1) := by decide +kernel
theorem dX3_offer_3 : decode cX3_offer 3 = .ok (.getfield 44, 3) := by decide +kernel
theorem dX3_offer_6 : decode cX3_offer 6 = .ok (.iconst 1, 1) := by decide +kernel
theorem dX3_offer_7 : decode cX3_offer 7 = .ok (.isub, 1) := by decide +kernel
theorem dX3_offer_8 : decode cX3_offer 8 = .ok (.istore_n 2, 1) := by decide +kernel
theorem dX3_offer_9 : decode cX3_offer 9 = .ok (.iload_n 2, 1) := by decide +kernel
theorem dX3_offer_10 : decode cX3_offer 10 = .ok (.ifCond .lt 71, 3) := by decide +kernel
theorem dX3_offer_13 : decode cX3_offer 13 = .ok (.aload_n 0, 1) := by decide +kernel
theorem dX3_offer_14 : decode cX3_offer 14 = .ok (.getfield 19, 3) := by decide +kernel
theorem dX3_offer_17 : decode cX3_offer 17 = .ok (.iload_n 2, 1) := by decide +kernel
theorem dX3_offer_18 : decode cX3_offer 18 = .ok (.aaload, 1) := by decide +kernel
theorem dX3_offer_19 : decode cX3_offer 19 = .ok (.iconst 4, 1) := by decide +kernel
theorem dX3_offer_20 : decode cX3_offer 20 = .ok (.iaload, 1) := by decide +kernel
theorem dX3_offer_21 : decode cX3_offer 21 = .ok (.ifCond .ne 54, 3) := by decide +kernel
theorem dX3_offer_24 : decode cX3_offer 24 = .ok (.aload_n 0, 1) := by decide +kernel
theorem dX3_offer_25 : decode cX3_offer 25 = .ok (.getfield 47, 3) := by decide +kernel
theorem dX3_offer_28 : decode cX3_offer 28 = .ok (.aload_n 0, 1) := by decide +kernel
theorem dX3_offer_29 : decode cX3_offer 29 = .ok (.getfield 19, 3) := by decide +kernel
theorem dX3_offer_32 : decode cX3_offer 32 = .ok (.iload_n 2, 1) := by decide +kernel
theorem dX3_offer_33 : decode cX3_offer 33 = .ok (.aaload, 1) := by decide +kernel
theorem dX3_offer_34 : decode cX3_offer 34 = .ok (.iconst 3, 1) := by decide +kernel
theorem dX3_offer_35 : decode cX3_offer 35 = .ok (.iaload, 1) := by decide +kernel
theorem dX3_offer_36 : decode cX3_offer 36 = .ok (.bipush 15, 2) := by decide +kernel
theorem dX3_offer_38 : decode cX3_offer 38 = .ok (.isub, 1) := by decide +kernel
theorem dX3_offer_39 : decode cX3_offer 39 = .ok (.if_icmp .lt 36, 3) := by decide +kernel
theorem dX3_offer_42 : decode cX3_offer 42 = .ok (.aload_n 0, 1) := by decide +kernel
theorem dX3_offer_43 : decode cX3_offer 43 = .ok (.iload_n 2, 1) := by decide +kernel
theorem dX3_offer_44 : decode cX3_offer 44 = .ok (.invokevirtual 50, 3) := by decide +kernel
theorem dX3_offer_47 : decode cX3_offer 47 = .ok (.ifCond .lt 28, 3) := by decide +kernel
theorem dX3_offer_50 : decode cX3_offer 50 = .ok (.iload_n 1, 1) := by decide +kernel
theorem dX3_offer_51 : decode cX3_offer 51 = .ok (.ifCond .lt 22, 3) := by decide +kernel
theorem dX3_offer_54 : decode cX3_offer 54 = .ok (.aload_n 0, 1) := by decide +kernel
theorem dX3_offer_55 : decode cX3_offer 55 = .ok (.getfield 19, 3) := by decide +kernel
theorem dX3_offer_58 : decode cX3_offer 58 = .ok (.iload_n 2, 1) := by decide +kernel
theorem dX3_offer_59 : decode cX3_offer 59 = .ok (.aaload, 1) := by decide +kernel
theorem dX3_offer_60 : decode cX3_offer 60 = .ok (.iconst 3, 1) := by decide +kernel
theorem dX3_offer_61 : decode cX3_offer 61 = .ok (.iaload, 1) := by decide +kernel
theorem dX3_offer_62 : decode cX3_offer 62 = .ok (.aload_n 0, 1) := by decide +kernel
theorem dX3_offer_63 : decode cX3_offer 63 = .ok (.getfield 19, 3) := by decide +kernel
theorem dX3_offer_66 : decode cX3_offer 66 = .ok (.iload_n 1, 1) := by decide +kernel
theorem dX3_offer_67 : decode cX3_offer 67 = .ok (.aaload, 1) := by decide +kernel
theorem dX3_offer_68 : decode cX3_offer 68 = .ok (.iconst 3, 1) := by decide +kernel
theorem dX3_offer_69 : decode cX3_offer 69 = .ok (.iaload, 1) := by decide +kernel
theorem dX3_offer_70 : decode cX3_offer 70 = .ok (.if_icmp .gt 5, 3) := by decide +kernel
theorem dX3_offer_73 : decode cX3_offer 73 = .ok (.iload_n 2, 1) := by decide +kernel
theorem dX3_offer_74 : decode cX3_offer 74 = .ok (.istore_n 1, 1) := by decide +kernel
theorem dX3_offer_75 : decode cX3_offer 75 = .ok (.iinc 2 (-1), 3) := by decide +kernel
theorem dX3_offer_78 : decode cX3_offer 78 = .ok (.goto (-69), 3) := by decide +kernel
theorem dX3_offer_81 : decode cX3_offer 81 = .ok (.iload_n 1, 1) := by decide +kernel
theorem dX3_offer_82 : decode cX3_offer 82 = .ok (.ifCond .ge 4, 3) := by decide +kernel
theorem dX3_offer_85 : decode cX3_offer 85 = .ok (.return_, 1) := by decide +kernel
theorem dX3_offer_86 : decode cX3_offer 86 = .ok (.aload_n 0, 1) := by decide +kernel
theorem dX3_offer_87 : decode cX3_offer 87 = .ok (.iload_n 1, 1) := by decide +kernel
theorem dX3_offer_88 : decode cX3_offer 88 = .ok (.invokevirtual 50, 3) := by decide +kernel
theorem dX3_offer_91 : decode cX3_offer 91 = .ok (.istore_n 2, 1) := by decide +kernel
theorem dX3_offer_92 : decode cX3_offer 92 = .ok (.aload_n 0, 1) := by decide +kernel
theorem dX3_offer_93 : decode cX3_offer 93 = .ok (.getfield 16, 3) := by decide +kernel
theorem dX3_offer_96 : decode cX3_offer 96 = .ok (.iload_n 2, 1) := by decide +kernel
theorem dX3_offer_97 : decode cX3_offer 97 = .ok (.aaload, 1) := by decide +kernel
theorem dX3_offer_98 : decode cX3_offer 98 = .ok (.iconst 3, 1) := by decide +kernel
theorem dX3_offer_99 : decode cX3_offer 99 = .ok (.iload_n 1, 1) := by decide +kernel
theorem dX3_offer_100 : decode cX3_offer 100 = .ok (.iastore, 1) := by decide +kernel
theorem dX3_offer_101 : decode cX3_offer 101 = .ok (.aload_n 0, 1) := by decide +kernel
theorem dX3_offer_102 : decode cX3_offer 102 = .ok (.getfield 16, 3) := by decide +kernel
theorem dX3_offer_105 : decode cX3_offer 105 = .ok (.iload_n 2, 1) := by decide +kernel
theorem dX3_offer_106 : decode cX3_offer 106 = .ok (.aaload, 1) := by decide +kernel
theorem dX3_offer_107 : decode cX3_offer 107 = .ok (.iconst 4, 1) := by decide +kernel
theorem dX3_offer_108 : decode cX3_offer 108 = .ok (.aload_n 0, 1) := by decide +kernel
theorem dX3_offer_109 : decode cX3_offer 109 = .ok (.getfield 47, 3) := by decide +kernel
theorem dX3_offer_112 : decode cX3_offer 112 = .ok (.iastore, 1) := by decide +kernel
theorem dX3_offer_113 : decode cX3_offer 113 = .ok (.aload_n 0, 1) := by decide +kernel
theorem dX3_offer_114 : decode cX3_offer 114 = .ok (.getfield 19, 3) := by decide +kernel
theorem dX3_offer_117 : decode cX3_offer 117 = .ok (.iload_n 1, 1) := by decide +kernel
theorem dX3_offer_118 : decode cX3_offer 118 = .ok (.aaload, 1) := by decide +kernel
theorem dX3_offer_119 : decode cX3_offer 119 = .ok (.iconst 4, 1) := by decide +kernel
theorem dX3_offer_120 : decode cX3_offer 120 = .ok (.iconst 1, 1) := by decide +kernel
theorem dX3_offer_121 : decode cX3_offer 121 = .ok (.iastore, 1) := by decide +kernel
theorem dX3_offer_122 : decode cX3_offer 122 = .ok (.aload_n 0, 1) := by decide +kernel
theorem dX3_offer_123 : decode cX3_offer 123 = .ok (.getfield 19, 3) := by decide +kernel
theorem dX3_offer_126 : decode cX3_offer 126 = .ok (.iload_n 1, 1) := by decide +kernel
theorem dX3_offer_127 : decode cX3_offer 127 = .ok (.aaload, 1) := by decide +kernel
theorem dX3_offer_128 : decode cX3_offer 128 = .ok (.iconst 5, 1) := by decide +kernel
theorem dX3_offer_129 : decode cX3_offer 129 = .ok (.iload_n 2, 1) := by decide +kernel
theorem dX3_offer_130 : decode cX3_offer 130 = .ok (.iastore, 1) := by decide +kernel
theorem dX3_offer_131 : decode cX3_offer 131 = .ok (.goto (-131), 3) := by decide +kernel
theorem dX3_refuse_0 : decode cX3_refuse 0 = .ok (.aload_n 0, 1) := by decide +kernel
theorem dX3_refuse_1 : decode cX3_refuse 1 = .ok (.getfield 16, 3) := by decide +kernel
theorem dX3_refuse_4 : decode cX3_refuse 4 = .ok (.iload_n 1, 1) := by decide +kernel
theorem dX3_refuse_5 : decode cX3_refuse 5 = .ok (.aaload, 1) := by decide +kernel
theorem dX3_refuse_6 : decode cX3_refuse 6 = .ok (.iconst 3, 1) := by decide +kernel
theorem dX3_refuse_7 : decode cX3_refuse 7 = .ok (.iaload, 1) := by decide +kernel
theorem dX3_refuse_8 : decode cX3_refuse 8 = .ok (.istore_n 2, 1) := by decide +kernel
theorem dX3_refuse_9 : decode cX3_refuse 9 = .ok (.aload_n 0, 1) := by decide +kernel
theorem dX3_refuse_10 : decode cX3_refuse 10 = .ok (.getfield 27, 3) := by decide +kernel
theorem dX3_refuse_13 : decode cX3_refuse 13 = .ok (.iload_n 2, 1) := by decide +kernel
theorem dX3_refuse_14 : decode cX3_refuse 14 = .ok (.aaload, 1) := by decide +kernel
theorem dX3_refuse_15 : decode cX3_refuse 15 = .ok (.iload_n 1, 1) := by decide +kernel
theorem dX3_refuse_16 : decode cX3_refuse 16 = .ok (.iconst 1, 1) := by decide +kernel
theorem dX3_refuse_17 : decode cX3_refuse 17 = .ok (.bastore, 1) := by decide +kernel
theorem dX3_refuse_18 : decode cX3_refuse 18 = .ok (.aload_n 0, 1) := by decide +kernel
theorem dX3_refuse_19 : decode cX3_refuse 19 = .ok (.getfield 19, 3) := by decide +kernel
theorem dX3_refuse_22 : decode cX3_refuse 22 = .ok (.iload_n 2, 1) := by decide +kernel
theorem dX3_refuse_23 : decode cX3_refuse 23 = .ok (.aaload, 1) := by decide +kernel
theorem dX3_refuse_24 : decode cX3_refuse 24 = .ok (.bipush 8, 2) := by decide +kernel
theorem dX3_refuse_26 : decode cX3_refuse 26 = .ok (.dup2, 1) := by decide +kernel
theorem dX3_refuse_27 : decode cX3_refuse 27 = .ok (.iaload, 1) := by decide +kernel
theorem dX3_refuse_28 : decode cX3_refuse 28 = .ok (.iconst 1, 1) := by decide +kernel
theorem dX3_refuse_29 : decode cX3_refuse 29 = .ok (.iadd, 1) := by decide +kernel
theorem dX3_refuse_30 : decode cX3_refuse 30 = .ok (.iastore, 1) := by decide +kernel
theorem dX3_refuse_31 : decode cX3_refuse 31 = .ok (.aload_n 0, 1) := by decide +kernel
theorem dX3_refuse_32 : decode cX3_refuse 32 = .ok (.getfield 19, 3) := by decide +kernel
theorem dX3_refuse_35 : decode cX3_refuse 35 = .ok (.iload_n 2, 1) := by decide +kernel
theorem dX3_refuse_36 : decode cX3_refuse 36 = .ok (.aaload, 1) := by decide +kernel
theorem dX3_refuse_37 : decode cX3_refuse 37 = .ok (.iconst 4, 1) := by decide +kernel
theorem dX3_refuse_38 : decode cX3_refuse 38 = .ok (.iconst 0, 1) := by decide +kernel
theorem dX3_refuse_39 : decode cX3_refuse 39 = .ok (.iastore, 1) := by decide +kernel
theorem dX3_refuse_40 : decode cX3_refuse 40 = .ok (.aload_n 0, 1) := by decide +kernel
theorem dX3_refuse_41 : decode cX3_refuse 41 = .ok (.getfield 19, 3) := by decide +kernel
theorem dX3_refuse_44 : decode cX3_refuse 44 = .ok (.iload_n 2, 1) := by decide +kernel
theorem dX3_refuse_45 : decode cX3_refuse 45 = .ok (.aaload, 1) := by decide +kernel
theorem dX3_refuse_46 : decode cX3_refuse 46 = .ok (.iconst 5, 1) := by decide +kernel
theorem dX3_refuse_47 : decode cX3_refuse 47 = .ok (.iconst (-1), 1) := by decide +kernel
theorem dX3_refuse_48 : decode cX3_refuse 48 = .ok (.iastore, 1) := by decide +kernel
theorem dX3_refuse_49 : decode cX3_refuse 49 = .ok (.aload_n 0, 1) := by decide +kernel
theorem dX3_refuse_50 : decode cX3_refuse 50 = .ok (.getfield 16, 3) := by decide +kernel
theorem dX3_refuse_53 : decode cX3_refuse 53 = .ok (.iload_n 1, 1) := by decide +kernel
theorem dX3_refuse_54 : decode cX3_refuse 54 = .ok (.aaload, 1) := by decide +kernel
theorem dX3_refuse_55 : decode cX3_refuse 55 = .ok (.iconst 3, 1) := by decide +kernel
theorem dX3_refuse_56 : decode cX3_refuse 56 = .ok (.iconst (-1), 1) := by decide +kernel
theorem dX3_refuse_57 : decode cX3_refuse 57 = .ok (.iastore, 1) := by decide +kernel
theorem dX3_refuse_58 : decode cX3_refuse 58 = .ok (.return_, 1) := by decide +kernel
set_option maxRecDepth 20000 in
theorem ggX3_back_X3_leave : GoodIn wsX3_back wsX3_leave := goodIn_r _ [6, 7, 12, 13, 14, 15, 16, 17, 18, 19, 20, 21, 22] (by decide +kernel) (by decide +kernel)
set_option maxRecDepth 20000 in
theorem gX3_back_X3_leave : GoodIn wsX3_back (wsV RX3 54 RX3 yX3_leave wsX3_leave) := goodIn_app (goodIn_of _ (by decide +kernel)) ggX3_back_X3_leave
set_option maxRecDepth 20000 in
theorem ggX3_back_X3_join : GoodIn wsX3_back wsX3_join := goodIn_r _ [11, 7, 12, 13, 14, 15, 16, 17, 18, 19, 20, 21, 22] (by decide +kernel) (by decide +kernel)
set_option maxRecDepth 20000 in
theorem gX3_back_X3_join : GoodIn wsX3_back (wsV RX3 58 RX3 yX3_join wsX3_join) := goodIn_app (goodIn_of _ (by decide +kernel)) ggX3_back_X3_join
theorem dX3_back_0 : decode cX3_back 0 = .ok (.aload_n 0, 1) := by decide +kernel
theorem dX3_back_1 : decode cX3_back 1 = .ok (.aload_n 0, 1) := by decide +kernel
theorem dX3_back_2 : decode cX3_back 2 = .ok (.getfield 16, 3) := by decide +kernel
theorem dX3_back_5 : decode cX3_back 5 = .ok (.iload_n 1, 1) := by decide +kernel
theorem dX3_back_6 : decode cX3_back 6 = .ok (.aaload, 1) := by decide +kernel
theorem dX3_back_7 : decode cX3_back 7 = .ok (.iconst 1, 1) := by decide +kernel
theorem dX3_back_8 : decode cX3_back 8 = .ok (.iaload, 1) := by decide +kernel
theorem dX3_back_9 : decode cX3_back 9 = .ok (.iload_n 1, 1) := by decide +kernel
theorem dX3_back_10 : decode cX3_back 10 = .ok (.invokevirtual 54, 3) := by decide +kernel
theorem dX3_back_13 : decode cX3_back 13 = .ok (.aload_n 0, 1) := by decide +kernel
theorem dX3_back_14 : decode cX3_back 14 = .ok (.aload_n 0, 1) := by decide +kernel
theorem dX3_back_15 : decode cX3_back 15 = .ok (.getfield 16, 3) := by decide +kernel
theorem dX3_back_18 : decode cX3_back 18 = .ok (.iload_n 1, 1) := by decide +kernel
theorem dX3_back_19 : decode cX3_back 19 = .ok (.aaload, 1) := by decide +kernel
theorem dX3_back_20 : decode cX3_back 20 = .ok (.iconst 1, 1) := by decide +kernel
theorem dX3_back_21 : decode cX3_back 21 = .ok (.iaload, 1) := by decide +kernel
theorem dX3_back_22 : decode cX3_back 22 = .ok (.iload_n 1, 1) := by decide +kernel
theorem dX3_back_23 : decode cX3_back 23 = .ok (.invokevirtual 58, 3) := by decide +kernel
theorem dX3_back_26 : decode cX3_back 26 = .ok (.pop, 1) := by decide +kernel
theorem dX3_back_27 : decode cX3_back 27 = .ok (.return_, 1) := by decide +kernel
set_option maxRecDepth 20000 in
theorem ggX3_accept_X3_leave : GoodIn wsX3_accept wsX3_leave := goodIn_r _ [9, 10, 11, 12, 13, 14, 15, 16, 17, 18, 19, 20, 21] (by decide +kernel) (by decide +kernel)
set_option maxRecDepth 20000 in
theorem gX3_accept_X3_leave : GoodIn wsX3_accept (wsV RX3 54 RX3 yX3_leave wsX3_leave) := goodIn_app (goodIn_of _ (by decide +kernel)) ggX3_accept_X3_leave
theorem dX3_accept_0 : decode cX3_accept 0 = .ok (.aload_n 0, 1) := by decide +kernel
theorem dX3_accept_1 : decode cX3_accept 1 = .ok (.getfield 19, 3) := by decide +kernel
theorem dX3_accept_4 : decode cX3_accept 4 = .ok (.aload_n 0, 1) := by decide +kernel
theorem dX3_accept_5 : decode cX3_accept 5 = .ok (.getfield 16, 3) := by decide +kernel
theorem dX3_accept_8 : decode cX3_accept 8 = .ok (.iload_n 1, 1) := by decide +kernel
theorem dX3_accept_9 : decode cX3_accept 9 = .ok (.aaload, 1) := by decide +kernel
theorem dX3_accept_10 : decode cX3_accept 10 = .ok (.iconst 3, 1) := by decide +kernel
theorem dX3_accept_11 : decode cX3_accept 11 = .ok (.iaload, 1) := by decide +kernel
theorem dX3_accept_12 : decode cX3_accept 12 = .ok (.aaload, 1) := by decide +kernel
theorem dX3_accept_13 : decode cX3_accept 13 = .ok (.astore_n 2, 1) := by decide +kernel
theorem dX3_accept_14 : decode cX3_accept 14 = .ok (.aload_n 0, 1) := by decide +kernel
theorem dX3_accept_15 : decode cX3_accept 15 = .ok (.getfield 9, 3) := by decide +kernel
theorem dX3_accept_18 : decode cX3_accept 18 = .ok (.aload_n 0, 1) := by decide +kernel
theorem dX3_accept_19 : decode cX3_accept 19 = .ok (.getfield 16, 3) := by decide +kernel
theorem dX3_accept_22 : decode cX3_accept 22 = .ok (.iload_n 1, 1) := by decide +kernel
theorem dX3_accept_23 : decode cX3_accept 23 = .ok (.aaload, 1) := by decide +kernel
theorem dX3_accept_24 : decode cX3_accept 24 = .ok (.iconst 1, 1) := by decide +kernel
theorem dX3_accept_25 : decode cX3_accept 25 = .ok (.iaload, 1) := by decide +kernel
theorem dX3_accept_26 : decode cX3_accept 26 = .ok (.aaload, 1) := by decide +kernel
theorem dX3_accept_27 : decode cX3_accept 27 = .ok (.aload_n 2, 1) := by decide +kernel
theorem dX3_accept_28 : decode cX3_accept 28 = .ok (.iconst 0, 1) := by decide +kernel
theorem dX3_accept_29 : decode cX3_accept 29 = .ok (.iaload, 1) := by decide +kernel
theorem dX3_accept_30 : decode cX3_accept 30 = .ok (.iaload, 1) := by decide +kernel
theorem dX3_accept_31 : decode cX3_accept 31 = .ok (.istore_n 3, 1) := by decide +kernel
theorem dX3_accept_32 : decode cX3_accept 32 = .ok (.aload_n 0, 1) := by decide +kernel
theorem dX3_accept_33 : decode cX3_accept 33 = .ok (.aload_n 0, 1) := by decide +kernel
theorem dX3_accept_34 : decode cX3_accept 34 = .ok (.getfield 16, 3) := by decide +kernel
theorem dX3_accept_37 : decode cX3_accept 37 = .ok (.iload_n 1, 1) := by decide +kernel
theorem dX3_accept_38 : decode cX3_accept 38 = .ok (.aaload, 1) := by decide +kernel
theorem dX3_accept_39 : decode cX3_accept 39 = .ok (.iconst 1, 1) := by decide +kernel
theorem dX3_accept_40 : decode cX3_accept 40 = .ok (.iaload, 1) := by decide +kernel
theorem dX3_accept_41 : decode cX3_accept 41 = .ok (.iload_n 1, 1) := by decide +kernel
theorem dX3_accept_42 : decode cX3_accept 42 = .ok (.invokevirtual 54, 3) := by decide +kernel
theorem dX3_accept_45 : decode cX3_accept 45 = .ok (.aload_n 0, 1) := by decide +kernel
theorem dX3_accept_46 : decode cX3_accept 46 = .ok (.getfield 16, 3) := by decide +kernel
theorem dX3_accept_49 : decode cX3_accept 49 = .ok (.iload_n 1, 1) := by decide +kernel
theorem dX3_accept_50 : decode cX3_accept 50 = .ok (.aaload, 1) := by decide +kernel
theorem dX3_accept_51 : decode cX3_accept 51 = .ok (.iconst 2, 1) := by decide +kernel
theorem dX3_accept_52 : decode cX3_accept 52 = .ok (.iconst 2, 1) := by decide +kernel
theorem dX3_accept_53 : decode cX3_accept 53 = .ok (.iastore, 1) := by decide +kernel
theorem dX3_accept_54 : decode cX3_accept 54 = .ok (.aload_n 0, 1) := by decide +kernel
theorem dX3_accept_55 : decode cX3_accept 55 = .ok (.getfield 16, 3) := by decide +kernel
theorem dX3_accept_58 : decode cX3_accept 58 = .ok (.iload_n 1, 1) := by decide +kernel
theorem dX3_accept_59 : decode cX3_accept 59 = .ok (.aaload, 1) := by decide +kernel
theorem dX3_accept_60 : decode cX3_accept 60 = .ok (.iconst 4, 1) := by decide +kernel
theorem dX3_accept_61 : decode cX3_accept 61 = .ok (.aload_n 0, 1) := by decide +kernel
theorem dX3_accept_62 : decode cX3_accept 62 = .ok (.getfield 47, 3) := by decide +kernel
theorem dX3_accept_65 : decode cX3_accept 65 = .ok (.iload_n 3, 1) := by decide +kernel
theorem dX3_accept_66 : decode cX3_accept 66 = .ok (.iadd, 1) := by decide +kernel
theorem dX3_accept_67 : decode cX3_accept 67 = .ok (.iastore, 1) := by decide +kernel
theorem dX3_accept_68 : decode cX3_accept 68 = .ok (.aload_n 2, 1) := by decide +kernel
theorem dX3_accept_69 : decode cX3_accept 69 = .ok (.iconst 4, 1) := by decide +kernel
theorem dX3_accept_70 : decode cX3_accept 70 = .ok (.iconst 2, 1) := by decide +kernel
theorem dX3_accept_71 : decode cX3_accept 71 = .ok (.iastore, 1) := by decide +kernel
theorem dX3_accept_72 : decode cX3_accept 72 = .ok (.iload_n 3, 1) := by decide +kernel
theorem dX3_accept_73 : decode cX3_accept 73 = .ok (.ireturn, 1) := by decide +kernel
set_option maxRecDepth 20000 in
theorem ggX3_cancel_X3_free : GoodIn wsX3_cancel wsX3_free := goodIn_r _ [7, 2, 8, 9, 10, 6, 11, 12, 13, 14, 15, 16, 17, 18, 19, 20, 21, 22, 23] (by decide +kernel) (by decide +kernel)
set_option maxRecDepth 20000 in
theorem gX3_cancel_X3_free : GoodIn wsX3_cancel (wsV RX3 61 RX3 yX3_free wsX3_free) := goodIn_app (goodIn_of _ (by decide +kernel)) ggX3_cancel_X3_free
theorem dX3_cancel_0 : decode cX3_cancel 0 = .ok (.aload_n 0, 1) := by decide +kernel
theorem dX3_cancel_1 : decode cX3_cancel 1 = .ok (.getfield 19, 3) := by decide +kernel
theorem dX3_cancel_4 : decode cX3_cancel 4 = .ok (.iload_n 1, 1) := by decide +kernel
theorem dX3_cancel_5 : decode cX3_cancel 5 = .ok (.aaload, 1) := by decide +kernel
theorem dX3_cancel_6 : decode cX3_cancel 6 = .ok (.iconst 4, 1) := by decide +kernel
theorem dX3_cancel_7 : decode cX3_cancel 7 = .ok (.iaload, 1) := by decide +kernel
theorem dX3_cancel_8 : decode cX3_cancel 8 = .ok (.istore_n 2, 1) := by decide +kernel
theorem dX3_cancel_9 : decode cX3_cancel 9 = .ok (.aload_n 0, 1) := by decide +kernel
theorem dX3_cancel_10 : decode cX3_cancel 10 = .ok (.getfield 19, 3) := by decide +kernel
theorem dX3_cancel_13 : decode cX3_cancel 13 = .ok (.iload_n 1, 1) := by decide +kernel
theorem dX3_cancel_14 : decode cX3_cancel 14 = .ok (.aaload, 1) := by decide +kernel
theorem dX3_cancel_15 : decode cX3_cancel 15 = .ok (.iconst 5, 1) := by decide +kernel
theorem dX3_cancel_16 : decode cX3_cancel 16 = .ok (.iaload, 1) := by decide +kernel
theorem dX3_cancel_17 : decode cX3_cancel 17 = .ok (.istore_n 3, 1) := by decide +kernel
theorem dX3_cancel_18 : decode cX3_cancel 18 = .ok (.iload_n 2, 1) := by decide +kernel
theorem dX3_cancel_19 : decode cX3_cancel 19 = .ok (.iconst 1, 1) := by decide +kernel
theorem dX3_cancel_20 : decode cX3_cancel 20 = .ok (.if_icmp .ne 12, 3) := by decide +kernel
theorem dX3_cancel_23 : decode cX3_cancel 23 = .ok (.aload_n 0, 1) := by decide +kernel
theorem dX3_cancel_24 : decode cX3_cancel 24 = .ok (.getfield 16, 3) := by decide +kernel
theorem dX3_cancel_27 : decode cX3_cancel 27 = .ok (.iload_n 3, 1) := by decide +kernel
theorem dX3_cancel_28 : decode cX3_cancel 28 = .ok (.aaload, 1) := by decide +kernel
theorem dX3_cancel_29 : decode cX3_cancel 29 = .ok (.iconst 3, 1) := by decide +kernel
theorem dX3_cancel_30 : decode cX3_cancel 30 = .ok (.iconst (-1), 1) := by decide +kernel
theorem dX3_cancel_31 : decode cX3_cancel 31 = .ok (.iastore, 1) := by decide +kernel
theorem dX3_cancel_32 : decode cX3_cancel 32 = .ok (.iload_n 2, 1) := by decide +kernel
theorem dX3_cancel_33 : decode cX3_cancel 33 = .ok (.iconst 2, 1) := by decide +kernel
theorem dX3_cancel_34 : decode cX3_cancel 34 = .ok (.if_icmp .ne 16, 3) := by decide +kernel
theorem dX3_cancel_37 : decode cX3_cancel 37 = .ok (.aload_n 0, 1) := by decide +kernel
theorem dX3_cancel_38 : decode cX3_cancel 38 = .ok (.iload_n 3, 1) := by decide +kernel
theorem dX3_cancel_39 : decode cX3_cancel 39 = .ok (.aload_n 0, 1) := by decide +kernel
theorem dX3_cancel_40 : decode cX3_cancel 40 = .ok (.getfield 16, 3) := by decide +kernel
theorem dX3_cancel_43 : decode cX3_cancel 43 = .ok (.iload_n 3, 1) := by decide +kernel
theorem dX3_cancel_44 : decode cX3_cancel 44 = .ok (.aaload, 1) := by decide +kernel
theorem dX3_cancel_45 : decode cX3_cancel 45 = .ok (.iconst 1, 1) := by decide +kernel
theorem dX3_cancel_46 : decode cX3_cancel 46 = .ok (.iaload, 1) := by decide +kernel
theorem dX3_cancel_47 : decode cX3_cancel 47 = .ok (.invokevirtual 61, 3) := by decide +kernel
theorem dX3_cancel_50 : decode cX3_cancel 50 = .ok (.aload_n 0, 1) := by decide +kernel
theorem dX3_cancel_51 : decode cX3_cancel 51 = .ok (.getfield 19, 3) := by decide +kernel
theorem dX3_cancel_54 : decode cX3_cancel 54 = .ok (.iload_n 1, 1) := by decide +kernel
theorem dX3_cancel_55 : decode cX3_cancel 55 = .ok (.aaload, 1) := by decide +kernel
theorem dX3_cancel_56 : decode cX3_cancel 56 = .ok (.iconst 4, 1) := by decide +kernel
theorem dX3_cancel_57 : decode cX3_cancel 57 = .ok (.iconst 5, 1) := by decide +kernel
theorem dX3_cancel_58 : decode cX3_cancel 58 = .ok (.iastore, 1) := by decide +kernel
theorem dX3_cancel_59 : decode cX3_cancel 59 = .ok (.aload_n 0, 1) := by decide +kernel
theorem dX3_cancel_60 : decode cX3_cancel 60 = .ok (.getfield 19, 3) := by decide +kernel
theorem dX3_cancel_63 : decode cX3_cancel 63 = .ok (.iload_n 1, 1) := by decide +kernel
theorem dX3_cancel_64 : decode cX3_cancel 64 = .ok (.aaload, 1) := by decide +kernel
theorem dX3_cancel_65 : decode cX3_cancel 65 = .ok (.iconst 5, 1) := by decide +kernel
theorem dX3_cancel_66 : decode cX3_cancel 66 = .ok (.iconst (-1), 1) := by decide +kernel
theorem dX3_cancel_67 : decode cX3_cancel 67 = .ok (.iastore, 1) := by decide +kernel
theorem dX3_cancel_68 : decode cX3_cancel 68 = .ok (.iload_n 2, 1) := by decide +kernel
theorem dX3_cancel_69 : decode cX3_cancel 69 = .ok (.ireturn, 1) := by decide +kernel
set_option maxRecDepth 20000 in
theorem ggX3_free_X3_join : GoodIn wsX3_free wsX3_join := goodIn_r _ [6, 7, 8, 9, 10, 11, 12, 13, 14, 15, 16, 17, 18] (by decide +kernel) (by decide +kernel)
set_option maxRecDepth 20000 in
theorem gX3_free_X3_join : GoodIn wsX3_free (wsV RX3 58 RX3 yX3_join wsX3_join) := goodIn_app (goodIn_of _ (by decide +kernel)) ggX3_free_X3_join
theorem dX3_free_0 : decode cX3_free 0 = .ok (.aload_n 0, 1) := by decide +kernel
theorem dX3_free_1 : decode cX3_free 1 = .ok (.getfield 16, 3) := by decide +kernel
theorem dX3_free_4 : decode cX3_free 4 = .ok (.iload_n 1, 1) := by decide +kernel
theorem dX3_free_5 : decode cX3_free 5 = .ok (.aaload, 1) := by decide +kernel
theorem dX3_free_6 : decode cX3_free 6 = .ok (.iconst 2, 1) := by decide +kernel
theorem dX3_free_7 : decode cX3_free 7 = .ok (.iconst 1, 1) := by decide +kernel
theorem dX3_free_8 : decode cX3_free 8 = .ok (.iastore, 1) := by decide +kernel
theorem dX3_free_9 : decode cX3_free 9 = .ok (.aload_n 0, 1) := by decide +kernel
theorem dX3_free_10 : decode cX3_free 10 = .ok (.getfield 16, 3) := by decide +kernel
theorem dX3_free_13 : decode cX3_free 13 = .ok (.iload_n 1, 1) := by decide +kernel
theorem dX3_free_14 : decode cX3_free 14 = .ok (.aaload, 1) := by decide +kernel
theorem dX3_free_15 : decode cX3_free 15 = .ok (.iconst 1, 1) := by decide +kernel
theorem dX3_free_16 : decode cX3_free 16 = .ok (.iload_n 2, 1) := by decide +kernel
theorem dX3_free_17 : decode cX3_free 17 = .ok (.iastore, 1) := by decide +kernel
theorem dX3_free_18 : decode cX3_free 18 = .ok (.aload_n 0, 1) := by decide +kernel
theorem dX3_free_19 : decode cX3_free 19 = .ok (.getfield 16, 3) := by decide +kernel
theorem dX3_free_22 : decode cX3_free 22 = .ok (.iload_n 1, 1) := by decide +kernel
theorem dX3_free_23 : decode cX3_free 23 = .ok (.aaload, 1) := by decide +kernel
theorem dX3_free_24 : decode cX3_free 24 = .ok (.iconst 3, 1) := by decide +kernel
theorem dX3_free_25 : decode cX3_free 25 = .ok (.iconst (-1), 1) := by decide +kernel
theorem dX3_free_26 : decode cX3_free 26 = .ok (.iastore, 1) := by decide +kernel
theorem dX3_free_27 : decode cX3_free 27 = .ok (.aload_n 0, 1) := by decide +kernel
theorem dX3_free_28 : decode cX3_free 28 = .ok (.iload_n 2, 1) := by decide +kernel
theorem dX3_free_29 : decode cX3_free 29 = .ok (.iload_n 1, 1) := by decide +kernel
theorem dX3_free_30 : decode cX3_free 30 = .ok (.invokevirtual 58, 3) := by decide +kernel
theorem dX3_free_33 : decode cX3_free 33 = .ok (.pop, 1) := by decide +kernel
theorem dX3_free_34 : decode cX3_free 34 = .ok (.return_, 1) := by decide +kernel
set_option maxRecDepth 20000 in
theorem ggX3_minute_X3_refuse : GoodIn wsX3_minute wsX3_refuse := goodIn_r _ [13, 3, 14, 4, 45, 46, 47, 48, 49, 50, 51, 52, 53, 54, 55] (by decide +kernel) (by decide +kernel)
set_option maxRecDepth 20000 in
theorem gX3_minute_X3_refuse : GoodIn wsX3_minute (wsV RX3 67 RX3 yX3_refuse wsX3_refuse) := goodIn_app (goodIn_of _ (by decide +kernel)) ggX3_minute_X3_refuse
set_option maxRecDepth 20000 in
theorem ggX3_minute_X3_back : GoodIn wsX3_minute wsX3_back := goodIn_r _ [18, 3, 19, 20, 21, 12, 22, 23, 24, 25, 26, 27, 45, 46, 47, 48, 49, 50, 51, 52, 53, 54, 55] (by decide +kernel) (by decide +kernel)
set_option maxRecDepth 20000 in
theorem gX3_minute_X3_back : GoodIn wsX3_minute (wsV RX3 71 RX3 yX3_back wsX3_back) := goodIn_app (goodIn_of _ (by decide +kernel)) ggX3_minute_X3_back
set_option maxRecDepth 20000 in
theorem ggX3_minute_X3_free : GoodIn wsX3_minute wsX3_free := goodIn_r _ [31, 3, 24, 25, 26, 12, 27, 23, 45, 46, 47, 48, 49, 50, 51, 52, 53, 54, 55] (by decide +kernel) (by decide +kernel)
set_option maxRecDepth 20000 in
theorem gX3_minute_X3_free : GoodIn wsX3_minute (wsV RX3 61 RX3 yX3_free wsX3_free) := goodIn_app (goodIn_of _ (by decide +kernel)) ggX3_minute_X3_free
set_option maxRecDepth 20000 in
theorem ggX3_minute_X3_offer : GoodIn wsX3_minute wsX3_offer := goodIn_r _ [35, 36, 4, 1, 3, 37, 38, 39, 12, 40, 6, 41, 42, 43, 44, 23, 14, 45, 46, 47, 48, 49, 50, 51, 52, 53, 54, 55] (by decide +kernel) (by decide +kernel)
set_option maxRecDepth 20000 in
theorem gX3_minute_X3_offer : GoodIn wsX3_minute (wsV RX3 74 RX3 yX3_offer wsX3_offer) := goodIn_app (goodIn_of _ (by decide +kernel)) ggX3_minute_X3_offer
theorem dX3_minute_0 : decode cX3_minute 0 = .ok (.aload_n 0, 1) := by decide +kernel
theorem dX3_minute_1 : decode cX3_minute 1 = .ok (.dup, 1) := by decide +kernel
theorem dX3_minute_2 : decode cX3_minute 2 = .ok (.getfield 47, 3) := by decide +kernel
theorem dX3_minute_5 : decode cX3_minute 5 = .ok (.iconst 1, 1) := by decide +kernel
theorem dX3_minute_6 : decode cX3_minute 6 = .ok (.iadd, 1) := by decide +kernel
theorem dX3_minute_7 : decode cX3_minute 7 = .ok (.putfield 47, 3) := by decide +kernel
theorem dX3_minute_10 : decode cX3_minute 10 = .ok (.iconst 0, 1) := by decide +kernel
theorem dX3_minute_11 : decode cX3_minute 11 = .ok (.istore_n 1, 1) := by decide +kernel
theorem dX3_minute_12 : decode cX3_minute 12 = .ok (.iload_n 1, 1) := by decide +kernel
theorem dX3_minute_13 : decode cX3_minute 13 = .ok (.aload_n 0, 1) := by decide +kernel
theorem dX3_minute_14 : decode cX3_minute 14 = .ok (.getfield 64, 3) := by decide +kernel
theorem dX3_minute_17 : decode cX3_minute 17 = .ok (.if_icmp .ge 62, 3) := by decide +kernel
theorem dX3_minute_20 : decode cX3_minute 20 = .ok (.aload_n 0, 1) := by decide +kernel
theorem dX3_minute_21 : decode cX3_minute 21 = .ok (.getfield 16, 3) := by decide +kernel
theorem dX3_minute_24 : decode cX3_minute 24 = .ok (.iload_n 1, 1) := by decide +kernel
theorem dX3_minute_25 : decode cX3_minute 25 = .ok (.aaload, 1) := by decide +kernel
theorem dX3_minute_26 : decode cX3_minute 26 = .ok (.iconst 2, 1) := by decide +kernel
theorem dX3_minute_27 : decode cX3_minute 27 = .ok (.iaload, 1) := by decide +kernel
theorem dX3_minute_28 : decode cX3_minute 28 = .ok (.iconst 1, 1) := by decide +kernel
theorem dX3_minute_29 : decode cX3_minute 29 = .ok (.if_icmp .ne 44, 3) := by decide +kernel
theorem dX3_minute_32 : decode cX3_minute 32 = .ok (.aload_n 0, 1) := by decide +kernel
theorem dX3_minute_33 : decode cX3_minute 33 = .ok (.getfield 16, 3) := by decide +kernel
theorem dX3_minute_36 : decode cX3_minute 36 = .ok (.iload_n 1, 1) := by decide +kernel
theorem dX3_minute_37 : decode cX3_minute 37 = .ok (.aaload, 1) := by decide +kernel
theorem dX3_minute_38 : decode cX3_minute 38 = .ok (.iconst 3, 1) := by decide +kernel
theorem dX3_minute_39 : decode cX3_minute 39 = .ok (.iaload, 1) := by decide +kernel
theorem dX3_minute_40 : decode cX3_minute 40 = .ok (.ifCond .lt 33, 3) := by decide +kernel
theorem dX3_minute_43 : decode cX3_minute 43 = .ok (.aload_n 0, 1) := by decide +kernel
theorem dX3_minute_44 : decode cX3_minute 44 = .ok (.getfield 47, 3) := by decide +kernel
theorem dX3_minute_47 : decode cX3_minute 47 = .ok (.aload_n 0, 1) := by decide +kernel
theorem dX3_minute_48 : decode cX3_minute 48 = .ok (.getfield 16, 3) := by decide +kernel
theorem dX3_minute_51 : decode cX3_minute 51 = .ok (.iload_n 1, 1) := by decide +kernel
theorem dX3_minute_52 : decode cX3_minute 52 = .ok (.aaload, 1) := by decide +kernel
theorem dX3_minute_53 : decode cX3_minute 53 = .ok (.iconst 4, 1) := by decide +kernel
theorem dX3_minute_54 : decode cX3_minute 54 = .ok (.iaload, 1) := by decide +kernel
theorem dX3_minute_55 : decode cX3_minute 55 = .ok (.iconst 2, 1) := by decide +kernel
theorem dX3_minute_56 : decode cX3_minute 56 = .ok (.iadd, 1) := by decide +kernel
theorem dX3_minute_57 : decode cX3_minute 57 = .ok (.if_icmp .ge 6, 3) := by decide +kernel
theorem dX3_minute_60 : decode cX3_minute 60 = .ok (.goto 13, 3) := by decide +kernel
theorem dX3_minute_63 : decode cX3_minute 63 = .ok (.aload_n 0, 1) := by decide +kernel
theorem dX3_minute_64 : decode cX3_minute 64 = .ok (.iload_n 1, 1) := by decide +kernel
theorem dX3_minute_65 : decode cX3_minute 65 = .ok (.invokevirtual 67, 3) := by decide +kernel
theorem dX3_minute_68 : decode cX3_minute 68 = .ok (.aload_n 0, 1) := by decide +kernel
theorem dX3_minute_69 : decode cX3_minute 69 = .ok (.iload_n 1, 1) := by decide +kernel
theorem dX3_minute_70 : decode cX3_minute 70 = .ok (.invokevirtual 71, 3) := by decide +kernel
theorem dX3_minute_73 : decode cX3_minute 73 = .ok (.iinc 1 1, 3) := by decide +kernel
theorem dX3_minute_76 : decode cX3_minute 76 = .ok (.goto (-64), 3) := by decide +kernel
theorem dX3_minute_79 : decode cX3_minute 79 = .ok (.iconst 0, 1) := by decide +kernel
theorem dX3_minute_80 : decode cX3_minute 80 = .ok (.istore_n 1, 1) := by decide +kernel
theorem dX3_minute_81 : decode cX3_minute 81 = .ok (.iconst 0, 1) := by decide +kernel
theorem dX3_minute_82 : decode cX3_minute 82 = .ok (.istore_n 2, 1) := by decide +kernel
theorem dX3_minute_83 : decode cX3_minute 83 = .ok (.iload_n 2, 1) := by decide +kernel
theorem dX3_minute_84 : decode cX3_minute 84 = .ok (.aload_n 0, 1) := by decide +kernel
theorem dX3_minute_85 : decode cX3_minute 85 = .ok (.getfield 64, 3) := by decide +kernel
theorem dX3_minute_88 : decode cX3_minute 88 = .ok (.if_icmp .ge 281, 3) := by decide +kernel
theorem dX3_minute_91 : decode cX3_minute 91 = .ok (.aload_n 0, 1) := by decide +kernel
theorem dX3_minute_92 : decode cX3_minute 92 = .ok (.getfield 16, 3) := by decide +kernel
theorem dX3_minute_95 : decode cX3_minute 95 = .ok (.iload_n 2, 1) := by decide +kernel
theorem dX3_minute_96 : decode cX3_minute 96 = .ok (.aaload, 1) := by decide +kernel
theorem dX3_minute_97 : decode cX3_minute 97 = .ok (.iconst 2, 1) := by decide +kernel
theorem dX3_minute_98 : decode cX3_minute 98 = .ok (.iaload, 1) := by decide +kernel
theorem dX3_minute_99 : decode cX3_minute 99 = .ok (.iconst 2, 1) := by decide +kernel
theorem dX3_minute_100 : decode cX3_minute 100 = .ok (.if_icmp .lt 263, 3) := by decide +kernel
theorem dX3_minute_103 : decode cX3_minute 103 = .ok (.aload_n 0, 1) := by decide +kernel
theorem dX3_minute_104 : decode cX3_minute 104 = .ok (.getfield 47, 3) := by decide +kernel
theorem dX3_minute_107 : decode cX3_minute 107 = .ok (.aload_n 0, 1) := by decide +kernel
theorem dX3_minute_108 : decode cX3_minute 108 = .ok (.getfield 16, 3) := by decide +kernel
theorem dX3_minute_111 : decode cX3_minute 111 = .ok (.iload_n 2, 1) := by decide +kernel
theorem dX3_minute_112 : decode cX3_minute 112 = .ok (.aaload, 1) := by decide +kernel
theorem dX3_minute_113 : decode cX3_minute 113 = .ok (.iconst 4, 1) := by decide +kernel
theorem dX3_minute_114 : decode cX3_minute 114 = .ok (.iaload, 1) := by decide +kernel
theorem dX3_minute_115 : decode cX3_minute 115 = .ok (.if_icmp .ge 6, 3) := by decide +kernel
theorem dX3_minute_118 : decode cX3_minute 118 = .ok (.goto 245, 3) := by decide +kernel
theorem dX3_minute_121 : decode cX3_minute 121 = .ok (.aload_n 0, 1) := by decide +kernel
theorem dX3_minute_122 : decode cX3_minute 122 = .ok (.getfield 19, 3) := by decide +kernel
theorem dX3_minute_125 : decode cX3_minute 125 = .ok (.aload_n 0, 1) := by decide +kernel
end
section
theorem dX3_minute_126 : decode cX3_minute 126 = .ok (.getfield 16, 3) := by decide +kernel
theorem dX3_minute_129 : decode cX3_minute 129 = .ok (.iload_n 2, 1) := by decide +kernel
theorem dX3_minute_130 : decode cX3_minute 130 = .ok (.aaload, 1) := by decide +kernel
theorem dX3_minute_131 : decode cX3_minute 131 = .ok (.iconst 3, 1) := by decide +kernel
theorem dX3_minute_132 : decode cX3_minute 132 = .ok (.iaload, 1) := by decide +kernel
theorem dX3_minute_133 : decode cX3_minute 133 = .ok (.aaload, 1) := by decide +kernel
theorem dX3_minute_134 : decode cX3_minute 134 = .ok (.astore_n 3, 1) := by decide +kernel
theorem dX3_minute_135 : decode cX3_minute 135 = .ok (.aload_n 0, 1) := by decide +kernel
theorem dX3_minute_136 : decode cX3_minute 136 = .ok (.getfield 16, 3) := by decide +kernel
theorem dX3_minute_139 : decode cX3_minute 139 = .ok (.iload_n 2, 1) := by decide +kernel
theorem dX3_minute_140 : decode cX3_minute 140 = .ok (.aaload, 1) := by decide +kernel
theorem dX3_minute_141 : decode cX3_minute 141 = .ok (.iconst 2, 1) := by decide +kernel
theorem dX3_minute_142 : decode cX3_minute 142 = .ok (.iaload, 1) := by decide +kernel
theorem dX3_minute_143 : decode cX3_minute 143 = .ok (.iconst 3, 1) := by decide +kernel
theorem dX3_minute_144 : decode cX3_minute 144 = .ok (.if_icmp .ne 76, 3) := by decide +kernel
theorem dX3_minute_147 : decode cX3_minute 147 = .ok (.aload_n 3, 1) := by decide +kernel
theorem dX3_minute_148 : decode cX3_minute 148 = .ok (.iconst 4, 1) := by decide +kernel
theorem dX3_minute_149 : decode cX3_minute 149 = .ok (.iconst 4, 1) := by decide +kernel
theorem dX3_minute_150 : decode cX3_minute 150 = .ok (.iastore, 1) := by decide +kernel
theorem dX3_minute_151 : decode cX3_minute 151 = .ok (.aload_n 3, 1) := by decide +kernel
theorem dX3_minute_152 : decode cX3_minute 152 = .ok (.bipush 7, 2) := by decide +kernel
theorem dX3_minute_154 : decode cX3_minute 154 = .ok (.aload_n 0, 1) := by decide +kernel
theorem dX3_minute_155 : decode cX3_minute 155 = .ok (.getfield 47, 3) := by decide +kernel
theorem dX3_minute_158 : decode cX3_minute 158 = .ok (.iastore, 1) := by decide +kernel
theorem dX3_minute_159 : decode cX3_minute 159 = .ok (.aload_n 0, 1) := by decide +kernel
theorem dX3_minute_160 : decode cX3_minute 160 = .ok (.getfield 30, 3) := by decide +kernel
theorem dX3_minute_163 : decode cX3_minute 163 = .ok (.iload_n 2, 1) := by decide +kernel
theorem dX3_minute_164 : decode cX3_minute 164 = .ok (.aaload, 1) := by decide +kernel
theorem dX3_minute_165 : decode cX3_minute 165 = .ok (.iconst 0, 1) := by decide +kernel
theorem dX3_minute_166 : decode cX3_minute 166 = .ok (.dup2, 1) := by decide +kernel
theorem dX3_minute_167 : decode cX3_minute 167 = .ok (.iaload, 1) := by decide +kernel
theorem dX3_minute_168 : decode cX3_minute 168 = .ok (.aload_n 3, 1) := by decide +kernel
theorem dX3_minute_169 : decode cX3_minute 169 = .ok (.bipush 9, 2) := by decide +kernel
theorem dX3_minute_171 : decode cX3_minute 171 = .ok (.iaload, 1) := by decide +kernel
theorem dX3_minute_172 : decode cX3_minute 172 = .ok (.bipush 80, 2) := by decide +kernel
theorem dX3_minute_174 : decode cX3_minute 174 = .ok (.imul, 1) := by decide +kernel
theorem dX3_minute_175 : decode cX3_minute 175 = .ok (.bipush 100, 2) := by decide +kernel
theorem dX3_minute_177 : decode cX3_minute 177 = .ok (.idiv, 1) := by decide +kernel
theorem dX3_minute_178 : decode cX3_minute 178 = .ok (.iadd, 1) := by decide +kernel
theorem dX3_minute_179 : decode cX3_minute 179 = .ok (.iastore, 1) := by decide +kernel
theorem dX3_minute_180 : decode cX3_minute 180 = .ok (.aload_n 0, 1) := by decide +kernel
theorem dX3_minute_181 : decode cX3_minute 181 = .ok (.getfield 30, 3) := by decide +kernel
theorem dX3_minute_184 : decode cX3_minute 184 = .ok (.iload_n 2, 1) := by decide +kernel
theorem dX3_minute_185 : decode cX3_minute 185 = .ok (.aaload, 1) := by decide +kernel
theorem dX3_minute_186 : decode cX3_minute 186 = .ok (.iconst 1, 1) := by decide +kernel
theorem dX3_minute_187 : decode cX3_minute 187 = .ok (.dup2, 1) := by decide +kernel
theorem dX3_minute_188 : decode cX3_minute 188 = .ok (.iaload, 1) := by decide +kernel
theorem dX3_minute_189 : decode cX3_minute 189 = .ok (.aload_n 3, 1) := by decide +kernel
theorem dX3_minute_190 : decode cX3_minute 190 = .ok (.bipush 9, 2) := by decide +kernel
theorem dX3_minute_192 : decode cX3_minute 192 = .ok (.iaload, 1) := by decide +kernel
theorem dX3_minute_193 : decode cX3_minute 193 = .ok (.aload_n 3, 1) := by decide +kernel
theorem dX3_minute_194 : decode cX3_minute 194 = .ok (.bipush 9, 2) := by decide +kernel
theorem dX3_minute_196 : decode cX3_minute 196 = .ok (.iaload, 1) := by decide +kernel
theorem dX3_minute_197 : decode cX3_minute 197 = .ok (.bipush 80, 2) := by decide +kernel
theorem dX3_minute_199 : decode cX3_minute 199 = .ok (.imul, 1) := by decide +kernel
theorem dX3_minute_200 : decode cX3_minute 200 = .ok (.bipush 100, 2) := by decide +kernel
theorem dX3_minute_202 : decode cX3_minute 202 = .ok (.idiv, 1) := by decide +kernel
theorem dX3_minute_203 : decode cX3_minute 203 = .ok (.isub, 1) := by decide +kernel
theorem dX3_minute_204 : decode cX3_minute 204 = .ok (.iadd, 1) := by decide +kernel
theorem dX3_minute_205 : decode cX3_minute 205 = .ok (.iastore, 1) := by decide +kernel
theorem dX3_minute_206 : decode cX3_minute 206 = .ok (.aload_n 0, 1) := by decide +kernel
theorem dX3_minute_207 : decode cX3_minute 207 = .ok (.iload_n 2, 1) := by decide +kernel
theorem dX3_minute_208 : decode cX3_minute 208 = .ok (.aload_n 3, 1) := by decide +kernel
theorem dX3_minute_209 : decode cX3_minute 209 = .ok (.iconst 1, 1) := by decide +kernel
theorem dX3_minute_210 : decode cX3_minute 210 = .ok (.iaload, 1) := by decide +kernel
theorem dX3_minute_211 : decode cX3_minute 211 = .ok (.invokevirtual 61, 3) := by decide +kernel
theorem dX3_minute_214 : decode cX3_minute 214 = .ok (.iinc 1 1, 3) := by decide +kernel
theorem dX3_minute_217 : decode cX3_minute 217 = .ok (.goto 146, 3) := by decide +kernel
theorem dX3_minute_220 : decode cX3_minute 220 = .ok (.aload_n 0, 1) := by decide +kernel
theorem dX3_minute_221 : decode cX3_minute 221 = .ok (.getfield 47, 3) := by decide +kernel
theorem dX3_minute_224 : decode cX3_minute 224 = .ok (.aload_n 3, 1) := by decide +kernel
theorem dX3_minute_225 : decode cX3_minute 225 = .ok (.iconst 3, 1) := by decide +kernel
theorem dX3_minute_226 : decode cX3_minute 226 = .ok (.iaload, 1) := by decide +kernel
theorem dX3_minute_227 : decode cX3_minute 227 = .ok (.if_icmp .lt 136, 3) := by decide +kernel
theorem dX3_minute_230 : decode cX3_minute 230 = .ok (.aload_n 0, 1) := by decide +kernel
theorem dX3_minute_231 : decode cX3_minute 231 = .ok (.getfield 9, 3) := by decide +kernel
theorem dX3_minute_234 : decode cX3_minute 234 = .ok (.aload_n 3, 1) := by decide +kernel
theorem dX3_minute_235 : decode cX3_minute 235 = .ok (.iconst 0, 1) := by decide +kernel
theorem dX3_minute_236 : decode cX3_minute 236 = .ok (.iaload, 1) := by decide +kernel
theorem dX3_minute_237 : decode cX3_minute 237 = .ok (.aaload, 1) := by decide +kernel
theorem dX3_minute_238 : decode cX3_minute 238 = .ok (.aload_n 3, 1) := by decide +kernel
theorem dX3_minute_239 : decode cX3_minute 239 = .ok (.iconst 1, 1) := by decide +kernel
theorem dX3_minute_240 : decode cX3_minute 240 = .ok (.iaload, 1) := by decide +kernel
theorem dX3_minute_241 : decode cX3_minute 241 = .ok (.iaload, 1) := by decide +kernel
theorem dX3_minute_242 : decode cX3_minute 242 = .ok (.istore 4, 2) := by decide +kernel
theorem dX3_minute_244 : decode cX3_minute 244 = .ok (.aload_n 3, 1) := by decide +kernel
theorem dX3_minute_245 : decode cX3_minute 245 = .ok (.iconst 4, 1) := by decide +kernel
theorem dX3_minute_246 : decode cX3_minute 246 = .ok (.iconst 3, 1) := by decide +kernel
theorem dX3_minute_247 : decode cX3_minute 247 = .ok (.iastore, 1) := by decide +kernel
theorem dX3_minute_248 : decode cX3_minute 248 = .ok (.aload_n 3, 1) := by decide +kernel
theorem dX3_minute_249 : decode cX3_minute 249 = .ok (.bipush 6, 2) := by decide +kernel
theorem dX3_minute_251 : decode cX3_minute 251 = .ok (.aload_n 0, 1) := by decide +kernel
theorem dX3_minute_252 : decode cX3_minute 252 = .ok (.getfield 47, 3) := by decide +kernel
theorem dX3_minute_255 : decode cX3_minute 255 = .ok (.iastore, 1) := by decide +kernel
theorem dX3_minute_256 : decode cX3_minute 256 = .ok (.aload_n 0, 1) := by decide +kernel
theorem dX3_minute_257 : decode cX3_minute 257 = .ok (.getfield 47, 3) := by decide +kernel
theorem dX3_minute_260 : decode cX3_minute 260 = .ok (.aload_n 3, 1) := by decide +kernel
theorem dX3_minute_261 : decode cX3_minute 261 = .ok (.iconst 3, 1) := by decide +kernel
theorem dX3_minute_262 : decode cX3_minute 262 = .ok (.iaload, 1) := by decide +kernel
theorem dX3_minute_263 : decode cX3_minute 263 = .ok (.isub, 1) := by decide +kernel
theorem dX3_minute_264 : decode cX3_minute 264 = .ok (.istore 5, 2) := by decide +kernel
theorem dX3_minute_266 : decode cX3_minute 266 = .ok (.aload_n 3, 1) := by decide +kernel
theorem dX3_minute_267 : decode cX3_minute 267 = .ok (.bipush 9, 2) := by decide +kernel
theorem dX3_minute_269 : decode cX3_minute 269 = .ok (.aload_n 0, 1) := by decide +kernel
theorem dX3_minute_270 : decode cX3_minute 270 = .ok (.getfield 33, 3) := by decide +kernel
theorem dX3_minute_273 : decode cX3_minute 273 = .ok (.aload_n 0, 1) := by decide +kernel
theorem dX3_minute_274 : decode cX3_minute 274 = .ok (.getfield 37, 3) := by decide +kernel
theorem dX3_minute_277 : decode cX3_minute 277 = .ok (.iload 4, 2) := by decide +kernel
theorem dX3_minute_279 : decode cX3_minute 279 = .ok (.imul, 1) := by decide +kernel
theorem dX3_minute_280 : decode cX3_minute 280 = .ok (.iadd, 1) := by decide +kernel
theorem dX3_minute_281 : decode cX3_minute 281 = .ok (.iload 5, 2) := by decide +kernel
theorem dX3_minute_283 : decode cX3_minute 283 = .ok (.iconst 5, 1) := by decide +kernel
theorem dX3_minute_284 : decode cX3_minute 284 = .ok (.if_icmp .le 7, 3) := by decide +kernel
theorem dX3_minute_287 : decode cX3_minute 287 = .ok (.iconst 5, 1) := by decide +kernel
theorem dX3_minute_288 : decode cX3_minute 288 = .ok (.goto 5, 3) := by decide +kernel
theorem dX3_minute_291 : decode cX3_minute 291 = .ok (.iload 5, 2) := by decide +kernel
theorem dX3_minute_293 : decode cX3_minute 293 = .ok (.isub, 1) := by decide +kernel
theorem dX3_minute_294 : decode cX3_minute 294 = .ok (.aload_n 0, 1) := by decide +kernel
theorem dX3_minute_295 : decode cX3_minute 295 = .ok (.getfield 47, 3) := by decide +kernel
theorem dX3_minute_298 : decode cX3_minute 298 = .ok (.sipush 1440, 3) := by decide +kernel
theorem dX3_minute_301 : decode cX3_minute 301 = .ok (.irem, 1) := by decide +kernel
theorem dX3_minute_302 : decode cX3_minute 302 = .ok (.sipush 360, 3) := by decide +kernel
theorem dX3_minute_305 : decode cX3_minute 305 = .ok (.if_icmp .ge 20, 3) := by decide +kernel
theorem dX3_minute_308 : decode cX3_minute 308 = .ok (.aload_n 0, 1) := by decide +kernel
theorem dX3_minute_309 : decode cX3_minute 309 = .ok (.getfield 33, 3) := by decide +kernel
theorem dX3_minute_312 : decode cX3_minute 312 = .ok (.aload_n 0, 1) := by decide +kernel
theorem dX3_minute_313 : decode cX3_minute 313 = .ok (.getfield 37, 3) := by decide +kernel
theorem dX3_minute_316 : decode cX3_minute 316 = .ok (.iload 4, 2) := by decide +kernel
theorem dX3_minute_318 : decode cX3_minute 318 = .ok (.imul, 1) := by decide +kernel
theorem dX3_minute_319 : decode cX3_minute 319 = .ok (.iadd, 1) := by decide +kernel
theorem dX3_minute_320 : decode cX3_minute 320 = .ok (.iconst 2, 1) := by decide +kernel
theorem dX3_minute_321 : decode cX3_minute 321 = .ok (.idiv, 1) := by decide +kernel
theorem dX3_minute_322 : decode cX3_minute 322 = .ok (.goto 4, 3) := by decide +kernel
theorem dX3_minute_325 : decode cX3_minute 325 = .ok (.iconst 0, 1) := by decide +kernel
theorem dX3_minute_326 : decode cX3_minute 326 = .ok (.iadd, 1) := by decide +kernel
theorem dX3_minute_327 : decode cX3_minute 327 = .ok (.iastore, 1) := by decide +kernel
theorem dX3_minute_328 : decode cX3_minute 328 = .ok (.aload_n 0, 1) := by decide +kernel
theorem dX3_minute_329 : decode cX3_minute 329 = .ok (.getfield 16, 3) := by decide +kernel
theorem dX3_minute_332 : decode cX3_minute 332 = .ok (.iload_n 2, 1) := by decide +kernel
theorem dX3_minute_333 : decode cX3_minute 333 = .ok (.aaload, 1) := by decide +kernel
theorem dX3_minute_334 : decode cX3_minute 334 = .ok (.iconst 2, 1) := by decide +kernel
theorem dX3_minute_335 : decode cX3_minute 335 = .ok (.iconst 3, 1) := by decide +kernel
theorem dX3_minute_336 : decode cX3_minute 336 = .ok (.iastore, 1) := by decide +kernel
theorem dX3_minute_337 : decode cX3_minute 337 = .ok (.aload_n 0, 1) := by decide +kernel
theorem dX3_minute_338 : decode cX3_minute 338 = .ok (.getfield 16, 3) := by decide +kernel
theorem dX3_minute_341 : decode cX3_minute 341 = .ok (.iload_n 2, 1) := by decide +kernel
theorem dX3_minute_342 : decode cX3_minute 342 = .ok (.aaload, 1) := by decide +kernel
theorem dX3_minute_343 : decode cX3_minute 343 = .ok (.iconst 1, 1) := by decide +kernel
theorem dX3_minute_344 : decode cX3_minute 344 = .ok (.aload_n 3, 1) := by decide +kernel
theorem dX3_minute_345 : decode cX3_minute 345 = .ok (.iconst 0, 1) := by decide +kernel
theorem dX3_minute_346 : decode cX3_minute 346 = .ok (.iaload, 1) := by decide +kernel
theorem dX3_minute_347 : decode cX3_minute 347 = .ok (.iastore, 1) := by decide +kernel
theorem dX3_minute_348 : decode cX3_minute 348 = .ok (.aload_n 0, 1) := by decide +kernel
theorem dX3_minute_349 : decode cX3_minute 349 = .ok (.getfield 16, 3) := by decide +kernel
theorem dX3_minute_352 : decode cX3_minute 352 = .ok (.iload_n 2, 1) := by decide +kernel
theorem dX3_minute_353 : decode cX3_minute 353 = .ok (.aaload, 1) := by decide +kernel
theorem dX3_minute_354 : decode cX3_minute 354 = .ok (.iconst 4, 1) := by decide +kernel
theorem dX3_minute_355 : decode cX3_minute 355 = .ok (.aload_n 0, 1) := by decide +kernel
theorem dX3_minute_356 : decode cX3_minute 356 = .ok (.getfield 47, 3) := by decide +kernel
theorem dX3_minute_359 : decode cX3_minute 359 = .ok (.iload 4, 2) := by decide +kernel
theorem dX3_minute_361 : decode cX3_minute 361 = .ok (.iadd, 1) := by decide +kernel
theorem dX3_minute_362 : decode cX3_minute 362 = .ok (.iastore, 1) := by decide +kernel
theorem dX3_minute_363 : decode cX3_minute 363 = .ok (.iinc 2 1, 3) := by decide +kernel
theorem dX3_minute_366 : decode cX3_minute 366 = .ok (.goto (-283), 3) := by decide +kernel
theorem dX3_minute_369 : decode cX3_minute 369 = .ok (.aload_n 0, 1) := by decide +kernel
theorem dX3_minute_370 : decode cX3_minute 370 = .ok (.invokevirtual 74, 3) := by decide +kernel
theorem dX3_minute_373 : decode cX3_minute 373 = .ok (.iload_n 1, 1) := by decide +kernel
theorem dX3_minute_374 : decode cX3_minute 374 = .ok (.ireturn, 1) := by decide +kernel
theorem dJ6_bitCount_0f7a4_0 : decode cJ6_bitCount_0f7a4 0 = .ok (.iload_n 0, 1) := by decide +kernel
theorem dJ6_bitCount_0f7a4_1 : decode cJ6_bitCount_0f7a4 1 = .ok (.iload_n 0, 1) := by decide +kernel
theorem dJ6_bitCount_0f7a4_2 : decode cJ6_bitCount_0f7a4 2 = .ok (.iconst 1, 1) := by decide +kernel
theorem dJ6_bitCount_0f7a4_3 : decode cJ6_bitCount_0f7a4 3 = .ok (.iushr, 1) := by decide +kernel
theorem dJ6_bitCount_0f7a4_4 : decode cJ6_bitCount_0f7a4 4 = .ok (.ldc_w 265, 3) := by decide +kernel
theorem dJ6_bitCount_0f7a4_7 : decode cJ6_bitCount_0f7a4 7 = .ok (.iand, 1) := by decide +kernel
theorem dJ6_bitCount_0f7a4_8 : decode cJ6_bitCount_0f7a4 8 = .ok (.isub, 1) := by decide +kernel
theorem dJ6_bitCount_0f7a4_9 : decode cJ6_bitCount_0f7a4 9 = .ok (.istore_n 0, 1) := by decide +kernel
theorem dJ6_bitCount_0f7a4_10 : decode cJ6_bitCount_0f7a4 10 = .ok (.iload_n 0, 1) := by decide +kernel
theorem dJ6_bitCount_0f7a4_11 : decode cJ6_bitCount_0f7a4 11 = .ok (.ldc_w 266, 3) := by decide +kernel
theorem dJ6_bitCount_0f7a4_14 : decode cJ6_bitCount_0f7a4 14 = .ok (.iand, 1) := by decide +kernel
theorem dJ6_bitCount_0f7a4_15 : decode cJ6_bitCount_0f7a4 15 = .ok (.iload_n 0, 1) := by decide +kernel
theorem dJ6_bitCount_0f7a4_16 : decode cJ6_bitCount_0f7a4 16 = .ok (.iconst 2, 1) := by decide +kernel
theorem dJ6_bitCount_0f7a4_17 : decode cJ6_bitCount_0f7a4 17 = .ok (.iushr, 1) := by decide +kernel
theorem dJ6_bitCount_0f7a4_18 : decode cJ6_bitCount_0f7a4 18 = .ok (.ldc_w 266, 3) := by decide +kernel
theorem dJ6_bitCount_0f7a4_21 : decode cJ6_bitCount_0f7a4 21 = .ok (.iand, 1) := by decide +kernel
theorem dJ6_bitCount_0f7a4_22 : decode cJ6_bitCount_0f7a4 22 = .ok (.iadd, 1) := by decide +kernel
theorem dJ6_bitCount_0f7a4_23 : decode cJ6_bitCount_0f7a4 23 = .ok (.istore_n 0, 1) := by decide +kernel
theorem dJ6_bitCount_0f7a4_24 : decode cJ6_bitCount_0f7a4 24 = .ok (.iload_n 0, 1) := by decide +kernel
theorem dJ6_bitCount_0f7a4_25 : decode cJ6_bitCount_0f7a4 25 = .ok (.iload_n 0, 1) := by decide +kernel
theorem dJ6_bitCount_0f7a4_26 : decode cJ6_bitCount_0f7a4 26 = .ok (.iconst 4, 1) := by decide +kernel
theorem dJ6_bitCount_0f7a4_27 : decode cJ6_bitCount_0f7a4 27 = .ok (.iushr, 1) := by decide +kernel
theorem dJ6_bitCount_0f7a4_28 : decode cJ6_bitCount_0f7a4 28 = .ok (.iadd, 1) := by decide +kernel
theorem dJ6_bitCount_0f7a4_29 : decode cJ6_bitCount_0f7a4 29 = .ok (.ldc_w 267, 3) := by decide +kernel
theorem dJ6_bitCount_0f7a4_32 : decode cJ6_bitCount_0f7a4 32 = .ok (.iand, 1) := by decide +kernel
theorem dJ6_bitCount_0f7a4_33 : decode cJ6_bitCount_0f7a4 33 = .ok (.istore_n 0, 1) := by decide +kernel
theorem dJ6_bitCount_0f7a4_34 : decode cJ6_bitCount_0f7a4 34 = .ok (.iload_n 0, 1) := by decide +kernel
theorem dJ6_bitCount_0f7a4_35 : decode cJ6_bitCount_0f7a4 35 = .ok (.iload_n 0, 1) := by decide +kernel
theorem dJ6_bitCount_0f7a4_36 : decode cJ6_bitCount_0f7a4 36 = .ok (.bipush 8, 2) := by decide +kernel
theorem dJ6_bitCount_0f7a4_38 : decode cJ6_bitCount_0f7a4 38 = .ok (.iushr, 1) := by decide +kernel
theorem dJ6_bitCount_0f7a4_39 : decode cJ6_bitCount_0f7a4 39 = .ok (.iadd, 1) := by decide +kernel
theorem dJ6_bitCount_0f7a4_40 : decode cJ6_bitCount_0f7a4 40 = .ok (.istore_n 0, 1) := by decide +kernel
theorem dJ6_bitCount_0f7a4_41 : decode cJ6_bitCount_0f7a4 41 = .ok (.iload_n 0, 1) := by decide +kernel
theorem dJ6_bitCount_0f7a4_42 : decode cJ6_bitCount_0f7a4 42 = .ok (.iload_n 0, 1) := by decide +kernel
theorem dJ6_bitCount_0f7a4_43 : decode cJ6_bitCount_0f7a4 43 = .ok (.bipush 16, 2) := by decide +kernel
theorem dJ6_bitCount_0f7a4_45 : decode cJ6_bitCount_0f7a4 45 = .ok (.iushr, 1) := by decide +kernel
theorem dJ6_bitCount_0f7a4_46 : decode cJ6_bitCount_0f7a4 46 = .ok (.iadd, 1) := by decide +kernel
theorem dJ6_bitCount_0f7a4_47 : decode cJ6_bitCount_0f7a4 47 = .ok (.istore_n 0, 1) := by decide +kernel
theorem dJ6_bitCount_0f7a4_48 : decode cJ6_bitCount_0f7a4 48 = .ok (.iload_n 0, 1) := by decide +kernel
theorem dJ6_bitCount_0f7a4_49 : decode cJ6_bitCount_0f7a4 49 = .ok (.bipush 63, 2) := by decide +kernel
theorem dJ6_bitCount_0f7a4_51 : decode cJ6_bitCount_0f7a4 51 = .ok (.iand, 1) := by decide +kernel
theorem dJ6_bitCount_0f7a4_52 : decode cJ6_bitCount_0f7a4 52 = .ok (.ireturn, 1) := by decide +kernel
theorem dJ9_max_7cf53_0 : decode cJ9_max_7cf53 0 = .ok (.iload_n 0, 1) := by decide +kernel
theorem dJ9_max_7cf53_1 : decode cJ9_max_7cf53 1 = .ok (.iload_n 1, 1) := by decide +kernel
theorem dJ9_max_7cf53_2 : decode cJ9_max_7cf53 2 = .ok (.if_icmp .lt 7, 3) := by decide +kernel
theorem dJ9_max_7cf53_5 : decode cJ9_max_7cf53 5 = .ok (.iload_n 0, 1) := by decide +kernel
theorem dJ9_max_7cf53_6 : decode cJ9_max_7cf53 6 = .ok (.goto 4, 3) := by decide +kernel
theorem dJ9_max_7cf53_9 : decode cJ9_max_7cf53 9 = .ok (.iload_n 1, 1) := by decide +kernel
theorem dJ9_max_7cf53_10 : decode cJ9_max_7cf53 10 = .ok (.ireturn, 1) := by decide +kernel
theorem dJ9_min_7cf53_0 : decode cJ9_min_7cf53 0 = .ok (.iload_n 0, 1) := by decide +kernel
theorem dJ9_min_7cf53_1 : decode cJ9_min_7cf53 1 = .ok (.iload_n 1, 1) := by decide +kernel
theorem dJ9_min_7cf53_2 : decode cJ9_min_7cf53 2 = .ok (.if_icmp .gt 7, 3) := by decide +kernel
theorem dJ9_min_7cf53_5 : decode cJ9_min_7cf53 5 = .ok (.iload_n 0, 1) := by decide +kernel
theorem dJ9_min_7cf53_6 : decode cJ9_min_7cf53 6 = .ok (.goto 4, 3) := by decide +kernel
theorem dJ9_min_7cf53_9 : decode cJ9_min_7cf53 9 = .ok (.iload_n 1, 1) := by decide +kernel
theorem dJ9_min_7cf53_10 : decode cJ9_min_7cf53 10 = .ok (.ireturn, 1) := by decide +kernel
theorem dJxa1e45_init_da8c8_0 : decode cJxa1e45_init_da8c8 0 = .ok (.aload_n 0, 1) := by decide +kernel
theorem dJxa1e45_init_da8c8_1 : decode cJxa1e45_init_da8c8 1 = .ok (.invokespecial 1, 3) := by decide +kernel
theorem dJxa1e45_init_da8c8_4 : decode cJxa1e45_init_da8c8 4 = .ok (.return_, 1) := by decide +kernel
set_option maxRecDepth 20000 in
theorem ggJxc12de_init_da8c8_Jxa1e45_init_da8c8 : GoodIn wsJxc12de_init_da8c8 wsJxa1e45_init_da8c8 := goodIn_r _ [5, 6, 7, 8] (by decide +kernel) (by decide +kernel)
set_option maxRecDepth 20000 in
theorem gJxc12de_init_da8c8_Jxa1e45_init_da8c8 : GoodIn wsJxc12de_init_da8c8 (wsJxa1e45_init_da8c8) := ggJxc12de_init_da8c8_Jxa1e45_init_da8c8
theorem dJxc12de_init_da8c8_0 : decode cJxc12de_init_da8c8 0 = .ok (.aload_n 0, 1) := by decide +kernel
theorem dJxc12de_init_da8c8_1 : decode cJxc12de_init_da8c8 1 = .ok (.invokespecial 1, 3) := by decide +kernel
theorem dJxc12de_init_da8c8_4 : decode cJxc12de_init_da8c8 4 = .ok (.aload_n 0, 1) := by decide +kernel
theorem dJxc12de_init_da8c8_5 : decode cJxc12de_init_da8c8 5 = .ok (.iconst 0, 1) := by decide +kernel
theorem dJxc12de_init_da8c8_6 : decode cJxc12de_init_da8c8 6 = .ok (.putfield 7, 3) := by decide +kernel
theorem dJxc12de_init_da8c8_9 : decode cJxc12de_init_da8c8 9 = .ok (.return_, 1) := by decide +kernel
set_option maxRecDepth 20000 in
theorem ggJx4a65c_init_da8c8_Jxc12de_init_da8c8 : GoodIn wsJx4a65c_init_da8c8 wsJxc12de_init_da8c8 := goodIn_r _ [6, 7, 8, 9, 10, 11, 12, 13, 14, 15, 16, 17] (by decide +kernel) (by decide +kernel)
set_option maxRecDepth 20000 in
theorem gJx4a65c_init_da8c8_Jxc12de_init_da8c8 : GoodIn wsJx4a65c_init_da8c8 (wsJxc12de_init_da8c8) := ggJx4a65c_init_da8c8_Jxc12de_init_da8c8
theorem dJx4a65c_init_da8c8_0 : decode cJx4a65c_init_da8c8 0 = .ok (.aload_n 0, 1) := by decide +kernel
theorem dJx4a65c_init_da8c8_1 : decode cJx4a65c_init_da8c8 1 = .ok (.invokespecial 1, 3) := by decide +kernel
theorem dJx4a65c_init_da8c8_4 : decode cJx4a65c_init_da8c8 4 = .ok (.aload_n 0, 1) := by decide +kernel
theorem dJx4a65c_init_da8c8_5 : decode cJx4a65c_init_da8c8 5 = .ok (.getstatic 39, 3) := by decide +kernel
theorem dJx4a65c_init_da8c8_8 : decode cJx4a65c_init_da8c8 8 = .ok (.putfield 9, 3) := by decide +kernel
theorem dJx4a65c_init_da8c8_11 : decode cJx4a65c_init_da8c8 11 = .ok (.return_, 1) := by decide +kernel
set_option maxRecDepth 20000 in
theorem ggJx4a65c_grow_92f84_J8_newLength_cabcc : GoodIn wsJx4a65c_grow_92f84 wsJ8_newLength_cabcc := goodIn_r _ [11, 12, 4, 5, 6, 13, 14, 15, 10, 16] (by decide +kernel) (by decide +kernel)
set_option maxRecDepth 20000 in
theorem gJx4a65c_grow_92f84_J8_newLength_cabcc : GoodIn wsJx4a65c_grow_92f84 (va_wsS RJx4a65c 73 yJ8_newLength_cabcc wsJ8_newLength_cabcc) := goodIn_app (goodIn_of _ (by decide +kernel)) ggJx4a65c_grow_92f84_J8_newLength_cabcc
set_option maxRecDepth 20000 in
theorem ggJx4a65c_grow_92f84_J7_copyOf_1904c : GoodIn wsJx4a65c_grow_92f84 wsJ7_copyOf_1904c := goodIn_r _ [20, 21, 22, 23, 24, 25, 26, 19, 27, 28, 29, 30, 31, 5, 32, 33, 34, 35, 36] (by decide +kernel) (by decide +kernel)
set_option maxRecDepth 20000 in
theorem gJx4a65c_grow_92f84_J7_copyOf_1904c : GoodIn wsJx4a65c_grow_92f84 (va_wsS RJx4a65c 66 yJ7_copyOf_1904c wsJ7_copyOf_1904c) := goodIn_app (goodIn_of _ (by decide +kernel)) ggJx4a65c_grow_92f84_J7_copyOf_1904c
theorem dJx4a65c_grow_92f84_0 : decode cJx4a65c_grow_92f84 0 = .ok (.aload_n 0, 1) := by decide +kernel
theorem dJx4a65c_grow_92f84_1 : decode cJx4a65c_grow_92f84 1 = .ok (.getfield 9, 3) := by decide +kernel
theorem dJx4a65c_grow_92f84_4 : decode cJx4a65c_grow_92f84 4 = .ok (.arraylength, 1) := by decide +kernel
theorem dJx4a65c_grow_92f84_5 : decode cJx4a65c_grow_92f84 5 = .ok (.istore_n 2, 1) := by decide +kernel
theorem dJx4a65c_grow_92f84_6 : decode cJx4a65c_grow_92f84 6 = .ok (.iload_n 2, 1) := by decide +kernel
theorem dJx4a65c_grow_92f84_7 : decode cJx4a65c_grow_92f84 7 = .ok (.ifCond .gt 13, 3) := by decide +kernel
theorem dJx4a65c_grow_92f84_10 : decode cJx4a65c_grow_92f84 10 = .ok (.aload_n 0, 1) := by decide +kernel
theorem dJx4a65c_grow_92f84_11 : decode cJx4a65c_grow_92f84 11 = .ok (.getfield 9, 3) := by decide +kernel
theorem dJx4a65c_grow_92f84_14 : decode cJx4a65c_grow_92f84 14 = .ok (.getstatic 39, 3) := by decide +kernel
theorem dJx4a65c_grow_92f84_17 : decode cJx4a65c_grow_92f84 17 = .ok (.if_acmp .eq 28, 3) := by decide +kernel
theorem dJx4a65c_grow_92f84_20 : decode cJx4a65c_grow_92f84 20 = .ok (.iload_n 2, 1) := by decide +kernel
theorem dJx4a65c_grow_92f84_21 : decode cJx4a65c_grow_92f84 21 = .ok (.iload_n 1, 1) := by decide +kernel
theorem dJx4a65c_grow_92f84_22 : decode cJx4a65c_grow_92f84 22 = .ok (.iload_n 2, 1) := by decide +kernel
theorem dJx4a65c_grow_92f84_23 : decode cJx4a65c_grow_92f84 23 = .ok (.isub, 1) := by decide +kernel
theorem dJx4a65c_grow_92f84_24 : decode cJx4a65c_grow_92f84 24 = .ok (.iload_n 2, 1) := by decide +kernel
theorem dJx4a65c_grow_92f84_25 : decode cJx4a65c_grow_92f84 25 = .ok (.iconst 1, 1) := by decide +kernel
theorem dJx4a65c_grow_92f84_26 : decode cJx4a65c_grow_92f84 26 = .ok (.ishr, 1) := by decide +kernel
theorem dJx4a65c_grow_92f84_27 : decode cJx4a65c_grow_92f84 27 = .ok (.invokestatic 73, 3) := by decide +kernel
theorem dJx4a65c_grow_92f84_30 : decode cJx4a65c_grow_92f84 30 = .ok (.istore_n 3, 1) := by decide +kernel
theorem dJx4a65c_grow_92f84_31 : decode cJx4a65c_grow_92f84 31 = .ok (.aload_n 0, 1) := by decide +kernel
theorem dJx4a65c_grow_92f84_32 : decode cJx4a65c_grow_92f84 32 = .ok (.aload_n 0, 1) := by decide +kernel
theorem dJx4a65c_grow_92f84_33 : decode cJx4a65c_grow_92f84 33 = .ok (.getfield 9, 3) := by decide +kernel
theorem dJx4a65c_grow_92f84_36 : decode cJx4a65c_grow_92f84 36 = .ok (.iload_n 3, 1) := by decide +kernel
theorem dJx4a65c_grow_92f84_37 : decode cJx4a65c_grow_92f84 37 = .ok (.invokestatic 66, 3) := by decide +kernel
theorem dJx4a65c_grow_92f84_40 : decode cJx4a65c_grow_92f84 40 = .ok (.dup_x1, 1) := by decide +kernel
theorem dJx4a65c_grow_92f84_41 : decode cJx4a65c_grow_92f84 41 = .ok (.putfield 9, 3) := by decide +kernel
theorem dJx4a65c_grow_92f84_44 : decode cJx4a65c_grow_92f84 44 = .ok (.areturn, 1) := by decide +kernel
theorem dJx4a65c_grow_92f84_45 : decode cJx4a65c_grow_92f84 45 = .ok (.aload_n 0, 1) := by decide +kernel
theorem dJx4a65c_grow_92f84_46 : decode cJx4a65c_grow_92f84 46 = .ok (.bipush 10, 2) := by decide +kernel
theorem dJx4a65c_grow_92f84_48 : decode cJx4a65c_grow_92f84 48 = .ok (.iload_n 1, 1) := by decide +kernel
theorem dJx4a65c_grow_92f84_49 : decode cJx4a65c_grow_92f84 49 = .ok (.invokestatic 79, 3) := by decide +kernel
theorem dJx4a65c_grow_92f84_52 : decode cJx4a65c_grow_92f84 52 = .ok (.anewarray 7, 3) := by decide +kernel
theorem dJx4a65c_grow_92f84_55 : decode cJx4a65c_grow_92f84 55 = .ok (.dup_x1, 1) := by decide +kernel
theorem dJx4a65c_grow_92f84_56 : decode cJx4a65c_grow_92f84 56 = .ok (.putfield 9, 3) := by decide +kernel
theorem dJx4a65c_grow_92f84_59 : decode cJx4a65c_grow_92f84 59 = .ok (.areturn, 1) := by decide +kernel
set_option maxRecDepth 20000 in
theorem ggJx4a65c_grow_d5877_Jx4a65c_grow_92f84 : GoodIn wsJx4a65c_grow_d5877 wsJx4a65c_grow_92f84 := goodIn_r _ [6, 7, 8, 9, 10, 11, 12, 13, 14, 15, 16, 17, 18, 19, 20, 21, 22, 23, 24, 25, 26, 27, 28, 29, 30, 31, 32, 33, 34, 35, 36, 37, 38, 39, 40, 41, 42, 43, 44, 45] (by decide +kernel) (by decide +kernel)
set_option maxRecDepth 20000 in
theorem gJx4a65c_grow_d5877_Jx4a65c_grow_92f84 : GoodIn wsJx4a65c_grow_d5877 (wsV RJx4a65c 69 RJx4a65c yJx4a65c_grow_92f84 wsJx4a65c_grow_92f84) := goodIn_app (goodIn_of _ (by decide +kernel)) ggJx4a65c_grow_d5877_Jx4a65c_grow_92f84
theorem dJx4a65c_grow_d5877_0 : decode cJx4a65c_grow_d5877 0 = .ok (.aload_n 0, 1) := by decide +kernel
theorem dJx4a65c_grow_d5877_1 : decode cJx4a65c_grow_d5877 1 = .ok (.aload_n 0, 1) := by decide +kernel
theorem dJx4a65c_grow_d5877_2 : decode cJx4a65c_grow_d5877 2 = .ok (.getfield 48, 3) := by decide +kernel
theorem dJx4a65c_grow_d5877_5 : decode cJx4a65c_grow_d5877 5 = .ok (.iconst 1, 1) := by decide +kernel
theorem dJx4a65c_grow_d5877_6 : decode cJx4a65c_grow_d5877 6 = .ok (.iadd, 1) := by decide +kernel
theorem dJx4a65c_grow_d5877_7 : decode cJx4a65c_grow_d5877 7 = .ok (.invokevirtual 69, 3) := by decide +kernel
theorem dJx4a65c_grow_d5877_10 : decode cJx4a65c_grow_d5877 10 = .ok (.areturn, 1) := by decide +kernel
theorem dJx4a65c_size_8abf5_0 : decode cJx4a65c_size_8abf5 0 = .ok (.aload_n 0, 1) := by decide +kernel
theorem dJx4a65c_size_8abf5_1 : decode cJx4a65c_size_8abf5 1 = .ok (.getfield 48, 3) := by decide +kernel
theorem dJx4a65c_size_8abf5_4 : decode cJx4a65c_size_8abf5 4 = .ok (.ireturn, 1) := by decide +kernel
theorem dJx4a65c_elementData_915e3_0 : decode cJx4a65c_elementData_915e3 0 = .ok (.aload_n 0, 1) := by decide +kernel
theorem dJx4a65c_elementData_915e3_1 : decode cJx4a65c_elementData_915e3 1 = .ok (.getfield 9, 3) := by decide +kernel
theorem dJx4a65c_elementData_915e3_4 : decode cJx4a65c_elementData_915e3 4 = .ok (.iload_n 1, 1) := by decide +kernel
theorem dJx4a65c_elementData_915e3_5 : decode cJx4a65c_elementData_915e3 5 = .ok (.aaload, 1) := by decide +kernel
theorem dJx4a65c_elementData_915e3_6 : decode cJx4a65c_elementData_915e3 6 = .ok (.areturn, 1) := by decide +kernel
set_option maxRecDepth 20000 in
theorem ggJx4a65c_get_915e3_J15_checkIndex_7cf53 : GoodIn wsJx4a65c_get_915e3 wsJ15_checkIndex_7cf53 := goodIn_r _ [5, 6, 7, 8, 9] (by decide +kernel) (by decide +kernel)
set_option maxRecDepth 20000 in
theorem gJx4a65c_get_915e3_J15_checkIndex_7cf53 : GoodIn wsJx4a65c_get_915e3 (va_wsS RJx4a65c 118 yJ15_checkIndex_7cf53 wsJ15_checkIndex_7cf53) := goodIn_app (goodIn_of _ (by decide +kernel)) ggJx4a65c_get_915e3_J15_checkIndex_7cf53
set_option maxRecDepth 20000 in
theorem ggJx4a65c_get_915e3_Jx4a65c_elementData_915e3 : GoodIn wsJx4a65c_get_915e3 wsJx4a65c_elementData_915e3 := goodIn_r _ [14, 15, 16, 17, 18] (by decide +kernel) (by decide +kernel)
set_option maxRecDepth 20000 in
theorem gJx4a65c_get_915e3_Jx4a65c_elementData_915e3 : GoodIn wsJx4a65c_get_915e3 (wsV RJx4a65c 123 RJx4a65c yJx4a65c_elementData_915e3 wsJx4a65c_elementData_915e3) := goodIn_app (goodIn_of _ (by decide +kernel)) ggJx4a65c_get_915e3_Jx4a65c_elementData_915e3
theorem dJx4a65c_get_915e3_0 : decode cJx4a65c_get_915e3 0 = .ok (.iload_n 1, 1) := by decide +kernel
theorem dJx4a65c_get_915e3_1 : decode cJx4a65c_get_915e3 1 = .ok (.aload_n 0, 1) := by decide +kernel
theorem dJx4a65c_get_915e3_2 : decode cJx4a65c_get_915e3 2 = .ok (.getfield 48, 3) := by decide +kernel
theorem dJx4a65c_get_915e3_5 : decode cJx4a65c_get_915e3 5 = .ok (.invokestatic 118, 3) := by decide +kernel
theorem dJx4a65c_get_915e3_8 : decode cJx4a65c_get_915e3 8 = .ok (.pop, 1) := by decide +kernel
theorem dJx4a65c_get_915e3_9 : decode cJx4a65c_get_915e3 9 = .ok (.aload_n 0, 1) := by decide +kernel
theorem dJx4a65c_get_915e3_10 : decode cJx4a65c_get_915e3 10 = .ok (.iload_n 1, 1) := by decide +kernel
theorem dJx4a65c_get_915e3_11 : decode cJx4a65c_get_915e3 11 = .ok (.invokevirtual 123, 3) := by decide +kernel
theorem dJx4a65c_get_915e3_14 : decode cJx4a65c_get_915e3 14 = .ok (.areturn, 1) := by decide +kernel
set_option maxRecDepth 20000 in
theorem ggJx4a65c_add_72be8_Jx4a65c_grow_d5877 : GoodIn wsJx4a65c_add_72be8 wsJx4a65c_grow_d5877 := goodIn_r _ [6, 1, 7, 8, 9, 5, 10, 11, 12, 13, 14, 15, 16, 17, 18, 19, 20, 21, 22, 23, 24, 25, 26, 27, 28, 29, 30, 31, 32, 33, 34, 35, 36, 37, 38, 39, 40, 41, 42, 43, 44, 45, 46, 47, 48, 49] (by decide +kernel) (by decide +kernel)
set_option maxRecDepth 20000 in
theorem gJx4a65c_add_72be8_Jx4a65c_grow_d5877 : GoodIn wsJx4a65c_add_72be8 (wsV RJx4a65c 129 RJx4a65c yJx4a65c_grow_d5877 wsJx4a65c_grow_d5877) := goodIn_app (goodIn_of _ (by decide +kernel)) ggJx4a65c_add_72be8_Jx4a65c_grow_d5877
theorem dJx4a65c_add_72be8_0 : decode cJx4a65c_add_72be8 0 = .ok (.iload_n 3, 1) := by decide +kernel
theorem dJx4a65c_add_72be8_1 : decode cJx4a65c_add_72be8 1 = .ok (.aload_n 2, 1) := by decide +kernel
theorem dJx4a65c_add_72be8_2 : decode cJx4a65c_add_72be8 2 = .ok (.arraylength, 1) := by decide +kernel
theorem dJx4a65c_add_72be8_3 : decode cJx4a65c_add_72be8 3 = .ok (.if_icmp .ne 8, 3) := by decide +kernel
theorem dJx4a65c_add_72be8_6 : decode cJx4a65c_add_72be8 6 = .ok (.aload_n 0, 1) := by decide +kernel
theorem dJx4a65c_add_72be8_7 : decode cJx4a65c_add_72be8 7 = .ok (.invokevirtual 129, 3) := by decide +kernel
theorem dJx4a65c_add_72be8_10 : decode cJx4a65c_add_72be8 10 = .ok (.astore_n 2, 1) := by decide +kernel
theorem dJx4a65c_add_72be8_11 : decode cJx4a65c_add_72be8 11 = .ok (.aload_n 2, 1) := by decide +kernel
theorem dJx4a65c_add_72be8_12 : decode cJx4a65c_add_72be8 12 = .ok (.iload_n 3, 1) := by decide +kernel
theorem dJx4a65c_add_72be8_13 : decode cJx4a65c_add_72be8 13 = .ok (.aload_n 1, 1) := by decide +kernel
theorem dJx4a65c_add_72be8_14 : decode cJx4a65c_add_72be8 14 = .ok (.aastore, 1) := by decide +kernel
theorem dJx4a65c_add_72be8_15 : decode cJx4a65c_add_72be8 15 = .ok (.aload_n 0, 1) := by decide +kernel
theorem dJx4a65c_add_72be8_16 : decode cJx4a65c_add_72be8 16 = .ok (.iload_n 3, 1) := by decide +kernel
theorem dJx4a65c_add_72be8_17 : decode cJx4a65c_add_72be8 17 = .ok (.iconst 1, 1) := by decide +kernel
theorem dJx4a65c_add_72be8_18 : decode cJx4a65c_add_72be8 18 = .ok (.iadd, 1) := by decide +kernel
theorem dJx4a65c_add_72be8_19 : decode cJx4a65c_add_72be8 19 = .ok (.putfield 48, 3) := by decide +kernel
theorem dJx4a65c_add_72be8_22 : decode cJx4a65c_add_72be8 22 = .ok (.return_, 1) := by decide +kernel
set_option maxRecDepth 20000 in
theorem ggJx4a65c_add_9ea2d_Jx4a65c_add_72be8 : GoodIn wsJx4a65c_add_9ea2d wsJx4a65c_add_72be8 := goodIn_r _ [9, 4, 10, 11, 12, 8, 13, 14, 15, 16, 17, 3, 18, 19, 20, 21, 22, 23, 24, 25, 26, 27, 28, 29, 30, 31, 32, 33, 34, 35, 36, 37, 38, 39, 40, 41, 42, 43, 44, 45, 46, 47, 48, 49, 50, 51, 52, 53, 54, 55] (by decide +kernel) (by decide +kernel)
set_option maxRecDepth 20000 in
theorem gJx4a65c_add_9ea2d_Jx4a65c_add_72be8 : GoodIn wsJx4a65c_add_9ea2d (wsV RJx4a65c 131 RJx4a65c yJx4a65c_add_72be8 wsJx4a65c_add_72be8) := goodIn_app (goodIn_of _ (by decide +kernel)) ggJx4a65c_add_9ea2d_Jx4a65c_add_72be8
theorem dJx4a65c_add_9ea2d_0 : decode cJx4a65c_add_9ea2d 0 = .ok (.aload_n 0, 1) := by decide +kernel
theorem dJx4a65c_add_9ea2d_1 : decode cJx4a65c_add_9ea2d 1 = .ok (.dup, 1) := by decide +kernel
theorem dJx4a65c_add_9ea2d_2 : decode cJx4a65c_add_9ea2d 2 = .ok (.getfield 63, 3) := by decide +kernel
theorem dJx4a65c_add_9ea2d_5 : decode cJx4a65c_add_9ea2d 5 = .ok (.iconst 1, 1) := by decide +kernel
theorem dJx4a65c_add_9ea2d_6 : decode cJx4a65c_add_9ea2d 6 = .ok (.iadd, 1) := by decide +kernel
theorem dJx4a65c_add_9ea2d_7 : decode cJx4a65c_add_9ea2d 7 = .ok (.putfield 63, 3) := by decide +kernel
theorem dJx4a65c_add_9ea2d_10 : decode cJx4a65c_add_9ea2d 10 = .ok (.aload_n 0, 1) := by decide +kernel
theorem dJx4a65c_add_9ea2d_11 : decode cJx4a65c_add_9ea2d 11 = .ok (.aload_n 1, 1) := by decide +kernel
theorem dJx4a65c_add_9ea2d_12 : decode cJx4a65c_add_9ea2d 12 = .ok (.aload_n 0, 1) := by decide +kernel
theorem dJx4a65c_add_9ea2d_13 : decode cJx4a65c_add_9ea2d 13 = .ok (.getfield 9, 3) := by decide +kernel
theorem dJx4a65c_add_9ea2d_16 : decode cJx4a65c_add_9ea2d 16 = .ok (.aload_n 0, 1) := by decide +kernel
theorem dJx4a65c_add_9ea2d_17 : decode cJx4a65c_add_9ea2d 17 = .ok (.getfield 48, 3) := by decide +kernel
theorem dJx4a65c_add_9ea2d_20 : decode cJx4a65c_add_9ea2d 20 = .ok (.invokevirtual 131, 3) := by decide +kernel
theorem dJx4a65c_add_9ea2d_23 : decode cJx4a65c_add_9ea2d 23 = .ok (.iconst 1, 1) := by decide +kernel
theorem dJx4a65c_add_9ea2d_24 : decode cJx4a65c_add_9ea2d 24 = .ok (.ireturn, 1) := by decide +kernel
set_option maxRecDepth 20000 in
theorem ggJ7_copyOf_1904c_J7_copyOf_6403c : GoodIn wsJ7_copyOf_1904c wsJ7_copyOf_6403c := goodIn_r _ [8, 9, 10, 11, 12, 13, 14, 15, 16, 17, 18] (by decide +kernel) (by decide +kernel)
set_option maxRecDepth 20000 in
theorem gJ7_copyOf_1904c_J7_copyOf_6403c : GoodIn wsJ7_copyOf_1904c (va_wsS RJ7 300 yJ7_copyOf_6403c wsJ7_copyOf_6403c) := goodIn_app (goodIn_of _ (by decide +kernel)) ggJ7_copyOf_1904c_J7_copyOf_6403c
theorem dJ7_copyOf_1904c_0 : decode cJ7_copyOf_1904c 0 = .ok (.aload_n 0, 1) := by decide +kernel
theorem dJ7_copyOf_1904c_1 : decode cJ7_copyOf_1904c 1 = .ok (.iload_n 1, 1) := by decide +kernel
theorem dJ7_copyOf_1904c_2 : decode cJ7_copyOf_1904c 2 = .ok (.aload_n 0, 1) := by decide +kernel
theorem dJ7_copyOf_1904c_3 : decode cJ7_copyOf_1904c 3 = .ok (.invokevirtual 86, 3) := by decide +kernel
theorem dJ7_copyOf_1904c_6 : decode cJ7_copyOf_1904c 6 = .ok (.invokestatic 300, 3) := by decide +kernel
theorem dJ7_copyOf_1904c_9 : decode cJ7_copyOf_1904c 9 = .ok (.areturn, 1) := by decide +kernel
theorem dJ7_copyOf_6403c_0 : decode cJ7_copyOf_6403c 0 = .ok (.aload_n 2, 1) := by decide +kernel
theorem dJ7_copyOf_6403c_1 : decode cJ7_copyOf_6403c 1 = .ok (.ldc 110, 2) := by decide +kernel
theorem dJ7_copyOf_6403c_3 : decode cJ7_copyOf_6403c 3 = .ok (.if_acmp .ne 10, 3) := by decide +kernel
theorem dJ7_copyOf_6403c_6 : decode cJ7_copyOf_6403c 6 = .ok (.iload_n 1, 1) := by decide +kernel
theorem dJ7_copyOf_6403c_7 : decode cJ7_copyOf_6403c 7 = .ok (.anewarray 2, 3) := by decide +kernel
theorem dJ7_copyOf_6403c_10 : decode cJ7_copyOf_6403c 10 = .ok (.goto 14, 3) := by decide +kernel
theorem dJ7_copyOf_6403c_13 : decode cJ7_copyOf_6403c 13 = .ok (.aload_n 2, 1) := by decide +kernel
theorem dJ7_copyOf_6403c_14 : decode cJ7_copyOf_6403c 14 = .ok (.invokevirtual 90, 3) := by decide +kernel
theorem dJ7_copyOf_6403c_17 : decode cJ7_copyOf_6403c 17 = .ok (.iload_n 1, 1) := by decide +kernel
theorem dJ7_copyOf_6403c_18 : decode cJ7_copyOf_6403c 18 = .ok (.invokestatic 95, 3) := by decide +kernel
theorem dJ7_copyOf_6403c_21 : decode cJ7_copyOf_6403c 21 = .ok (.checkcast 110, 3) := by decide +kernel
theorem dJ7_copyOf_6403c_24 : decode cJ7_copyOf_6403c 24 = .ok (.astore_n 3, 1) := by decide +kernel
theorem dJ7_copyOf_6403c_25 : decode cJ7_copyOf_6403c 25 = .ok (.aload_n 0, 1) := by decide +kernel
theorem dJ7_copyOf_6403c_26 : decode cJ7_copyOf_6403c 26 = .ok (.iconst 0, 1) := by decide +kernel
theorem dJ7_copyOf_6403c_27 : decode cJ7_copyOf_6403c 27 = .ok (.aload_n 3, 1) := by decide +kernel
theorem dJ7_copyOf_6403c_28 : decode cJ7_copyOf_6403c 28 = .ok (.iconst 0, 1) := by decide +kernel
theorem dJ7_copyOf_6403c_29 : decode cJ7_copyOf_6403c 29 = .ok (.aload_n 0, 1) := by decide +kernel
theorem dJ7_copyOf_6403c_30 : decode cJ7_copyOf_6403c 30 = .ok (.arraylength, 1) := by decide +kernel
theorem dJ7_copyOf_6403c_31 : decode cJ7_copyOf_6403c 31 = .ok (.iload_n 1, 1) := by decide +kernel
theorem dJ7_copyOf_6403c_32 : decode cJ7_copyOf_6403c 32 = .ok (.invokestatic 304, 3) := by decide +kernel
theorem dJ7_copyOf_6403c_35 : decode cJ7_copyOf_6403c 35 = .ok (.invokestatic 150, 3) := by decide +kernel
theorem dJ7_copyOf_6403c_38 : decode cJ7_copyOf_6403c 38 = .ok (.aload_n 3, 1) := by decide +kernel
theorem dJ7_copyOf_6403c_39 : decode cJ7_copyOf_6403c 39 = .ok (.areturn, 1) := by decide +kernel
set_option maxRecDepth 20000 in
theorem ggJ15_checkIndex_7cf53_J3_checkIndex_8e157 : GoodIn wsJ15_checkIndex_7cf53 wsJ3_checkIndex_8e157 := goodIn_r _ [4] (by decide +kernel) (by decide +kernel)
set_option maxRecDepth 20000 in
theorem gJ15_checkIndex_7cf53_J3_checkIndex_8e157 : GoodIn wsJ15_checkIndex_7cf53 (va_wsS RJ15 105 yJ3_checkIndex_8e157 wsJ3_checkIndex_8e157) := goodIn_app (goodIn_of _ (by decide +kernel)) ggJ15_checkIndex_7cf53_J3_checkIndex_8e157
theorem dJ15_checkIndex_7cf53_0 : decode cJ15_checkIndex_7cf53 0 = .ok (.iload_n 0, 1) := by decide +kernel
theorem dJ15_checkIndex_7cf53_1 : decode cJ15_checkIndex_7cf53 1 = .ok (.iload_n 1, 1) := by decide +kernel
theorem dJ15_checkIndex_7cf53_2 : decode cJ15_checkIndex_7cf53 2 = .ok (.aconst_null, 1) := by decide +kernel
theorem dJ15_checkIndex_7cf53_3 : decode cJ15_checkIndex_7cf53 3 = .ok (.invokestatic 105, 3) := by decide +kernel
theorem dJ15_checkIndex_7cf53_6 : decode cJ15_checkIndex_7cf53 6 = .ok (.ireturn, 1) := by decide +kernel
set_option maxRecDepth 20000 in
theorem ggJ8_newLength_cabcc_J8_hugeLength_7cf53 : GoodIn wsJ8_newLength_cabcc wsJ8_hugeLength_7cf53 := goodIn_r _ [9, 5] (by decide +kernel) (by decide +kernel)
set_option maxRecDepth 20000 in
theorem gJ8_newLength_cabcc_J8_hugeLength_7cf53 : GoodIn wsJ8_newLength_cabcc (va_wsS RJ8 201 yJ8_hugeLength_7cf53 wsJ8_hugeLength_7cf53) := goodIn_app (goodIn_of _ (by decide +kernel)) ggJ8_newLength_cabcc_J8_hugeLength_7cf53
theorem dJ8_newLength_cabcc_0 : decode cJ8_newLength_cabcc 0 = .ok (.iload_n 0, 1) := by decide +kernel
theorem dJ8_newLength_cabcc_1 : decode cJ8_newLength_cabcc 1 = .ok (.iload_n 1, 1) := by decide +kernel
theorem dJ8_newLength_cabcc_2 : decode cJ8_newLength_cabcc 2 = .ok (.iload_n 2, 1) := by decide +kernel
theorem dJ8_newLength_cabcc_3 : decode cJ8_newLength_cabcc 3 = .ok (.invokestatic 194, 3) := by decide +kernel
theorem dJ8_newLength_cabcc_6 : decode cJ8_newLength_cabcc 6 = .ok (.iadd, 1) := by decide +kernel
theorem dJ8_newLength_cabcc_7 : decode cJ8_newLength_cabcc 7 = .ok (.istore_n 3, 1) := by decide +kernel
theorem dJ8_newLength_cabcc_8 : decode cJ8_newLength_cabcc 8 = .ok (.iconst 0, 1) := by decide +kernel
theorem dJ8_newLength_cabcc_9 : decode cJ8_newLength_cabcc 9 = .ok (.iload_n 3, 1) := by decide +kernel
theorem dJ8_newLength_cabcc_10 : decode cJ8_newLength_cabcc 10 = .ok (.if_icmp .ge 11, 3) := by decide +kernel
theorem dJ8_newLength_cabcc_13 : decode cJ8_newLength_cabcc 13 = .ok (.iload_n 3, 1) := by decide +kernel
theorem dJ8_newLength_cabcc_14 : decode cJ8_newLength_cabcc 14 = .ok (.ldc 200, 2) := by decide +kernel
theorem dJ8_newLength_cabcc_16 : decode cJ8_newLength_cabcc 16 = .ok (.if_icmp .gt 5, 3) := by decide +kernel
theorem dJ8_newLength_cabcc_19 : decode cJ8_newLength_cabcc 19 = .ok (.iload_n 3, 1) := by decide +kernel
theorem dJ8_newLength_cabcc_20 : decode cJ8_newLength_cabcc 20 = .ok (.ireturn, 1) := by decide +kernel
theorem dJ8_newLength_cabcc_21 : decode cJ8_newLength_cabcc 21 = .ok (.iload_n 0, 1) := by decide +kernel
theorem dJ8_newLength_cabcc_22 : decode cJ8_newLength_cabcc 22 = .ok (.iload_n 1, 1) := by decide +kernel
theorem dJ8_newLength_cabcc_23 : decode cJ8_newLength_cabcc 23 = .ok (.invokestatic 201, 3) := by decide +kernel
theorem dJ8_newLength_cabcc_26 : decode cJ8_newLength_cabcc 26 = .ok (.ireturn, 1) := by decide +kernel
theorem dJ8_hugeLength_7cf53_0 : decode cJ8_hugeLength_7cf53 0 = .ok (.iload_n 0, 1) := by decide +kernel
theorem dJ8_hugeLength_7cf53_1 : decode cJ8_hugeLength_7cf53 1 = .ok (.iload_n 1, 1) := by decide +kernel
theorem dJ8_hugeLength_7cf53_2 : decode cJ8_hugeLength_7cf53 2 = .ok (.iadd, 1) := by decide +kernel
theorem dJ8_hugeLength_7cf53_3 : decode cJ8_hugeLength_7cf53 3 = .ok (.istore_n 2, 1) := by decide +kernel
theorem dJ8_hugeLength_7cf53_4 : decode cJ8_hugeLength_7cf53 4 = .ok (.iload_n 2, 1) := by decide +kernel
theorem dJ8_hugeLength_7cf53_5 : decode cJ8_hugeLength_7cf53 5 = .ok (.ifCond .ge 44, 3) := by decide +kernel
theorem dJ8_hugeLength_7cf53_8 : decode cJ8_hugeLength_7cf53 8 = .ok (.new 204, 3) := by decide +kernel
theorem dJ8_hugeLength_7cf53_11 : decode cJ8_hugeLength_7cf53 11 = .ok (.dup, 1) := by decide +kernel
theorem dJ8_hugeLength_7cf53_12 : decode cJ8_hugeLength_7cf53 12 = .ok (.new 89, 3) := by decide +kernel
theorem dJ8_hugeLength_7cf53_15 : decode cJ8_hugeLength_7cf53 15 = .ok (.dup, 1) := by decide +kernel
theorem dJ8_hugeLength_7cf53_16 : decode cJ8_hugeLength_7cf53 16 = .ok (.invokespecial 91, 3) := by decide +kernel
theorem dJ8_hugeLength_7cf53_19 : decode cJ8_hugeLength_7cf53 19 = .ok (.ldc 206, 2) := by decide +kernel
theorem dJ8_hugeLength_7cf53_21 : decode cJ8_hugeLength_7cf53 21 = .ok (.invokevirtual 94, 3) := by decide +kernel
theorem dJ8_hugeLength_7cf53_24 : decode cJ8_hugeLength_7cf53 24 = .ok (.iload_n 0, 1) := by decide +kernel
theorem dJ8_hugeLength_7cf53_25 : decode cJ8_hugeLength_7cf53 25 = .ok (.invokevirtual 98, 3) := by decide +kernel
theorem dJ8_hugeLength_7cf53_28 : decode cJ8_hugeLength_7cf53 28 = .ok (.ldc 208, 2) := by decide +kernel
theorem dJ8_hugeLength_7cf53_30 : decode cJ8_hugeLength_7cf53 30 = .ok (.invokevirtual 94, 3) := by decide +kernel
theorem dJ8_hugeLength_7cf53_33 : decode cJ8_hugeLength_7cf53 33 = .ok (.iload_n 1, 1) := by decide +kernel
theorem dJ8_hugeLength_7cf53_34 : decode cJ8_hugeLength_7cf53 34 = .ok (.invokevirtual 98, 3) := by decide +kernel
theorem dJ8_hugeLength_7cf53_37 : decode cJ8_hugeLength_7cf53 37 = .ok (.ldc 210, 2) := by decide +kernel
theorem dJ8_hugeLength_7cf53_39 : decode cJ8_hugeLength_7cf53 39 = .ok (.invokevirtual 94, 3) := by decide +kernel
theorem dJ8_hugeLength_7cf53_42 : decode cJ8_hugeLength_7cf53 42 = .ok (.invokevirtual 101, 3) := by decide +kernel
theorem dJ8_hugeLength_7cf53_45 : decode cJ8_hugeLength_7cf53 45 = .ok (.invokespecial 212, 3) := by decide +kernel
theorem dJ8_hugeLength_7cf53_48 : decode cJ8_hugeLength_7cf53 48 = .ok (.athrow, 1) := by decide +kernel
theorem dJ8_hugeLength_7cf53_49 : decode cJ8_hugeLength_7cf53 49 = .ok (.iload_n 2, 1) := by decide +kernel
theorem dJ8_hugeLength_7cf53_50 : decode cJ8_hugeLength_7cf53 50 = .ok (.ldc 200, 2) := by decide +kernel
theorem dJ8_hugeLength_7cf53_52 : decode cJ8_hugeLength_7cf53 52 = .ok (.if_icmp .gt 6, 3) := by decide +kernel
theorem dJ8_hugeLength_7cf53_55 : decode cJ8_hugeLength_7cf53 55 = .ok (.ldc 200, 2) := by decide +kernel
theorem dJ8_hugeLength_7cf53_57 : decode cJ8_hugeLength_7cf53 57 = .ok (.ireturn, 1) := by decide +kernel
theorem dJ8_hugeLength_7cf53_58 : decode cJ8_hugeLength_7cf53 58 = .ok (.iload_n 2, 1) := by decide +kernel
theorem dJ8_hugeLength_7cf53_59 : decode cJ8_hugeLength_7cf53 59 = .ok (.ireturn, 1) := by decide +kernel
theorem dJ3_checkIndex_8e157_0 : decode cJ3_checkIndex_8e157 0 = .ok (.iload_n 0, 1) := by decide +kernel
theorem dJ3_checkIndex_8e157_1 : decode cJ3_checkIndex_8e157 1 = .ok (.ifCond .lt 8, 3) := by decide +kernel
theorem dJ3_checkIndex_8e157_4 : decode cJ3_checkIndex_8e157 4 = .ok (.iload_n 0, 1) := by decide +kernel
theorem dJ3_checkIndex_8e157_5 : decode cJ3_checkIndex_8e157 5 = .ok (.iload_n 1, 1) := by decide +kernel
theorem dJ3_checkIndex_8e157_6 : decode cJ3_checkIndex_8e157 6 = .ok (.if_icmp .lt 10, 3) := by decide +kernel
theorem dJ3_checkIndex_8e157_9 : decode cJ3_checkIndex_8e157 9 = .ok (.aload_n 2, 1) := by decide +kernel
theorem dJ3_checkIndex_8e157_10 : decode cJ3_checkIndex_8e157 10 = .ok (.iload_n 0, 1) := by decide +kernel
theorem dJ3_checkIndex_8e157_11 : decode cJ3_checkIndex_8e157 11 = .ok (.iload_n 1, 1) := by decide +kernel
theorem dJ3_checkIndex_8e157_12 : decode cJ3_checkIndex_8e157 12 = .ok (.invokestatic 95, 3) := by decide +kernel
theorem dJ3_checkIndex_8e157_15 : decode cJ3_checkIndex_8e157 15 = .ok (.athrow, 1) := by decide +kernel
theorem dJ3_checkIndex_8e157_16 : decode cJ3_checkIndex_8e157 16 = .ok (.iload_n 0, 1) := by decide +kernel
theorem dJ3_checkIndex_8e157_17 : decode cJ3_checkIndex_8e157 17 = .ok (.ireturn, 1) := by decide +kernel
theorem dL_below_0 : decode cL_below 0 = .ok (.iload_n 0, 1) := by decide +kernel
theorem dL_below_1 : decode cL_below 1 = .ok (.ldc 7, 2) := by decide +kernel
theorem dL_below_3 : decode cL_below 3 = .ok (.iand, 1) := by decide +kernel
theorem dL_below_4 : decode cL_below 4 = .ok (.iload_n 1, 1) := by decide +kernel
theorem dL_below_5 : decode cL_below 5 = .ok (.irem, 1) := by decide +kernel
theorem dL_below_6 : decode cL_below 6 = .ok (.ireturn, 1) := by decide +kernel
theorem dL_cell_0 : decode cL_cell 0 = .ok (.iload_n 1, 1) := by decide +kernel
theorem dL_cell_1 : decode cL_cell 1 = .ok (.aload_n 0, 1) := by decide +kernel
theorem dL_cell_2 : decode cL_cell 2 = .ok (.arraylength, 1) := by decide +kernel
theorem dL_cell_3 : decode cL_cell 3 = .ok (.if_icmp .ge 9, 3) := by decide +kernel
theorem dL_cell_6 : decode cL_cell 6 = .ok (.aload_n 0, 1) := by decide +kernel
theorem dL_cell_7 : decode cL_cell 7 = .ok (.iload_n 1, 1) := by decide +kernel
theorem dL_cell_8 : decode cL_cell 8 = .ok (.iaload, 1) := by decide +kernel
theorem dL_cell_9 : decode cL_cell 9 = .ok (.goto 9, 3) := by decide +kernel
theorem dL_cell_12 : decode cL_cell 12 = .ok (.ldc 8, 2) := by decide +kernel
theorem dL_cell_14 : decode cL_cell 14 = .ok (.iload_n 1, 1) := by decide +kernel
theorem dL_cell_15 : decode cL_cell 15 = .ok (.iconst 3, 1) := by decide +kernel
theorem dL_cell_16 : decode cL_cell 16 = .ok (.iadd, 1) := by decide +kernel
theorem dL_cell_17 : decode cL_cell 17 = .ok (.imul, 1) := by decide +kernel
theorem dL_cell_18 : decode cL_cell 18 = .ok (.ireturn, 1) := by decide +kernel
set_option maxRecDepth 20000 in
theorem ggL_act_L_below : GoodIn wsL_act wsL_below := goodIn_r _ [12, 13] (by decide +kernel) (by decide +kernel)
set_option maxRecDepth 20000 in
theorem gL_act_L_below : GoodIn wsL_act (va_wsS RL 9 yL_below wsL_below) := goodIn_app (goodIn_of _ (by decide +kernel)) ggL_act_L_below
set_option maxRecDepth 20000 in
theorem ggL_act_X2_addCab : GoodIn wsL_act wsX2_addCab := goodIn_ca (goodIn_ca (goodIn_r _ [18, 19, 20, 21, 22, 23, 24, 25, 26, 27, 28, 17, 29, 30, 31, 32, 33, 34, 35, 36, 37, 38, 39, 40, 41, 42, 43, 44, 45, 46, 47, 48, 49, 50, 51, 52, 53, 54, 55, 56, 57, 58, 59, 60, 61, 62, 63, 64, 65, 66, 67, 68, 69, 70, 71, 72, 73, 74, 75, 76, 77, 78, 79, 80, 81, 82, 83, 84, 85, 86, 87, 88, 89, 90, 91, 92, 93, 94, 95, 96, 97, 98, 99, 371, 372, 373, 374, 375, 376, 377, 378, 379, 380, 381, 382, 383, 384, 385, 386, 387, 388, 389] (by decide +kernel) (by decide +kernel)) (goodIn_sub (fun _ h => List.mem_cons_of_mem _ (List.mem_append_left _ (List.mem_append_left _ (List.mem_append_right _ h)))) (by decide +kernel))) (goodIn_sub (fun _ h => List.mem_cons_of_mem _ (List.mem_append_left _ (List.mem_append_right _ h))) (by decide +kernel))
set_option maxRecDepth 20000 in
theorem gL_act_X2_addCab : GoodIn wsL_act (wsV RL 25 RX2 yX2_addCab wsX2_addCab) := goodIn_app (goodIn_of _ (by decide +kernel)) ggL_act_X2_addCab
set_option maxRecDepth 20000 in
theorem ggL_act_X2_order : GoodIn wsL_act wsX2_order := goodIn_ca (goodIn_ca (goodIn_ca (goodIn_r _ [103, 19, 20, 21, 22, 104, 105, 106, 107, 108, 109, 110, 17, 111, 112, 113, 27, 28, 29, 114, 115, 116, 30, 31, 32, 33, 34, 35, 117, 118, 119, 120, 40, 41, 121, 122, 123, 124, 125, 126, 127, 128, 46, 47, 48, 49, 50, 51, 52, 53, 54, 55, 56, 57, 58, 59, 60, 61, 62, 63, 64, 65, 66, 67, 68, 69, 70, 71, 72, 73, 74, 75, 76, 77, 78, 79, 80, 81, 82, 83, 84, 85, 86, 87, 88, 89, 90, 91, 92, 93, 94, 95, 96, 97, 98, 99, 129, 130, 131, 132, 23, 133, 134, 135, 136, 137, 138, 139, 140, 141, 142, 143, 144, 145, 146, 147, 148, 149, 150, 151, 152, 153, 154, 155, 156, 157, 158, 159, 160, 161, 162, 163, 164, 165, 166, 167, 168, 169, 170, 171, 172, 173, 174, 175, 176, 177, 178, 179, 180, 181, 182, 183, 184, 185, 186, 187, 188, 189, 190, 191, 192, 193, 371, 372, 373, 374, 375, 376, 377, 390, 391, 392, 393, 394, 395, 396, 397, 398, 399, 400, 401, 402, 403, 404, 387, 388, 389, 378, 379, 380, 381, 382, 383, 384, 385, 386] (by decide +kernel) (by decide +kernel)) (goodIn_sub (fun _ h => List.mem_cons_of_mem _ (List.mem_append_left _ (List.mem_append_left _ (List.mem_append_right _ h)))) (by decide +kernel))) (goodIn_sub (fun _ h => List.mem_cons_of_mem _ (List.mem_append_left _ (List.mem_append_right _ h))) (by decide +kernel))) (goodIn_sub (fun _ h => List.mem_cons_of_mem _ (List.mem_append_right _ h)) (by decide +kernel))
set_option maxRecDepth 20000 in
theorem gL_act_X2_order : GoodIn wsL_act (wsV RL 39 RX2 yX2_order wsX2_order) := goodIn_app (goodIn_of _ (by decide +kernel)) ggL_act_X2_order
set_option maxRecDepth 20000 in
theorem ggL_act_X3_offer : GoodIn wsL_act wsX3_offer := goodIn_r _ [198, 199, 200, 201, 202, 203, 204, 205, 197, 206, 207, 208, 209, 210, 211, 212, 213, 360, 361, 362, 363, 364, 365, 366, 367, 368, 369, 370] (by decide +kernel) (by decide +kernel)
set_option maxRecDepth 20000 in
theorem gL_act_X3_offer : GoodIn wsL_act (wsV RL 43 RX3 yX3_offer wsX3_offer) := goodIn_app (goodIn_of _ (by decide +kernel)) ggL_act_X3_offer
set_option maxRecDepth 20000 in
theorem ggL_act_X2_setWay : GoodIn wsL_act wsX2_setWay := goodIn_ca (goodIn_ca (goodIn_r _ [217, 19, 20, 109, 110, 17, 111, 112, 113, 27, 28, 29, 189, 190, 191, 192, 193, 218, 219, 220, 221, 371, 372, 373, 374, 375, 376, 377] (by decide +kernel) (by decide +kernel)) (goodIn_sub (fun _ h => List.mem_cons_of_mem _ (List.mem_append_left _ (List.mem_append_left _ (List.mem_append_right _ h)))) (by decide +kernel))) (goodIn_sub (fun _ h => List.mem_cons_of_mem _ (List.mem_append_right _ h)) (by decide +kernel))
set_option maxRecDepth 20000 in
theorem gL_act_X2_setWay : GoodIn wsL_act (wsV RL 46 RX2 yX2_setWay wsX2_setWay) := goodIn_app (goodIn_of _ (by decide +kernel)) ggL_act_X2_setWay
set_option maxRecDepth 20000 in
theorem ggL_act_X2_start : GoodIn wsL_act wsX2_start := goodIn_ca (goodIn_ca (goodIn_r _ [225, 21, 22, 180, 226, 227, 228, 17, 229, 112, 113, 23, 167, 30, 31, 32, 33, 34, 35, 143, 144, 145, 146, 147, 148, 149, 150, 151, 152, 153, 154, 155, 156, 157, 158, 52, 230, 231, 232, 233, 234, 170, 129, 130, 131, 132, 133, 134, 135, 136, 105, 137, 138, 139, 140, 104, 141, 142, 159, 160, 161, 162, 163, 164, 165, 166, 168, 169, 171, 172, 173, 174, 175, 176, 177, 178, 179, 181, 182, 183, 184, 185, 186, 187, 188, 189, 190, 191, 192, 193, 235, 236, 237, 238, 239, 240, 241, 378, 379, 380, 381, 382, 383, 384, 385, 386, 371, 372, 373, 374, 375, 376, 377, 387, 388, 389, 390, 391, 392, 393, 394, 395, 396, 397, 398, 399, 400, 401, 402, 403, 404] (by decide +kernel) (by decide +kernel)) (goodIn_sub (fun _ h => List.mem_cons_of_mem _ (List.mem_append_left _ (List.mem_append_right _ h))) (by decide +kernel))) (goodIn_sub (fun _ h => List.mem_cons_of_mem _ (List.mem_append_right _ h)) (by decide +kernel))
set_option maxRecDepth 20000 in
theorem gL_act_X2_start : GoodIn wsL_act (wsV RL 53 RX2 yX2_start wsX2_start) := goodIn_app (goodIn_of _ (by decide +kernel)) ggL_act_X2_start
set_option maxRecDepth 20000 in
theorem ggL_act_X2_stop : GoodIn wsL_act wsX2_stop := goodIn_ca (goodIn_ca (goodIn_r _ [245, 21, 22, 180, 168, 226, 227, 228, 17, 229, 112, 113, 23, 167, 30, 31, 32, 33, 34, 35, 143, 144, 145, 146, 147, 148, 149, 150, 151, 152, 153, 154, 155, 156, 157, 158, 52, 246, 247, 248, 249, 176, 139, 140, 142, 250, 251, 252, 181, 182, 183, 184, 230, 231, 232, 233, 234, 170, 129, 130, 131, 132, 133, 134, 135, 136, 105, 137, 138, 104, 141, 159, 160, 161, 162, 163, 164, 165, 166, 169, 171, 172, 173, 174, 175, 177, 178, 179, 185, 186, 187, 188, 189, 190, 191, 192, 193, 378, 379, 380, 381, 382, 383, 384, 385, 386, 371, 372, 373, 374, 375, 376, 377, 387, 388, 389, 390, 391, 392, 393, 394, 395, 396, 397, 398, 399, 400, 401, 402, 403, 404] (by decide +kernel) (by decide +kernel)) (goodIn_sub (fun _ h => List.mem_cons_of_mem _ (List.mem_append_left _ (List.mem_append_right _ h))) (by decide +kernel))) (goodIn_sub (fun _ h => List.mem_cons_of_mem _ (List.mem_append_right _ h)) (by decide +kernel))
set_option maxRecDepth 20000 in
theorem gL_act_X2_stop : GoodIn wsL_act (wsV RL 57 RX2 yX2_stop wsX2_stop) := goodIn_app (goodIn_of _ (by decide +kernel)) ggL_act_X2_stop
set_option maxRecDepth 20000 in
theorem ggL_act_X2_accept : GoodIn wsL_act wsX2_accept := goodIn_ca (goodIn_ca (goodIn_r _ [256, 21, 22, 168, 169, 180, 104, 138, 257, 67, 68, 69, 258, 139, 226, 227, 228, 17, 229, 112, 113, 23, 167, 30, 31, 32, 33, 34, 35, 143, 144, 145, 146, 147, 148, 149, 150, 151, 152, 153, 154, 155, 156, 157, 158, 52, 250, 251, 252, 142, 189, 190, 191, 192, 193, 129, 130, 131, 132, 133, 134, 135, 136, 105, 137, 140, 141, 159, 160, 161, 162, 163, 164, 165, 166, 170, 171, 172, 173, 174, 175, 176, 177, 178, 179, 181, 182, 183, 184, 185, 186, 187, 188, 378, 379, 380, 381, 382, 383, 384, 385, 386, 390, 391, 392, 393, 394, 395, 396, 397, 398, 399, 400, 401, 402, 403, 404, 371, 372, 373, 374, 375, 376, 377, 387, 388, 389] (by decide +kernel) (by decide +kernel)) (goodIn_sub (fun _ h => List.mem_cons_of_mem _ (List.mem_append_left _ (List.mem_append_right _ h))) (by decide +kernel))) (goodIn_sub (fun _ h => List.mem_cons_of_mem _ (List.mem_append_right _ h)) (by decide +kernel))
set_option maxRecDepth 20000 in
theorem gL_act_X2_accept : GoodIn wsL_act (wsV RL 60 RX2 yX2_accept wsX2_accept) := goodIn_app (goodIn_of _ (by decide +kernel)) ggL_act_X2_accept
set_option maxRecDepth 20000 in
theorem ggL_act_X2_refuse : GoodIn wsL_act wsX2_refuse := goodIn_ca (goodIn_ca (goodIn_r _ [262, 21, 22, 263, 226, 227, 228, 17, 229, 112, 113, 23, 167, 30, 31, 32, 33, 34, 35, 143, 144, 145, 146, 147, 148, 149, 150, 151, 152, 153, 154, 155, 156, 157, 158, 52, 250, 251, 252, 180, 142, 246, 247, 248, 249, 176, 139, 140, 181, 182, 183, 184, 230, 231, 232, 233, 234, 170, 129, 130, 131, 132, 133, 134, 135, 136, 105, 137, 138, 104, 141, 159, 160, 161, 162, 163, 164, 165, 166, 168, 169, 171, 172, 173, 174, 175, 177, 178, 179, 185, 186, 187, 188, 189, 190, 191, 192, 193, 390, 391, 392, 393, 394, 395, 396, 397, 398, 399, 400, 401, 402, 403, 404, 371, 372, 373, 374, 375, 376, 377, 387, 388, 389, 378, 379, 380, 381, 382, 383, 384, 385, 386] (by decide +kernel) (by decide +kernel)) (goodIn_sub (fun _ h => List.mem_cons_of_mem _ (List.mem_append_left _ (List.mem_append_right _ h))) (by decide +kernel))) (goodIn_sub (fun _ h => List.mem_cons_of_mem _ (List.mem_append_right _ h)) (by decide +kernel))
set_option maxRecDepth 20000 in
theorem gL_act_X2_refuse : GoodIn wsL_act (wsV RL 63 RX2 yX2_refuse wsX2_refuse) := goodIn_app (goodIn_of _ (by decide +kernel)) ggL_act_X2_refuse
set_option maxRecDepth 20000 in
theorem ggL_act_X2_cancel : GoodIn wsL_act wsX2_cancel := goodIn_ca (goodIn_ca (goodIn_r _ [267, 21, 22, 139, 268, 269, 270, 17, 271, 112, 113, 105, 137, 30, 31, 32, 33, 34, 35, 143, 144, 145, 146, 147, 148, 149, 150, 151, 152, 153, 154, 155, 156, 157, 158, 52, 272, 273, 274, 275, 140, 142, 180, 230, 231, 232, 233, 234, 170, 129, 130, 131, 132, 23, 133, 134, 135, 136, 138, 104, 141, 159, 160, 161, 162, 163, 164, 165, 166, 167, 168, 169, 171, 172, 173, 174, 175, 176, 177, 178, 179, 181, 182, 183, 184, 185, 186, 187, 188, 189, 190, 191, 192, 193, 390, 391, 392, 393, 394, 395, 396, 397, 398, 399, 400, 401, 402, 403, 404, 371, 372, 373, 374, 375, 376, 377, 387, 388, 389, 378, 379, 380, 381, 382, 383, 384, 385, 386] (by decide +kernel) (by decide +kernel)) (goodIn_sub (fun _ h => List.mem_cons_of_mem _ (List.mem_append_left _ (List.mem_append_right _ h))) (by decide +kernel))) (goodIn_sub (fun _ h => List.mem_cons_of_mem _ (List.mem_append_right _ h)) (by decide +kernel))
set_option maxRecDepth 20000 in
theorem gL_act_X2_cancel : GoodIn wsL_act (wsV RL 66 RX2 yX2_cancel wsX2_cancel) := goodIn_app (goodIn_of _ (by decide +kernel)) ggL_act_X2_cancel
set_option maxRecDepth 20000 in
theorem ggL_act_X2_tick : GoodIn wsL_act wsX2_tick := goodIn_ca (goodIn_r _ [279, 19, 20, 104, 280, 281, 282, 17, 283, 284, 285, 286, 287, 23, 167, 141, 30, 31, 32, 33, 34, 35, 143, 144, 145, 146, 147, 148, 149, 150, 151, 152, 153, 154, 155, 156, 157, 158, 52, 250, 251, 252, 180, 142, 246, 247, 248, 249, 176, 139, 140, 181, 182, 183, 184, 230, 231, 232, 233, 234, 170, 288, 289, 290, 291, 258, 292, 293, 294, 295, 169, 296, 168, 297, 189, 190, 191, 192, 193, 298, 299, 300, 301, 302, 303, 304, 305, 138, 306, 94, 68, 95, 307, 308, 309, 310, 311, 312, 313, 314, 315, 316, 317, 318, 129, 130, 131, 132, 133, 134, 135, 136, 105, 137, 159, 160, 161, 162, 163, 164, 165, 166, 171, 172, 173, 174, 175, 177, 178, 179, 185, 186, 187, 188, 371, 372, 373, 374, 375, 376, 377, 390, 391, 392, 393, 394, 395, 396, 397, 398, 399, 400, 401, 402, 403, 404, 387, 388, 389, 378, 379, 380, 381, 382, 383, 384, 385, 386] (by decide +kernel) (by decide +kernel)) (goodIn_sub (fun _ h => List.mem_cons_of_mem _ (List.mem_append_left _ (List.mem_append_left _ (List.mem_append_right _ h)))) (by decide +kernel))
set_option maxRecDepth 20000 in
theorem gL_act_X2_tick : GoodIn wsL_act (wsV RL 69 RX2 yX2_tick wsX2_tick) := goodIn_app (goodIn_of _ (by decide +kernel)) ggL_act_X2_tick
set_option maxRecDepth 20000 in
theorem ggL_act_X3_join : GoodIn wsL_act wsX3_join := goodIn_r _ [322, 212, 360, 361, 362, 363, 364, 365, 366, 367, 368, 369, 370] (by decide +kernel) (by decide +kernel)
set_option maxRecDepth 20000 in
theorem gL_act_X3_join : GoodIn wsL_act (wsV RL 74 RX3 yX3_join wsX3_join) := goodIn_app (goodIn_of _ (by decide +kernel)) ggL_act_X3_join
set_option maxRecDepth 20000 in
theorem ggL_act_X3_refuse : GoodIn wsL_act wsX3_refuse := goodIn_r _ [326, 202, 213, 200, 360, 361, 362, 363, 364, 365, 366, 367, 368, 369, 370] (by decide +kernel) (by decide +kernel)
set_option maxRecDepth 20000 in
theorem gL_act_X3_refuse : GoodIn wsL_act (wsV RL 77 RX3 yX3_refuse wsX3_refuse) := goodIn_app (goodIn_of _ (by decide +kernel)) ggL_act_X3_refuse
set_option maxRecDepth 20000 in
theorem ggL_act_X3_leave : GoodIn wsL_act wsX3_leave := goodIn_r _ [330, 212, 360, 361, 362, 363, 364, 365, 366, 367, 368, 369, 370] (by decide +kernel) (by decide +kernel)
set_option maxRecDepth 20000 in
theorem gL_act_X3_leave : GoodIn wsL_act (wsV RL 80 RX3 yX3_leave wsX3_leave) := goodIn_app (goodIn_of _ (by decide +kernel)) ggL_act_X3_leave
set_option maxRecDepth 20000 in
theorem ggL_act_X3_accept : GoodIn wsL_act wsX3_accept := goodIn_r _ [334, 200, 202, 207, 201, 335, 328, 329, 197, 330, 212, 360, 361, 362, 363, 364, 365, 366, 367, 368, 369, 370] (by decide +kernel) (by decide +kernel)
set_option maxRecDepth 20000 in
theorem gL_act_X3_accept : GoodIn wsL_act (wsV RL 84 RX3 yX3_accept wsX3_accept) := goodIn_app (goodIn_of _ (by decide +kernel)) ggL_act_X3_accept
set_option maxRecDepth 20000 in
theorem ggL_act_X3_back : GoodIn wsL_act wsX3_back := goodIn_r _ [339, 202, 335, 328, 329, 197, 330, 212, 340, 320, 321, 322, 360, 361, 362, 363, 364, 365, 366, 367, 368, 369, 370] (by decide +kernel) (by decide +kernel)
set_option maxRecDepth 20000 in
theorem gL_act_X3_back : GoodIn wsL_act (wsV RL 85 RX3 yX3_back wsX3_back) := goodIn_app (goodIn_of _ (by decide +kernel)) ggL_act_X3_back
set_option maxRecDepth 20000 in
theorem ggL_act_X3_cancel : GoodIn wsL_act wsX3_cancel := goodIn_r _ [344, 200, 202, 345, 346, 347, 197, 348, 340, 320, 321, 322, 212, 360, 361, 362, 363, 364, 365, 366, 367, 368, 369, 370] (by decide +kernel) (by decide +kernel)
set_option maxRecDepth 20000 in
theorem gL_act_X3_cancel : GoodIn wsL_act (wsV RL 88 RX3 yX3_cancel wsX3_cancel) := goodIn_app (goodIn_of _ (by decide +kernel)) ggL_act_X3_cancel
set_option maxRecDepth 20000 in
theorem ggL_act_X3_minute : GoodIn wsL_act wsX3_minute := goodIn_r _ [352, 201, 353, 202, 200, 354, 207, 355, 356, 357, 324, 325, 197, 326, 213, 358, 337, 338, 339, 335, 328, 329, 330, 212, 340, 320, 321, 322, 345, 346, 347, 348, 359, 195, 196, 198, 199, 203, 204, 205, 206, 208, 209, 210, 211, 360, 361, 362, 363, 364, 365, 366, 367, 368, 369, 370] (by decide +kernel) (by decide +kernel)
set_option maxRecDepth 20000 in
theorem gL_act_X3_minute : GoodIn wsL_act (wsV RL 89 RX3 yX3_minute wsX3_minute) := goodIn_app (goodIn_of _ (by decide +kernel)) ggL_act_X3_minute
theorem dL_act_0 : decode cL_act 0 = .ok (.iload_n 2, 1) := by decide +kernel
theorem dL_act_1 : decode cL_act 1 = .ok (.bipush 16, 2) := by decide +kernel
theorem dL_act_3 : decode cL_act 3 = .ok (.invokestatic 9, 3) := by decide +kernel
theorem dL_act_6 : decode cL_act 6 = .ok (.istore_n 3, 1) := by decide +kernel
theorem dL_act_7 : decode cL_act 7 = .ok (.aload_n 1, 1) := by decide +kernel
theorem dL_act_8 : decode cL_act 8 = .ok (.getfield 15, 3) := by decide +kernel
theorem dL_act_11 : decode cL_act 11 = .ok (.ifCond .ne 7, 3) := by decide +kernel
theorem dL_act_14 : decode cL_act 14 = .ok (.iconst (-1), 1) := by decide +kernel
theorem dL_act_15 : decode cL_act 15 = .ok (.goto 13, 3) := by decide +kernel
theorem dL_act_18 : decode cL_act 18 = .ok (.iload_n 2, 1) := by decide +kernel
theorem dL_act_19 : decode cL_act 19 = .ok (.iconst 2, 1) := by decide +kernel
theorem dL_act_20 : decode cL_act 20 = .ok (.ishr, 1) := by decide +kernel
theorem dL_act_21 : decode cL_act 21 = .ok (.aload_n 1, 1) := by decide +kernel
theorem dL_act_22 : decode cL_act 22 = .ok (.getfield 15, 3) := by decide +kernel
theorem dL_act_25 : decode cL_act 25 = .ok (.invokestatic 9, 3) := by decide +kernel
theorem dL_act_28 : decode cL_act 28 = .ok (.istore 4, 2) := by decide +kernel
theorem dL_act_30 : decode cL_act 30 = .ok (.aload_n 1, 1) := by decide +kernel
theorem dL_act_31 : decode cL_act 31 = .ok (.getfield 15, 3) := by decide +kernel
theorem dL_act_34 : decode cL_act 34 = .ok (.iconst 2, 1) := by decide +kernel
theorem dL_act_35 : decode cL_act 35 = .ok (.if_icmp .lt 16, 3) := by decide +kernel
theorem dL_act_38 : decode cL_act 38 = .ok (.iload_n 3, 1) := by decide +kernel
theorem dL_act_39 : decode cL_act 39 = .ok (.ifCond .ne 107, 3) := by decide +kernel
theorem dL_act_42 : decode cL_act 42 = .ok (.aload_n 1, 1) := by decide +kernel
theorem dL_act_43 : decode cL_act 43 = .ok (.getfield 15, 3) := by decide +kernel
theorem dL_act_46 : decode cL_act 46 = .ok (.bipush 8, 2) := by decide +kernel
theorem dL_act_48 : decode cL_act 48 = .ok (.if_icmp .ge 98, 3) := by decide +kernel
theorem dL_act_51 : decode cL_act 51 = .ok (.aload_n 1, 1) := by decide +kernel
theorem dL_act_52 : decode cL_act 52 = .ok (.getfield 21, 3) := by decide +kernel
theorem dL_act_55 : decode cL_act 55 = .ok (.aload_n 1, 1) := by decide +kernel
theorem dL_act_56 : decode cL_act 56 = .ok (.getfield 15, 3) := by decide +kernel
theorem dL_act_59 : decode cL_act 59 = .ok (.iconst 5, 1) := by decide +kernel
theorem dL_act_60 : decode cL_act 60 = .ok (.newarray .int, 2) := by decide +kernel
theorem dL_act_62 : decode cL_act 62 = .ok (.dup, 1) := by decide +kernel
theorem dL_act_63 : decode cL_act 63 = .ok (.iconst 0, 1) := by decide +kernel
theorem dL_act_64 : decode cL_act 64 = .ok (.iconst 1, 1) := by decide +kernel
theorem dL_act_65 : decode cL_act 65 = .ok (.iload_n 2, 1) := by decide +kernel
theorem dL_act_66 : decode cL_act 66 = .ok (.iconst 4, 1) := by decide +kernel
theorem dL_act_67 : decode cL_act 67 = .ok (.ishr, 1) := by decide +kernel
theorem dL_act_68 : decode cL_act 68 = .ok (.bipush 8, 2) := by decide +kernel
theorem dL_act_70 : decode cL_act 70 = .ok (.invokestatic 9, 3) := by decide +kernel
theorem dL_act_73 : decode cL_act 73 = .ok (.iadd, 1) := by decide +kernel
theorem dL_act_74 : decode cL_act 74 = .ok (.iastore, 1) := by decide +kernel
theorem dL_act_75 : decode cL_act 75 = .ok (.dup, 1) := by decide +kernel
theorem dL_act_76 : decode cL_act 76 = .ok (.iconst 1, 1) := by decide +kernel
theorem dL_act_77 : decode cL_act 77 = .ok (.iload_n 2, 1) := by decide +kernel
theorem dL_act_78 : decode cL_act 78 = .ok (.bipush 6, 2) := by decide +kernel
theorem dL_act_80 : decode cL_act 80 = .ok (.ishr, 1) := by decide +kernel
theorem dL_act_81 : decode cL_act 81 = .ok (.iconst 4, 1) := by decide +kernel
theorem dL_act_82 : decode cL_act 82 = .ok (.invokestatic 9, 3) := by decide +kernel
theorem dL_act_85 : decode cL_act 85 = .ok (.iastore, 1) := by decide +kernel
theorem dL_act_86 : decode cL_act 86 = .ok (.dup, 1) := by decide +kernel
theorem dL_act_87 : decode cL_act 87 = .ok (.iconst 2, 1) := by decide +kernel
theorem dL_act_88 : decode cL_act 88 = .ok (.iconst 0, 1) := by decide +kernel
theorem dL_act_89 : decode cL_act 89 = .ok (.iastore, 1) := by decide +kernel
theorem dL_act_90 : decode cL_act 90 = .ok (.dup, 1) := by decide +kernel
theorem dL_act_91 : decode cL_act 91 = .ok (.iconst 3, 1) := by decide +kernel
theorem dL_act_92 : decode cL_act 92 = .ok (.iconst (-1), 1) := by decide +kernel
theorem dL_act_93 : decode cL_act 93 = .ok (.iastore, 1) := by decide +kernel
theorem dL_act_94 : decode cL_act 94 = .ok (.dup, 1) := by decide +kernel
theorem dL_act_95 : decode cL_act 95 = .ok (.iconst 4, 1) := by decide +kernel
theorem dL_act_96 : decode cL_act 96 = .ok (.iconst 0, 1) := by decide +kernel
theorem dL_act_97 : decode cL_act 97 = .ok (.iastore, 1) := by decide +kernel
theorem dL_act_98 : decode cL_act 98 = .ok (.aastore, 1) := by decide +kernel
theorem dL_act_99 : decode cL_act 99 = .ok (.aload_n 0, 1) := by decide +kernel
theorem dL_act_100 : decode cL_act 100 = .ok (.aload_n 1, 1) := by decide +kernel
theorem dL_act_101 : decode cL_act 101 = .ok (.getfield 21, 3) := by decide +kernel
theorem dL_act_104 : decode cL_act 104 = .ok (.aload_n 1, 1) := by decide +kernel
theorem dL_act_105 : decode cL_act 105 = .ok (.getfield 15, 3) := by decide +kernel
theorem dL_act_108 : decode cL_act 108 = .ok (.aaload, 1) := by decide +kernel
theorem dL_act_109 : decode cL_act 109 = .ok (.iconst 0, 1) := by decide +kernel
theorem dL_act_110 : decode cL_act 110 = .ok (.iaload, 1) := by decide +kernel
theorem dL_act_111 : decode cL_act 111 = .ok (.aload_n 1, 1) := by decide +kernel
theorem dL_act_112 : decode cL_act 112 = .ok (.getfield 21, 3) := by decide +kernel
theorem dL_act_115 : decode cL_act 115 = .ok (.aload_n 1, 1) := by decide +kernel
theorem dL_act_116 : decode cL_act 116 = .ok (.getfield 15, 3) := by decide +kernel
theorem dL_act_119 : decode cL_act 119 = .ok (.aaload, 1) := by decide +kernel
theorem dL_act_120 : decode cL_act 120 = .ok (.iconst 1, 1) := by decide +kernel
theorem dL_act_121 : decode cL_act 121 = .ok (.iaload, 1) := by decide +kernel
theorem dL_act_122 : decode cL_act 122 = .ok (.invokevirtual 25, 3) := by decide +kernel
theorem dL_act_125 : decode cL_act 125 = .ok (.aload_n 1, 1) := by decide +kernel
theorem dL_act_126 : decode cL_act 126 = .ok (.getfield 15, 3) := by decide +kernel
theorem dL_act_129 : decode cL_act 129 = .ok (.if_icmp .eq 5, 3) := by decide +kernel
theorem dL_act_132 : decode cL_act 132 = .ok (.iconst 0, 1) := by decide +kernel
theorem dL_act_133 : decode cL_act 133 = .ok (.ireturn, 1) := by decide +kernel
theorem dL_act_134 : decode cL_act 134 = .ok (.aload_n 1, 1) := by decide +kernel
theorem dL_act_135 : decode cL_act 135 = .ok (.dup, 1) := by decide +kernel
theorem dL_act_136 : decode cL_act 136 = .ok (.getfield 15, 3) := by decide +kernel
theorem dL_act_139 : decode cL_act 139 = .ok (.iconst 1, 1) := by decide +kernel
theorem dL_act_140 : decode cL_act 140 = .ok (.iadd, 1) := by decide +kernel
theorem dL_act_141 : decode cL_act 141 = .ok (.putfield 15, 3) := by decide +kernel
theorem dL_act_144 : decode cL_act 144 = .ok (.iconst 1, 1) := by decide +kernel
theorem dL_act_145 : decode cL_act 145 = .ok (.ireturn, 1) := by decide +kernel
theorem dL_act_146 : decode cL_act 146 = .ok (.iload_n 3, 1) := by decide +kernel
theorem dL_act_147 : decode cL_act 147 = .ok (.iconst 5, 1) := by decide +kernel
theorem dL_act_148 : decode cL_act 148 = .ok (.if_icmp .ge 185, 3) := by decide +kernel
theorem dL_act_151 : decode cL_act 151 = .ok (.aload_n 1, 1) := by decide +kernel
theorem dL_act_152 : decode cL_act 152 = .ok (.getfield 30, 3) := by decide +kernel
theorem dL_act_155 : decode cL_act 155 = .ok (.bipush 60, 2) := by decide +kernel
theorem dL_act_157 : decode cL_act 157 = .ok (.if_icmp .ge 176, 3) := by decide +kernel
theorem dL_act_160 : decode cL_act 160 = .ok (.aload_n 1, 1) := by decide +kernel
theorem dL_act_161 : decode cL_act 161 = .ok (.getfield 33, 3) := by decide +kernel
theorem dL_act_164 : decode cL_act 164 = .ok (.iload_n 2, 1) := by decide +kernel
theorem dL_act_165 : decode cL_act 165 = .ok (.iconst 3, 1) := by decide +kernel
theorem dL_act_166 : decode cL_act 166 = .ok (.ishr, 1) := by decide +kernel
theorem dL_act_167 : decode cL_act 167 = .ok (.iconst 3, 1) := by decide +kernel
theorem dL_act_168 : decode cL_act 168 = .ok (.invokestatic 9, 3) := by decide +kernel
theorem dL_act_171 : decode cL_act 171 = .ok (.ifCond .le 7, 3) := by decide +kernel
theorem dL_act_174 : decode cL_act 174 = .ok (.iconst 0, 1) := by decide +kernel
theorem dL_act_175 : decode cL_act 175 = .ok (.goto 11, 3) := by decide +kernel
theorem dL_act_178 : decode cL_act 178 = .ok (.iload_n 2, 1) := by decide +kernel
theorem dL_act_179 : decode cL_act 179 = .ok (.iconst 5, 1) := by decide +kernel
theorem dL_act_180 : decode cL_act 180 = .ok (.ishr, 1) := by decide +kernel
theorem dL_act_181 : decode cL_act 181 = .ok (.bipush 40, 2) := by decide +kernel
theorem dL_act_183 : decode cL_act 183 = .ok (.invokestatic 9, 3) := by decide +kernel
theorem dL_act_186 : decode cL_act 186 = .ok (.iadd, 1) := by decide +kernel
theorem dL_act_187 : decode cL_act 187 = .ok (.istore 5, 2) := by decide +kernel
theorem dL_act_189 : decode cL_act 189 = .ok (.aload_n 1, 1) := by decide +kernel
theorem dL_act_190 : decode cL_act 190 = .ok (.getfield 36, 3) := by decide +kernel
theorem dL_act_193 : decode cL_act 193 = .ok (.aload_n 1, 1) := by decide +kernel
theorem dL_act_194 : decode cL_act 194 = .ok (.getfield 30, 3) := by decide +kernel
theorem dL_act_197 : decode cL_act 197 = .ok (.bipush 10, 2) := by decide +kernel
theorem dL_act_199 : decode cL_act 199 = .ok (.newarray .int, 2) := by decide +kernel
theorem dL_act_201 : decode cL_act 201 = .ok (.dup, 1) := by decide +kernel
theorem dL_act_202 : decode cL_act 202 = .ok (.iconst 0, 1) := by decide +kernel
theorem dL_act_203 : decode cL_act 203 = .ok (.iload_n 2, 1) := by decide +kernel
theorem dL_act_204 : decode cL_act 204 = .ok (.iconst 4, 1) := by decide +kernel
theorem dL_act_205 : decode cL_act 205 = .ok (.ishr, 1) := by decide +kernel
theorem dL_act_206 : decode cL_act 206 = .ok (.iconst 4, 1) := by decide +kernel
theorem dL_act_207 : decode cL_act 207 = .ok (.invokestatic 9, 3) := by decide +kernel
theorem dL_act_210 : decode cL_act 210 = .ok (.iastore, 1) := by decide +kernel
theorem dL_act_211 : decode cL_act 211 = .ok (.dup, 1) := by decide +kernel
theorem dL_act_212 : decode cL_act 212 = .ok (.iconst 1, 1) := by decide +kernel
theorem dL_act_213 : decode cL_act 213 = .ok (.iload_n 2, 1) := by decide +kernel
theorem dL_act_214 : decode cL_act 214 = .ok (.bipush 6, 2) := by decide +kernel
theorem dL_act_216 : decode cL_act 216 = .ok (.ishr, 1) := by decide +kernel
theorem dL_act_217 : decode cL_act 217 = .ok (.iconst 4, 1) := by decide +kernel
theorem dL_act_218 : decode cL_act 218 = .ok (.invokestatic 9, 3) := by decide +kernel
theorem dL_act_221 : decode cL_act 221 = .ok (.iastore, 1) := by decide +kernel
theorem dL_act_222 : decode cL_act 222 = .ok (.dup, 1) := by decide +kernel
theorem dL_act_223 : decode cL_act 223 = .ok (.iconst 2, 1) := by decide +kernel
theorem dL_act_224 : decode cL_act 224 = .ok (.iconst 1, 1) := by decide +kernel
theorem dL_act_225 : decode cL_act 225 = .ok (.iload_n 2, 1) := by decide +kernel
theorem dL_act_226 : decode cL_act 226 = .ok (.bipush 8, 2) := by decide +kernel
theorem dL_act_228 : decode cL_act 228 = .ok (.ishr, 1) := by decide +kernel
theorem dL_act_229 : decode cL_act 229 = .ok (.iconst 5, 1) := by decide +kernel
theorem dL_act_230 : decode cL_act 230 = .ok (.invokestatic 9, 3) := by decide +kernel
theorem dL_act_233 : decode cL_act 233 = .ok (.iadd, 1) := by decide +kernel
theorem dL_act_234 : decode cL_act 234 = .ok (.iastore, 1) := by decide +kernel
theorem dL_act_235 : decode cL_act 235 = .ok (.dup, 1) := by decide +kernel
theorem dL_act_236 : decode cL_act 236 = .ok (.iconst 3, 1) := by decide +kernel
theorem dL_act_237 : decode cL_act 237 = .ok (.iload 5, 2) := by decide +kernel
theorem dL_act_239 : decode cL_act 239 = .ok (.iastore, 1) := by decide +kernel
theorem dL_act_240 : decode cL_act 240 = .ok (.dup, 1) := by decide +kernel
theorem dL_act_241 : decode cL_act 241 = .ok (.iconst 4, 1) := by decide +kernel
theorem dL_act_242 : decode cL_act 242 = .ok (.iconst 0, 1) := by decide +kernel
theorem dL_act_243 : decode cL_act 243 = .ok (.iastore, 1) := by decide +kernel
theorem dL_act_244 : decode cL_act 244 = .ok (.dup, 1) := by decide +kernel
theorem dL_act_245 : decode cL_act 245 = .ok (.iconst 5, 1) := by decide +kernel
theorem dL_act_246 : decode cL_act 246 = .ok (.iconst (-1), 1) := by decide +kernel
theorem dL_act_247 : decode cL_act 247 = .ok (.iastore, 1) := by decide +kernel
theorem dL_act_248 : decode cL_act 248 = .ok (.dup, 1) := by decide +kernel
end
section
theorem dL_act_249 : decode cL_act 249 = .ok (.bipush 6, 2) := by decide +kernel
theorem dL_act_251 : decode cL_act 251 = .ok (.iconst (-1), 1) := by decide +kernel
theorem dL_act_252 : decode cL_act 252 = .ok (.iastore, 1) := by decide +kernel
theorem dL_act_253 : decode cL_act 253 = .ok (.dup, 1) := by decide +kernel
theorem dL_act_254 : decode cL_act 254 = .ok (.bipush 7, 2) := by decide +kernel
theorem dL_act_256 : decode cL_act 256 = .ok (.iconst (-1), 1) := by decide +kernel
theorem dL_act_257 : decode cL_act 257 = .ok (.iastore, 1) := by decide +kernel
theorem dL_act_258 : decode cL_act 258 = .ok (.dup, 1) := by decide +kernel
theorem dL_act_259 : decode cL_act 259 = .ok (.bipush 8, 2) := by decide +kernel
theorem dL_act_261 : decode cL_act 261 = .ok (.iconst 0, 1) := by decide +kernel
theorem dL_act_262 : decode cL_act 262 = .ok (.iastore, 1) := by decide +kernel
theorem dL_act_263 : decode cL_act 263 = .ok (.dup, 1) := by decide +kernel
theorem dL_act_264 : decode cL_act 264 = .ok (.bipush 9, 2) := by decide +kernel
theorem dL_act_266 : decode cL_act 266 = .ok (.iconst 0, 1) := by decide +kernel
theorem dL_act_267 : decode cL_act 267 = .ok (.iastore, 1) := by decide +kernel
theorem dL_act_268 : decode cL_act 268 = .ok (.aastore, 1) := by decide +kernel
theorem dL_act_269 : decode cL_act 269 = .ok (.aload_n 0, 1) := by decide +kernel
theorem dL_act_270 : decode cL_act 270 = .ok (.aload_n 1, 1) := by decide +kernel
theorem dL_act_271 : decode cL_act 271 = .ok (.getfield 36, 3) := by decide +kernel
theorem dL_act_274 : decode cL_act 274 = .ok (.aload_n 1, 1) := by decide +kernel
theorem dL_act_275 : decode cL_act 275 = .ok (.getfield 30, 3) := by decide +kernel
theorem dL_act_278 : decode cL_act 278 = .ok (.aaload, 1) := by decide +kernel
theorem dL_act_279 : decode cL_act 279 = .ok (.iconst 0, 1) := by decide +kernel
theorem dL_act_280 : decode cL_act 280 = .ok (.iaload, 1) := by decide +kernel
theorem dL_act_281 : decode cL_act 281 = .ok (.aload_n 1, 1) := by decide +kernel
theorem dL_act_282 : decode cL_act 282 = .ok (.getfield 36, 3) := by decide +kernel
theorem dL_act_285 : decode cL_act 285 = .ok (.aload_n 1, 1) := by decide +kernel
theorem dL_act_286 : decode cL_act 286 = .ok (.getfield 30, 3) := by decide +kernel
theorem dL_act_289 : decode cL_act 289 = .ok (.aaload, 1) := by decide +kernel
theorem dL_act_290 : decode cL_act 290 = .ok (.iconst 1, 1) := by decide +kernel
theorem dL_act_291 : decode cL_act 291 = .ok (.iaload, 1) := by decide +kernel
theorem dL_act_292 : decode cL_act 292 = .ok (.aload_n 1, 1) := by decide +kernel
theorem dL_act_293 : decode cL_act 293 = .ok (.getfield 36, 3) := by decide +kernel
theorem dL_act_296 : decode cL_act 296 = .ok (.aload_n 1, 1) := by decide +kernel
theorem dL_act_297 : decode cL_act 297 = .ok (.getfield 30, 3) := by decide +kernel
theorem dL_act_300 : decode cL_act 300 = .ok (.aaload, 1) := by decide +kernel
theorem dL_act_301 : decode cL_act 301 = .ok (.iconst 2, 1) := by decide +kernel
theorem dL_act_302 : decode cL_act 302 = .ok (.iaload, 1) := by decide +kernel
theorem dL_act_303 : decode cL_act 303 = .ok (.iload 5, 2) := by decide +kernel
theorem dL_act_305 : decode cL_act 305 = .ok (.invokevirtual 39, 3) := by decide +kernel
theorem dL_act_308 : decode cL_act 308 = .ok (.aload_n 1, 1) := by decide +kernel
theorem dL_act_309 : decode cL_act 309 = .ok (.getfield 30, 3) := by decide +kernel
theorem dL_act_312 : decode cL_act 312 = .ok (.if_icmp .eq 5, 3) := by decide +kernel
theorem dL_act_315 : decode cL_act 315 = .ok (.iconst 0, 1) := by decide +kernel
theorem dL_act_316 : decode cL_act 316 = .ok (.ireturn, 1) := by decide +kernel
theorem dL_act_317 : decode cL_act 317 = .ok (.aload_n 1, 1) := by decide +kernel
theorem dL_act_318 : decode cL_act 318 = .ok (.dup, 1) := by decide +kernel
theorem dL_act_319 : decode cL_act 319 = .ok (.getfield 30, 3) := by decide +kernel
theorem dL_act_322 : decode cL_act 322 = .ok (.iconst 1, 1) := by decide +kernel
theorem dL_act_323 : decode cL_act 323 = .ok (.iadd, 1) := by decide +kernel
theorem dL_act_324 : decode cL_act 324 = .ok (.putfield 30, 3) := by decide +kernel
theorem dL_act_327 : decode cL_act 327 = .ok (.aload_n 1, 1) := by decide +kernel
theorem dL_act_328 : decode cL_act 328 = .ok (.invokevirtual 43, 3) := by decide +kernel
theorem dL_act_331 : decode cL_act 331 = .ok (.iconst 1, 1) := by decide +kernel
theorem dL_act_332 : decode cL_act 332 = .ok (.ireturn, 1) := by decide +kernel
theorem dL_act_333 : decode cL_act 333 = .ok (.iload_n 3, 1) := by decide +kernel
theorem dL_act_334 : decode cL_act 334 = .ok (.iconst 5, 1) := by decide +kernel
theorem dL_act_335 : decode cL_act 335 = .ok (.if_icmp .ne 92, 3) := by decide +kernel
theorem dL_act_338 : decode cL_act 338 = .ok (.iload_n 2, 1) := by decide +kernel
theorem dL_act_339 : decode cL_act 339 = .ok (.iconst 4, 1) := by decide +kernel
theorem dL_act_340 : decode cL_act 340 = .ok (.ishr, 1) := by decide +kernel
theorem dL_act_341 : decode cL_act 341 = .ok (.iconst 4, 1) := by decide +kernel
theorem dL_act_342 : decode cL_act 342 = .ok (.invokestatic 9, 3) := by decide +kernel
theorem dL_act_345 : decode cL_act 345 = .ok (.istore 5, 2) := by decide +kernel
theorem dL_act_347 : decode cL_act 347 = .ok (.iload 5, 2) := by decide +kernel
theorem dL_act_349 : decode cL_act 349 = .ok (.iconst 1, 1) := by decide +kernel
theorem dL_act_350 : decode cL_act 350 = .ok (.iadd, 1) := by decide +kernel
theorem dL_act_351 : decode cL_act 351 = .ok (.iload_n 2, 1) := by decide +kernel
theorem dL_act_352 : decode cL_act 352 = .ok (.bipush 6, 2) := by decide +kernel
theorem dL_act_354 : decode cL_act 354 = .ok (.ishr, 1) := by decide +kernel
theorem dL_act_355 : decode cL_act 355 = .ok (.iconst 3, 1) := by decide +kernel
theorem dL_act_356 : decode cL_act 356 = .ok (.invokestatic 9, 3) := by decide +kernel
theorem dL_act_359 : decode cL_act 359 = .ok (.iadd, 1) := by decide +kernel
theorem dL_act_360 : decode cL_act 360 = .ok (.iconst 4, 1) := by decide +kernel
theorem dL_act_361 : decode cL_act 361 = .ok (.irem, 1) := by decide +kernel
theorem dL_act_362 : decode cL_act 362 = .ok (.istore 6, 2) := by decide +kernel
theorem dL_act_364 : decode cL_act 364 = .ok (.iconst 1, 1) := by decide +kernel
theorem dL_act_365 : decode cL_act 365 = .ok (.iload_n 2, 1) := by decide +kernel
theorem dL_act_366 : decode cL_act 366 = .ok (.iconst 3, 1) := by decide +kernel
theorem dL_act_367 : decode cL_act 367 = .ok (.ishr, 1) := by decide +kernel
theorem dL_act_368 : decode cL_act 368 = .ok (.bipush 30, 2) := by decide +kernel
theorem dL_act_370 : decode cL_act 370 = .ok (.invokestatic 9, 3) := by decide +kernel
theorem dL_act_373 : decode cL_act 373 = .ok (.iadd, 1) := by decide +kernel
theorem dL_act_374 : decode cL_act 374 = .ok (.istore 7, 2) := by decide +kernel
theorem dL_act_376 : decode cL_act 376 = .ok (.aload_n 0, 1) := by decide +kernel
theorem dL_act_377 : decode cL_act 377 = .ok (.iload 5, 2) := by decide +kernel
theorem dL_act_379 : decode cL_act 379 = .ok (.iload 6, 2) := by decide +kernel
theorem dL_act_381 : decode cL_act 381 = .ok (.iload 7, 2) := by decide +kernel
theorem dL_act_383 : decode cL_act 383 = .ok (.invokevirtual 46, 3) := by decide +kernel
theorem dL_act_386 : decode cL_act 386 = .ok (.aload_n 1, 1) := by decide +kernel
theorem dL_act_387 : decode cL_act 387 = .ok (.getfield 50, 3) := by decide +kernel
theorem dL_act_390 : decode cL_act 390 = .ok (.iload 5, 2) := by decide +kernel
theorem dL_act_392 : decode cL_act 392 = .ok (.aaload, 1) := by decide +kernel
theorem dL_act_393 : decode cL_act 393 = .ok (.iload 6, 2) := by decide +kernel
theorem dL_act_395 : decode cL_act 395 = .ok (.iaload, 1) := by decide +kernel
theorem dL_act_396 : decode cL_act 396 = .ok (.if_icmp .eq 5, 3) := by decide +kernel
theorem dL_act_399 : decode cL_act 399 = .ok (.iconst 0, 1) := by decide +kernel
theorem dL_act_400 : decode cL_act 400 = .ok (.ireturn, 1) := by decide +kernel
theorem dL_act_401 : decode cL_act 401 = .ok (.aload_n 1, 1) := by decide +kernel
theorem dL_act_402 : decode cL_act 402 = .ok (.getfield 50, 3) := by decide +kernel
theorem dL_act_405 : decode cL_act 405 = .ok (.iload 5, 2) := by decide +kernel
theorem dL_act_407 : decode cL_act 407 = .ok (.aaload, 1) := by decide +kernel
theorem dL_act_408 : decode cL_act 408 = .ok (.iload 6, 2) := by decide +kernel
theorem dL_act_410 : decode cL_act 410 = .ok (.iload 7, 2) := by decide +kernel
theorem dL_act_412 : decode cL_act 412 = .ok (.iastore, 1) := by decide +kernel
theorem dL_act_413 : decode cL_act 413 = .ok (.aload_n 1, 1) := by decide +kernel
theorem dL_act_414 : decode cL_act 414 = .ok (.getfield 50, 3) := by decide +kernel
theorem dL_act_417 : decode cL_act 417 = .ok (.iload 6, 2) := by decide +kernel
theorem dL_act_419 : decode cL_act 419 = .ok (.aaload, 1) := by decide +kernel
theorem dL_act_420 : decode cL_act 420 = .ok (.iload 5, 2) := by decide +kernel
theorem dL_act_422 : decode cL_act 422 = .ok (.iload 7, 2) := by decide +kernel
theorem dL_act_424 : decode cL_act 424 = .ok (.iastore, 1) := by decide +kernel
theorem dL_act_425 : decode cL_act 425 = .ok (.iconst 1, 1) := by decide +kernel
theorem dL_act_426 : decode cL_act 426 = .ok (.ireturn, 1) := by decide +kernel
theorem dL_act_427 : decode cL_act 427 = .ok (.bipush (-3), 2) := by decide +kernel
theorem dL_act_429 : decode cL_act 429 = .ok (.istore 5, 2) := by decide +kernel
theorem dL_act_431 : decode cL_act 431 = .ok (.aload_n 1, 1) := by decide +kernel
theorem dL_act_432 : decode cL_act 432 = .ok (.getfield 21, 3) := by decide +kernel
theorem dL_act_435 : decode cL_act 435 = .ok (.iload 4, 2) := by decide +kernel
theorem dL_act_437 : decode cL_act 437 = .ok (.aaload, 1) := by decide +kernel
theorem dL_act_438 : decode cL_act 438 = .ok (.iconst 2, 1) := by decide +kernel
theorem dL_act_439 : decode cL_act 439 = .ok (.iaload, 1) := by decide +kernel
theorem dL_act_440 : decode cL_act 440 = .ok (.iconst 1, 1) := by decide +kernel
theorem dL_act_441 : decode cL_act 441 = .ok (.if_icmp .ne 19, 3) := by decide +kernel
theorem dL_act_444 : decode cL_act 444 = .ok (.aload_n 1, 1) := by decide +kernel
theorem dL_act_445 : decode cL_act 445 = .ok (.getfield 21, 3) := by decide +kernel
theorem dL_act_448 : decode cL_act 448 = .ok (.iload 4, 2) := by decide +kernel
theorem dL_act_450 : decode cL_act 450 = .ok (.aaload, 1) := by decide +kernel
theorem dL_act_451 : decode cL_act 451 = .ok (.iconst 3, 1) := by decide +kernel
theorem dL_act_452 : decode cL_act 452 = .ok (.iaload, 1) := by decide +kernel
theorem dL_act_453 : decode cL_act 453 = .ok (.ifCond .lt 7, 3) := by decide +kernel
theorem dL_act_456 : decode cL_act 456 = .ok (.iconst 1, 1) := by decide +kernel
theorem dL_act_457 : decode cL_act 457 = .ok (.goto 4, 3) := by decide +kernel
theorem dL_act_460 : decode cL_act 460 = .ok (.iconst 0, 1) := by decide +kernel
theorem dL_act_461 : decode cL_act 461 = .ok (.istore 6, 2) := by decide +kernel
theorem dL_act_463 : decode cL_act 463 = .ok (.bipush (-3), 2) := by decide +kernel
theorem dL_act_465 : decode cL_act 465 = .ok (.istore 7, 2) := by decide +kernel
theorem dL_act_467 : decode cL_act 467 = .ok (.iload_n 3, 1) := by decide +kernel
theorem dL_act_468 : decode cL_act 468 = .ok (.bipush 8, 2) := by decide +kernel
theorem dL_act_470 : decode cL_act 470 = .ok (.if_icmp .ge 54, 3) := by decide +kernel
theorem dL_act_473 : decode cL_act 473 = .ok (.aload_n 1, 1) := by decide +kernel
theorem dL_act_474 : decode cL_act 474 = .ok (.getfield 21, 3) := by decide +kernel
theorem dL_act_477 : decode cL_act 477 = .ok (.iload 4, 2) := by decide +kernel
theorem dL_act_479 : decode cL_act 479 = .ok (.aaload, 1) := by decide +kernel
theorem dL_act_480 : decode cL_act 480 = .ok (.iconst 2, 1) := by decide +kernel
theorem dL_act_481 : decode cL_act 481 = .ok (.iaload, 1) := by decide +kernel
theorem dL_act_482 : decode cL_act 482 = .ok (.ifCond .eq 14, 3) := by decide +kernel
theorem dL_act_485 : decode cL_act 485 = .ok (.iload_n 2, 1) := by decide +kernel
theorem dL_act_486 : decode cL_act 486 = .ok (.bipush 9, 2) := by decide +kernel
theorem dL_act_488 : decode cL_act 488 = .ok (.ishr, 1) := by decide +kernel
theorem dL_act_489 : decode cL_act 489 = .ok (.iconst 3, 1) := by decide +kernel
theorem dL_act_490 : decode cL_act 490 = .ok (.invokestatic 9, 3) := by decide +kernel
theorem dL_act_493 : decode cL_act 493 = .ok (.ifCond .le 16, 3) := by decide +kernel
theorem dL_act_496 : decode cL_act 496 = .ok (.aload_n 0, 1) := by decide +kernel
theorem dL_act_497 : decode cL_act 497 = .ok (.iload 4, 2) := by decide +kernel
theorem dL_act_499 : decode cL_act 499 = .ok (.invokevirtual 53, 3) := by decide +kernel
theorem dL_act_502 : decode cL_act 502 = .ok (.sipush 1000, 3) := by decide +kernel
theorem dL_act_505 : decode cL_act 505 = .ok (.iadd, 1) := by decide +kernel
theorem dL_act_506 : decode cL_act 506 = .ok (.goto 13, 3) := by decide +kernel
theorem dL_act_509 : decode cL_act 509 = .ok (.aload_n 0, 1) := by decide +kernel
theorem dL_act_510 : decode cL_act 510 = .ok (.iload 4, 2) := by decide +kernel
theorem dL_act_512 : decode cL_act 512 = .ok (.invokevirtual 57, 3) := by decide +kernel
theorem dL_act_515 : decode cL_act 515 = .ok (.sipush 2000, 3) := by decide +kernel
theorem dL_act_518 : decode cL_act 518 = .ok (.iadd, 1) := by decide +kernel
theorem dL_act_519 : decode cL_act 519 = .ok (.istore 5, 2) := by decide +kernel
theorem dL_act_521 : decode cL_act 521 = .ok (.goto 106, 3) := by decide +kernel
theorem dL_act_524 : decode cL_act 524 = .ok (.iload_n 3, 1) := by decide +kernel
theorem dL_act_525 : decode cL_act 525 = .ok (.bipush 11, 2) := by decide +kernel
theorem dL_act_527 : decode cL_act 527 = .ok (.if_icmp .ge 18, 3) := by decide +kernel
theorem dL_act_530 : decode cL_act 530 = .ok (.aload_n 0, 1) := by decide +kernel
theorem dL_act_531 : decode cL_act 531 = .ok (.iload 4, 2) := by decide +kernel
theorem dL_act_533 : decode cL_act 533 = .ok (.invokevirtual 60, 3) := by decide +kernel
theorem dL_act_536 : decode cL_act 536 = .ok (.sipush 3000, 3) := by decide +kernel
theorem dL_act_539 : decode cL_act 539 = .ok (.iadd, 1) := by decide +kernel
theorem dL_act_540 : decode cL_act 540 = .ok (.istore 5, 2) := by decide +kernel
theorem dL_act_542 : decode cL_act 542 = .ok (.goto 85, 3) := by decide +kernel
theorem dL_act_545 : decode cL_act 545 = .ok (.iload_n 3, 1) := by decide +kernel
theorem dL_act_546 : decode cL_act 546 = .ok (.bipush 11, 2) := by decide +kernel
theorem dL_act_548 : decode cL_act 548 = .ok (.if_icmp .ne 18, 3) := by decide +kernel
theorem dL_act_551 : decode cL_act 551 = .ok (.aload_n 0, 1) := by decide +kernel
theorem dL_act_552 : decode cL_act 552 = .ok (.iload 4, 2) := by decide +kernel
theorem dL_act_554 : decode cL_act 554 = .ok (.invokevirtual 63, 3) := by decide +kernel
theorem dL_act_557 : decode cL_act 557 = .ok (.sipush 4000, 3) := by decide +kernel
theorem dL_act_560 : decode cL_act 560 = .ok (.iadd, 1) := by decide +kernel
theorem dL_act_561 : decode cL_act 561 = .ok (.istore 5, 2) := by decide +kernel
theorem dL_act_563 : decode cL_act 563 = .ok (.goto 64, 3) := by decide +kernel
theorem dL_act_566 : decode cL_act 566 = .ok (.iload_n 3, 1) := by decide +kernel
theorem dL_act_567 : decode cL_act 567 = .ok (.bipush 12, 2) := by decide +kernel
theorem dL_act_569 : decode cL_act 569 = .ok (.if_icmp .ne 38, 3) := by decide +kernel
theorem dL_act_572 : decode cL_act 572 = .ok (.aload_n 1, 1) := by decide +kernel
theorem dL_act_573 : decode cL_act 573 = .ok (.getfield 30, 3) := by decide +kernel
theorem dL_act_576 : decode cL_act 576 = .ok (.ifCond .ne 8, 3) := by decide +kernel
theorem dL_act_579 : decode cL_act 579 = .ok (.bipush (-3), 2) := by decide +kernel
theorem dL_act_581 : decode cL_act 581 = .ok (.goto 21, 3) := by decide +kernel
theorem dL_act_584 : decode cL_act 584 = .ok (.aload_n 0, 1) := by decide +kernel
theorem dL_act_585 : decode cL_act 585 = .ok (.iload_n 2, 1) := by decide +kernel
theorem dL_act_586 : decode cL_act 586 = .ok (.iconst 3, 1) := by decide +kernel
theorem dL_act_587 : decode cL_act 587 = .ok (.ishr, 1) := by decide +kernel
theorem dL_act_588 : decode cL_act 588 = .ok (.aload_n 1, 1) := by decide +kernel
theorem dL_act_589 : decode cL_act 589 = .ok (.getfield 30, 3) := by decide +kernel
theorem dL_act_592 : decode cL_act 592 = .ok (.invokestatic 9, 3) := by decide +kernel
theorem dL_act_595 : decode cL_act 595 = .ok (.invokevirtual 66, 3) := by decide +kernel
theorem dL_act_598 : decode cL_act 598 = .ok (.sipush 5000, 3) := by decide +kernel
theorem dL_act_601 : decode cL_act 601 = .ok (.iadd, 1) := by decide +kernel
theorem dL_act_602 : decode cL_act 602 = .ok (.istore 5, 2) := by decide +kernel
theorem dL_act_604 : decode cL_act 604 = .ok (.goto 23, 3) := by decide +kernel
theorem dL_act_607 : decode cL_act 607 = .ok (.aload_n 0, 1) := by decide +kernel
theorem dL_act_608 : decode cL_act 608 = .ok (.iconst 1, 1) := by decide +kernel
theorem dL_act_609 : decode cL_act 609 = .ok (.iload_n 2, 1) := by decide +kernel
theorem dL_act_610 : decode cL_act 610 = .ok (.iconst 3, 1) := by decide +kernel
theorem dL_act_611 : decode cL_act 611 = .ok (.ishr, 1) := by decide +kernel
theorem dL_act_612 : decode cL_act 612 = .ok (.bipush 12, 2) := by decide +kernel
theorem dL_act_614 : decode cL_act 614 = .ok (.invokestatic 9, 3) := by decide +kernel
theorem dL_act_617 : decode cL_act 617 = .ok (.iadd, 1) := by decide +kernel
theorem dL_act_618 : decode cL_act 618 = .ok (.invokevirtual 69, 3) := by decide +kernel
theorem dL_act_621 : decode cL_act 621 = .ok (.sipush 6000, 3) := by decide +kernel
theorem dL_act_624 : decode cL_act 624 = .ok (.iadd, 1) := by decide +kernel
theorem dL_act_625 : decode cL_act 625 = .ok (.istore 5, 2) := by decide +kernel
theorem dL_act_627 : decode cL_act 627 = .ok (.goto 9, 3) := by decide +kernel
theorem dL_act_630 : decode cL_act 630 = .ok (.astore 8, 2) := by decide +kernel
theorem dL_act_632 : decode cL_act 632 = .ok (.bipush (-3), 2) := by decide +kernel
theorem dL_act_634 : decode cL_act 634 = .ok (.istore 5, 2) := by decide +kernel
theorem dL_act_636 : decode cL_act 636 = .ok (.iload_n 3, 1) := by decide +kernel
theorem dL_act_637 : decode cL_act 637 = .ok (.bipush 8, 2) := by decide +kernel
theorem dL_act_639 : decode cL_act 639 = .ok (.if_icmp .ge 156, 3) := by decide +kernel
theorem dL_act_642 : decode cL_act 642 = .ok (.aload_n 1, 1) := by decide +kernel
theorem dL_act_643 : decode cL_act 643 = .ok (.getfield 21, 3) := by decide +kernel
theorem dL_act_646 : decode cL_act 646 = .ok (.iload 4, 2) := by decide +kernel
theorem dL_act_648 : decode cL_act 648 = .ok (.aaload, 1) := by decide +kernel
theorem dL_act_649 : decode cL_act 649 = .ok (.iconst 2, 1) := by decide +kernel
theorem dL_act_650 : decode cL_act 650 = .ok (.iaload, 1) := by decide +kernel
theorem dL_act_651 : decode cL_act 651 = .ok (.ifCond .eq 14, 3) := by decide +kernel
theorem dL_act_654 : decode cL_act 654 = .ok (.iload_n 2, 1) := by decide +kernel
theorem dL_act_655 : decode cL_act 655 = .ok (.bipush 9, 2) := by decide +kernel
theorem dL_act_657 : decode cL_act 657 = .ok (.ishr, 1) := by decide +kernel
theorem dL_act_658 : decode cL_act 658 = .ok (.iconst 3, 1) := by decide +kernel
theorem dL_act_659 : decode cL_act 659 = .ok (.invokestatic 9, 3) := by decide +kernel
theorem dL_act_662 : decode cL_act 662 = .ok (.ifCond .le 7, 3) := by decide +kernel
theorem dL_act_665 : decode cL_act 665 = .ok (.iconst 1, 1) := by decide +kernel
theorem dL_act_666 : decode cL_act 666 = .ok (.goto 4, 3) := by decide +kernel
theorem dL_act_669 : decode cL_act 669 = .ok (.iconst 0, 1) := by decide +kernel
theorem dL_act_670 : decode cL_act 670 = .ok (.istore 8, 2) := by decide +kernel
theorem dL_act_672 : decode cL_act 672 = .ok (.iload 8, 2) := by decide +kernel
theorem dL_act_674 : decode cL_act 674 = .ok (.ifCond .eq 49, 3) := by decide +kernel
theorem dL_act_677 : decode cL_act 677 = .ok (.aload_n 1, 1) := by decide +kernel
theorem dL_act_678 : decode cL_act 678 = .ok (.getfield 21, 3) := by decide +kernel
theorem dL_act_681 : decode cL_act 681 = .ok (.iload 4, 2) := by decide +kernel
theorem dL_act_683 : decode cL_act 683 = .ok (.aaload, 1) := by decide +kernel
theorem dL_act_684 : decode cL_act 684 = .ok (.iconst 2, 1) := by decide +kernel
theorem dL_act_685 : decode cL_act 685 = .ok (.iaload, 1) := by decide +kernel
theorem dL_act_686 : decode cL_act 686 = .ok (.ifCond .ne 37, 3) := by decide +kernel
theorem dL_act_689 : decode cL_act 689 = .ok (.aload_n 1, 1) := by decide +kernel
theorem dL_act_690 : decode cL_act 690 = .ok (.getfield 21, 3) := by decide +kernel
theorem dL_act_693 : decode cL_act 693 = .ok (.iload 4, 2) := by decide +kernel
theorem dL_act_695 : decode cL_act 695 = .ok (.aaload, 1) := by decide +kernel
theorem dL_act_696 : decode cL_act 696 = .ok (.iconst 2, 1) := by decide +kernel
theorem dL_act_697 : decode cL_act 697 = .ok (.iconst 1, 1) := by decide +kernel
theorem dL_act_698 : decode cL_act 698 = .ok (.iastore, 1) := by decide +kernel
theorem dL_act_699 : decode cL_act 699 = .ok (.sipush 1000, 3) := by decide +kernel
theorem dL_act_702 : decode cL_act 702 = .ok (.aload_n 1, 1) := by decide +kernel
theorem dL_act_703 : decode cL_act 703 = .ok (.aload_n 1, 1) := by decide +kernel
theorem dL_act_704 : decode cL_act 704 = .ok (.getfield 21, 3) := by decide +kernel
theorem dL_act_707 : decode cL_act 707 = .ok (.iload 4, 2) := by decide +kernel
theorem dL_act_709 : decode cL_act 709 = .ok (.aaload, 1) := by decide +kernel
theorem dL_act_710 : decode cL_act 710 = .ok (.iconst 1, 1) := by decide +kernel
theorem dL_act_711 : decode cL_act 711 = .ok (.iaload, 1) := by decide +kernel
theorem dL_act_712 : decode cL_act 712 = .ok (.iload 4, 2) := by decide +kernel
theorem dL_act_714 : decode cL_act 714 = .ok (.invokevirtual 74, 3) := by decide +kernel
theorem dL_act_717 : decode cL_act 717 = .ok (.iadd, 1) := by decide +kernel
theorem dL_act_718 : decode cL_act 718 = .ok (.istore 7, 2) := by decide +kernel
theorem dL_act_720 : decode cL_act 720 = .ok (.goto 72, 3) := by decide +kernel
theorem dL_act_723 : decode cL_act 723 = .ok (.iload 8, 2) := by decide +kernel
theorem dL_act_725 : decode cL_act 725 = .ok (.ifCond .ne 67, 3) := by decide +kernel
theorem dL_act_728 : decode cL_act 728 = .ok (.aload_n 1, 1) := by decide +kernel
theorem dL_act_729 : decode cL_act 729 = .ok (.getfield 21, 3) := by decide +kernel
theorem dL_act_732 : decode cL_act 732 = .ok (.iload 4, 2) := by decide +kernel
theorem dL_act_734 : decode cL_act 734 = .ok (.aaload, 1) := by decide +kernel
theorem dL_act_735 : decode cL_act 735 = .ok (.iconst 2, 1) := by decide +kernel
theorem dL_act_736 : decode cL_act 736 = .ok (.iaload, 1) := by decide +kernel
theorem dL_act_737 : decode cL_act 737 = .ok (.iconst 1, 1) := by decide +kernel
theorem dL_act_738 : decode cL_act 738 = .ok (.if_icmp .ne 54, 3) := by decide +kernel
theorem dL_act_741 : decode cL_act 741 = .ok (.iload 6, 2) := by decide +kernel
theorem dL_act_743 : decode cL_act 743 = .ok (.ifCond .eq 9, 3) := by decide +kernel
theorem dL_act_746 : decode cL_act 746 = .ok (.aload_n 1, 1) := by decide +kernel
theorem dL_act_747 : decode cL_act 747 = .ok (.iload 4, 2) := by decide +kernel
theorem dL_act_749 : decode cL_act 749 = .ok (.invokevirtual 77, 3) := by decide +kernel
theorem dL_act_752 : decode cL_act 752 = .ok (.aload_n 1, 1) := by decide +kernel
theorem dL_act_753 : decode cL_act 753 = .ok (.aload_n 1, 1) := by decide +kernel
theorem dL_act_754 : decode cL_act 754 = .ok (.getfield 21, 3) := by decide +kernel
theorem dL_act_757 : decode cL_act 757 = .ok (.iload 4, 2) := by decide +kernel
theorem dL_act_759 : decode cL_act 759 = .ok (.aaload, 1) := by decide +kernel
theorem dL_act_760 : decode cL_act 760 = .ok (.iconst 1, 1) := by decide +kernel
theorem dL_act_761 : decode cL_act 761 = .ok (.iaload, 1) := by decide +kernel
theorem dL_act_762 : decode cL_act 762 = .ok (.iload 4, 2) := by decide +kernel
theorem dL_act_764 : decode cL_act 764 = .ok (.invokevirtual 80, 3) := by decide +kernel
theorem dL_act_767 : decode cL_act 767 = .ok (.aload_n 1, 1) := by decide +kernel
theorem dL_act_768 : decode cL_act 768 = .ok (.getfield 21, 3) := by decide +kernel
theorem dL_act_771 : decode cL_act 771 = .ok (.iload 4, 2) := by decide +kernel
theorem dL_act_773 : decode cL_act 773 = .ok (.aaload, 1) := by decide +kernel
theorem dL_act_774 : decode cL_act 774 = .ok (.iconst 2, 1) := by decide +kernel
theorem dL_act_775 : decode cL_act 775 = .ok (.iconst 0, 1) := by decide +kernel
theorem dL_act_776 : decode cL_act 776 = .ok (.iastore, 1) := by decide +kernel
theorem dL_act_777 : decode cL_act 777 = .ok (.sipush 2000, 3) := by decide +kernel
theorem dL_act_780 : decode cL_act 780 = .ok (.aload_n 1, 1) := by decide +kernel
theorem dL_act_781 : decode cL_act 781 = .ok (.getfield 21, 3) := by decide +kernel
theorem dL_act_784 : decode cL_act 784 = .ok (.iload 4, 2) := by decide +kernel
theorem dL_act_786 : decode cL_act 786 = .ok (.aaload, 1) := by decide +kernel
theorem dL_act_787 : decode cL_act 787 = .ok (.iconst 1, 1) := by decide +kernel
theorem dL_act_788 : decode cL_act 788 = .ok (.iaload, 1) := by decide +kernel
theorem dL_act_789 : decode cL_act 789 = .ok (.iadd, 1) := by decide +kernel
theorem dL_act_790 : decode cL_act 790 = .ok (.istore 7, 2) := by decide +kernel
theorem dL_act_792 : decode cL_act 792 = .ok (.goto 176, 3) := by decide +kernel
theorem dL_act_795 : decode cL_act 795 = .ok (.iload_n 3, 1) := by decide +kernel
theorem dL_act_796 : decode cL_act 796 = .ok (.bipush 11, 2) := by decide +kernel
theorem dL_act_798 : decode cL_act 798 = .ok (.if_icmp .ge 28, 3) := by decide +kernel
theorem dL_act_801 : decode cL_act 801 = .ok (.iload 6, 2) := by decide +kernel
theorem dL_act_803 : decode cL_act 803 = .ok (.ifCond .eq 16, 3) := by decide +kernel
theorem dL_act_806 : decode cL_act 806 = .ok (.sipush 3000, 3) := by decide +kernel
theorem dL_act_809 : decode cL_act 809 = .ok (.aload_n 1, 1) := by decide +kernel
theorem dL_act_810 : decode cL_act 810 = .ok (.iload 4, 2) := by decide +kernel
theorem dL_act_812 : decode cL_act 812 = .ok (.invokevirtual 84, 3) := by decide +kernel
theorem dL_act_815 : decode cL_act 815 = .ok (.iadd, 1) := by decide +kernel
theorem dL_act_816 : decode cL_act 816 = .ok (.goto 5, 3) := by decide +kernel
theorem dL_act_819 : decode cL_act 819 = .ok (.bipush (-3), 2) := by decide +kernel
theorem dL_act_821 : decode cL_act 821 = .ok (.istore 7, 2) := by decide +kernel
theorem dL_act_823 : decode cL_act 823 = .ok (.goto 145, 3) := by decide +kernel
theorem dL_act_826 : decode cL_act 826 = .ok (.iload_n 3, 1) := by decide +kernel
theorem dL_act_827 : decode cL_act 827 = .ok (.bipush 11, 2) := by decide +kernel
theorem dL_act_829 : decode cL_act 829 = .ok (.if_icmp .ne 38, 3) := by decide +kernel
theorem dL_act_832 : decode cL_act 832 = .ok (.iload 6, 2) := by decide +kernel
theorem dL_act_834 : decode cL_act 834 = .ok (.ifCond .eq 33, 3) := by decide +kernel
theorem dL_act_837 : decode cL_act 837 = .ok (.sipush 4000, 3) := by decide +kernel
theorem dL_act_840 : decode cL_act 840 = .ok (.aload_n 1, 1) := by decide +kernel
theorem dL_act_841 : decode cL_act 841 = .ok (.getfield 21, 3) := by decide +kernel
theorem dL_act_844 : decode cL_act 844 = .ok (.iload 4, 2) := by decide +kernel
theorem dL_act_846 : decode cL_act 846 = .ok (.aaload, 1) := by decide +kernel
theorem dL_act_847 : decode cL_act 847 = .ok (.iconst 3, 1) := by decide +kernel
theorem dL_act_848 : decode cL_act 848 = .ok (.iaload, 1) := by decide +kernel
theorem dL_act_849 : decode cL_act 849 = .ok (.iadd, 1) := by decide +kernel
theorem dL_act_850 : decode cL_act 850 = .ok (.istore 7, 2) := by decide +kernel
theorem dL_act_852 : decode cL_act 852 = .ok (.aload_n 1, 1) := by decide +kernel
theorem dL_act_853 : decode cL_act 853 = .ok (.iload 4, 2) := by decide +kernel
theorem dL_act_855 : decode cL_act 855 = .ok (.invokevirtual 77, 3) := by decide +kernel
theorem dL_act_858 : decode cL_act 858 = .ok (.aload_n 1, 1) := by decide +kernel
theorem dL_act_859 : decode cL_act 859 = .ok (.iload 4, 2) := by decide +kernel
theorem dL_act_861 : decode cL_act 861 = .ok (.invokevirtual 85, 3) := by decide +kernel
theorem dL_act_864 : decode cL_act 864 = .ok (.goto 104, 3) := by decide +kernel
theorem dL_act_867 : decode cL_act 867 = .ok (.iload_n 3, 1) := by decide +kernel
theorem dL_act_868 : decode cL_act 868 = .ok (.bipush 12, 2) := by decide +kernel
theorem dL_act_870 : decode cL_act 870 = .ok (.if_icmp .ne 50, 3) := by decide +kernel
theorem dL_act_873 : decode cL_act 873 = .ok (.aload_n 1, 1) := by decide +kernel
theorem dL_act_874 : decode cL_act 874 = .ok (.getfield 30, 3) := by decide +kernel
theorem dL_act_877 : decode cL_act 877 = .ok (.ifCond .le 43, 3) := by decide +kernel
theorem dL_act_880 : decode cL_act 880 = .ok (.iload_n 2, 1) := by decide +kernel
theorem dL_act_881 : decode cL_act 881 = .ok (.iconst 3, 1) := by decide +kernel
theorem dL_act_882 : decode cL_act 882 = .ok (.ishr, 1) := by decide +kernel
theorem dL_act_883 : decode cL_act 883 = .ok (.aload_n 1, 1) := by decide +kernel
theorem dL_act_884 : decode cL_act 884 = .ok (.getfield 30, 3) := by decide +kernel
theorem dL_act_887 : decode cL_act 887 = .ok (.invokestatic 9, 3) := by decide +kernel
theorem dL_act_890 : decode cL_act 890 = .ok (.istore 8, 2) := by decide +kernel
theorem dL_act_892 : decode cL_act 892 = .ok (.aload_n 1, 1) := by decide +kernel
theorem dL_act_893 : decode cL_act 893 = .ok (.getfield 36, 3) := by decide +kernel
theorem dL_act_896 : decode cL_act 896 = .ok (.iload 8, 2) := by decide +kernel
theorem dL_act_898 : decode cL_act 898 = .ok (.aaload, 1) := by decide +kernel
theorem dL_act_899 : decode cL_act 899 = .ok (.iconst 4, 1) := by decide +kernel
theorem dL_act_900 : decode cL_act 900 = .ok (.iaload, 1) := by decide +kernel
theorem dL_act_901 : decode cL_act 901 = .ok (.iconst 3, 1) := by decide +kernel
theorem dL_act_902 : decode cL_act 902 = .ok (.if_icmp .ge 15, 3) := by decide +kernel
theorem dL_act_905 : decode cL_act 905 = .ok (.sipush 5000, 3) := by decide +kernel
theorem dL_act_908 : decode cL_act 908 = .ok (.aload_n 1, 1) := by decide +kernel
theorem dL_act_909 : decode cL_act 909 = .ok (.iload 8, 2) := by decide +kernel
theorem dL_act_911 : decode cL_act 911 = .ok (.invokevirtual 88, 3) := by decide +kernel
theorem dL_act_914 : decode cL_act 914 = .ok (.iadd, 1) := by decide +kernel
theorem dL_act_915 : decode cL_act 915 = .ok (.istore 7, 2) := by decide +kernel
theorem dL_act_917 : decode cL_act 917 = .ok (.goto 51, 3) := by decide +kernel
theorem dL_act_920 : decode cL_act 920 = .ok (.iload_n 3, 1) := by decide +kernel
theorem dL_act_921 : decode cL_act 921 = .ok (.bipush 12, 2) := by decide +kernel
theorem dL_act_923 : decode cL_act 923 = .ok (.if_icmp .le 45, 3) := by decide +kernel
theorem dL_act_926 : decode cL_act 926 = .ok (.sipush 6000, 3) := by decide +kernel
theorem dL_act_929 : decode cL_act 929 = .ok (.istore 7, 2) := by decide +kernel
theorem dL_act_931 : decode cL_act 931 = .ok (.iconst 1, 1) := by decide +kernel
theorem dL_act_932 : decode cL_act 932 = .ok (.iload_n 2, 1) := by decide +kernel
theorem dL_act_933 : decode cL_act 933 = .ok (.iconst 3, 1) := by decide +kernel
theorem dL_act_934 : decode cL_act 934 = .ok (.ishr, 1) := by decide +kernel
theorem dL_act_935 : decode cL_act 935 = .ok (.bipush 12, 2) := by decide +kernel
theorem dL_act_937 : decode cL_act 937 = .ok (.invokestatic 9, 3) := by decide +kernel
theorem dL_act_940 : decode cL_act 940 = .ok (.iadd, 1) := by decide +kernel
theorem dL_act_941 : decode cL_act 941 = .ok (.istore 8, 2) := by decide +kernel
theorem dL_act_943 : decode cL_act 943 = .ok (.iconst 0, 1) := by decide +kernel
theorem dL_act_944 : decode cL_act 944 = .ok (.istore 9, 2) := by decide +kernel
theorem dL_act_946 : decode cL_act 946 = .ok (.iload 9, 2) := by decide +kernel
theorem dL_act_948 : decode cL_act 948 = .ok (.iload 8, 2) := by decide +kernel
theorem dL_act_950 : decode cL_act 950 = .ok (.if_icmp .ge 18, 3) := by decide +kernel
theorem dL_act_953 : decode cL_act 953 = .ok (.iload 7, 2) := by decide +kernel
theorem dL_act_955 : decode cL_act 955 = .ok (.aload_n 1, 1) := by decide +kernel
theorem dL_act_956 : decode cL_act 956 = .ok (.invokevirtual 89, 3) := by decide +kernel
theorem dL_act_959 : decode cL_act 959 = .ok (.iadd, 1) := by decide +kernel
theorem dL_act_960 : decode cL_act 960 = .ok (.istore 7, 2) := by decide +kernel
theorem dL_act_962 : decode cL_act 962 = .ok (.iinc 9 1, 3) := by decide +kernel
theorem dL_act_965 : decode cL_act 965 = .ok (.goto (-19), 3) := by decide +kernel
theorem dL_act_968 : decode cL_act 968 = .ok (.aload_n 1, 1) := by decide +kernel
theorem dL_act_969 : decode cL_act 969 = .ok (.invokevirtual 43, 3) := by decide +kernel
theorem dL_act_972 : decode cL_act 972 = .ok (.iload 5, 2) := by decide +kernel
theorem dL_act_974 : decode cL_act 974 = .ok (.iload 7, 2) := by decide +kernel
theorem dL_act_976 : decode cL_act 976 = .ok (.if_icmp .ne 7, 3) := by decide +kernel
theorem dL_act_979 : decode cL_act 979 = .ok (.iconst 1, 1) := by decide +kernel
theorem dL_act_980 : decode cL_act 980 = .ok (.goto 4, 3) := by decide +kernel
theorem dL_act_983 : decode cL_act 983 = .ok (.iconst 0, 1) := by decide +kernel
theorem dL_act_984 : decode cL_act 984 = .ok (.ireturn, 1) := by decide +kernel
set_option maxRecDepth 20000 in
theorem ggL_law_X2_init : GoodIn wsL_law wsX2_init := goodIn_r _ [18, 19, 20, 21, 6, 22, 23, 24, 25, 26, 27, 28, 29, 30, 31, 32, 33, 34, 35, 36, 37, 38, 39, 40, 41, 42, 43, 44, 433, 434, 435, 436, 437, 438, 439, 451, 452, 453] (by decide +kernel) (by decide +kernel)
set_option maxRecDepth 20000 in
theorem gL_law_X2_init : GoodIn wsL_law (wsX2_init) := ggL_law_X2_init
set_option maxRecDepth 20000 in
theorem ggL_law_X3_init : GoodIn wsL_law wsX3_init := goodIn_r _ [47, 48, 20, 21, 49, 6, 50, 51, 52, 53, 54, 55, 56, 57, 58, 59, 60, 440, 441, 442, 443, 444, 445, 446, 447, 448, 449, 450] (by decide +kernel) (by decide +kernel)
set_option maxRecDepth 20000 in
theorem gL_law_X3_init : GoodIn wsL_law (wsX3_init) := ggL_law_X3_init
set_option maxRecDepth 20000 in
theorem ggL_law_L_cell : GoodIn wsL_law wsL_cell := goodIn_r _ [64, 65] (by decide +kernel) (by decide +kernel)
set_option maxRecDepth 20000 in
theorem gL_law_L_cell : GoodIn wsL_law (va_wsS RL 95 yL_cell wsL_cell) := goodIn_app (goodIn_of _ (by decide +kernel)) ggL_law_L_cell
theorem goodIn_cc {big a : List Cond} {c : Cond} (hm : c ∈ big) (hg : goodWord c = true) (ha : GoodIn big a) : GoodIn big (c :: a) := fun w h => (List.mem_cons.mp h).elim (fun e => by rw [e]; exact ⟨hm, good_of_word hg⟩) (ha w)
set_option maxRecDepth 20000 in
theorem ga_wsL_act_r1 : GoodIn wsL_law wsL_act_r1 := goodIn_r _ [69, 8, 11, 6, 7, 70, 9, 71, 72, 73, 63, 74, 75, 76, 77, 78, 2, 79, 80, 81, 82, 83, 26, 84] (by decide +kernel) (by decide +kernel)
set_option maxRecDepth 20000 in
theorem ga_wsL_act_r2 : GoodIn wsL_law wsL_act_r2 := goodIn_r _ [85, 86, 87, 88, 89, 90, 91, 92, 25, 93, 94, 95, 96, 97, 98, 20, 21, 99, 100, 101, 102, 103, 104, 105] (by decide +kernel) (by decide +kernel)
set_option maxRecDepth 20000 in
theorem ga_wsL_act_r3 : GoodIn wsL_law wsL_act_r3 := goodIn_r _ [106, 107, 108, 34, 109, 110, 111, 112, 113, 114, 115, 116, 117, 118, 119, 120, 33, 121, 13, 14, 15, 122, 123, 124] (by decide +kernel) (by decide +kernel)
set_option maxRecDepth 20000 in
theorem ga_wsL_act_r4 : GoodIn wsL_law wsL_act_r4 := goodIn_r _ [125, 126, 127, 128, 129, 130, 131, 132, 133, 134, 135, 136, 137, 138, 139, 140, 141, 142, 143, 144, 145, 146, 147, 148] (by decide +kernel) (by decide +kernel)
set_option maxRecDepth 20000 in
theorem ga_wsL_act_r5 : GoodIn wsL_law wsL_act_r5 := goodIn_r _ [149, 150, 151, 152, 153, 154, 155, 156, 27, 157, 158, 159, 160, 161, 162, 163, 164, 165, 166, 167, 168, 169, 170, 171] (by decide +kernel) (by decide +kernel)
set_option maxRecDepth 20000 in
theorem ga_wsL_act_r6 : GoodIn wsL_law wsL_act_r6 := goodIn_r _ [172, 173, 174, 175, 176, 177, 178, 179, 180, 181, 182, 183, 184, 185, 186, 187, 188, 189, 190, 191, 192, 193, 194, 195] (by decide +kernel) (by decide +kernel)
set_option maxRecDepth 20000 in
theorem ga_wsL_act_r7 : GoodIn wsL_law wsL_act_r7 := goodIn_r _ [196, 197, 198, 199, 200, 201, 202, 203, 204, 205, 206, 207, 208, 209, 210, 211, 212, 213, 214, 215, 216, 217, 218, 219] (by decide +kernel) (by decide +kernel)
set_option maxRecDepth 20000 in
theorem ga_wsL_act_r8 : GoodIn wsL_law wsL_act_r8 := goodIn_r _ [220, 221, 222, 223, 224, 225, 226, 227, 228, 229, 230, 231, 232, 233, 234, 235, 236, 237, 238, 239, 240, 241, 242, 243] (by decide +kernel) (by decide +kernel)
set_option maxRecDepth 20000 in
theorem ga_wsL_act_r9 : GoodIn wsL_law wsL_act_r9 := goodIn_r _ [22, 244, 245, 246, 5, 247, 248, 53, 249, 52, 250, 251, 252, 253, 50, 254, 255, 256, 257, 54, 57, 258, 259, 260] (by decide +kernel) (by decide +kernel)
set_option maxRecDepth 20000 in
theorem ga_wsL_act_r10 : GoodIn wsL_law wsL_act_r10 := goodIn_r _ [261, 262, 263, 264, 265, 266, 267, 268, 269, 270, 271, 272, 273, 274, 275, 276, 277, 278, 279, 280, 281, 282, 283, 284] (by decide +kernel) (by decide +kernel)
set_option maxRecDepth 20000 in
theorem ga_wsL_act_r11 : GoodIn wsL_law wsL_act_r11 := goodIn_r _ [285, 286, 287, 288, 289, 290, 291, 292, 293, 294, 295, 296, 297, 298, 299, 300, 301, 302, 303, 304, 305, 306, 307, 308] (by decide +kernel) (by decide +kernel)
set_option maxRecDepth 20000 in
theorem ga_wsL_act_r12 : GoodIn wsL_law wsL_act_r12 := goodIn_r _ [309, 310, 311, 312, 313, 314, 315, 316, 317, 318, 319, 320, 321, 322, 323, 324, 325, 326, 327, 328, 329, 330, 331, 332] (by decide +kernel) (by decide +kernel)
set_option maxRecDepth 20000 in
theorem ga_wsL_act_r13 : GoodIn wsL_law wsL_act_r13 := goodIn_r _ [333, 334, 335, 336, 337, 338, 339, 340, 341, 342, 343, 344, 345, 28, 346, 29, 347, 348, 349, 350, 351, 352, 353, 354] (by decide +kernel) (by decide +kernel)
set_option maxRecDepth 20000 in
theorem ga_wsL_act_r14 : GoodIn wsL_law wsL_act_r14 := goodIn_r _ [355, 356, 357, 358, 359, 360, 361, 362, 363, 364, 365, 366, 367, 368, 369, 370, 371, 372, 373, 374, 375, 376, 377, 378] (by decide +kernel) (by decide +kernel)
set_option maxRecDepth 20000 in
theorem ga_wsL_act_r15 : GoodIn wsL_law wsL_act_r15 := goodIn_r _ [379, 380, 381, 382, 383, 384, 385, 386, 387, 388, 389, 390, 391, 392, 393, 394, 395, 58, 59, 60, 396, 397, 398] (by decide +kernel) (by decide +kernel)
set_option maxRecDepth 20000 in
theorem ga_wsX30 : GoodIn wsL_law wsX30 := goodIn_r _ [440, 441, 442, 443, 444, 445, 446, 447, 448, 449, 450] (by decide +kernel) (by decide +kernel)
set_option maxRecDepth 20000 in
theorem ga_wsX20 : GoodIn wsL_law wsX20 := goodIn_r _ [433, 434, 435, 436, 437, 438, 439] (by decide +kernel) (by decide +kernel)
set_option maxRecDepth 20000 in
theorem ga_wsX00 : GoodIn wsL_law wsX00 := goodIn_r _ [454, 455, 456, 457, 458, 459, 460, 461, 462] (by decide +kernel) (by decide +kernel)
set_option maxRecDepth 20000 in
theorem ga_wsJx4a65c0 : GoodIn wsL_law wsJx4a65c0 := goodIn_r _ [451, 452, 453] (by decide +kernel) (by decide +kernel)
set_option maxRecDepth 20000 in
theorem ga_wsX10 : GoodIn wsL_law wsX10 := goodIn_r _ [463, 464, 465, 466, 467, 468, 469, 470, 471, 472, 473, 474, 475, 476, 477] (by decide +kernel) (by decide +kernel)
set_option maxRecDepth 20000 in
theorem ggL_law_L_act : GoodIn wsL_law wsL_act := goodIn_ca (goodIn_ca (goodIn_ca (goodIn_cc (List.mem_of_getElem? (i := 68) rfl) rfl (goodIn_app (goodIn_app (goodIn_app (goodIn_app (goodIn_app (goodIn_app ga_wsL_act_r1 (goodIn_app ga_wsL_act_r2 (goodIn_app ga_wsL_act_r3 (goodIn_app ga_wsL_act_r4 (goodIn_app ga_wsL_act_r5 (goodIn_app ga_wsL_act_r6 (goodIn_app ga_wsL_act_r7 (goodIn_app ga_wsL_act_r8 (goodIn_app ga_wsL_act_r9 (goodIn_app ga_wsL_act_r10 (goodIn_app ga_wsL_act_r11 (goodIn_app ga_wsL_act_r12 (goodIn_app ga_wsL_act_r13 (goodIn_app ga_wsL_act_r14 ga_wsL_act_r15)))))))))))))) ga_wsX30) ga_wsX20) ga_wsX00) ga_wsJx4a65c0) ga_wsX10)) (goodIn_sub (fun _ h => List.mem_append_left _ (List.mem_append_left _ (List.mem_append_right _ h))) (by decide +kernel))) (goodIn_sub (fun _ h => List.mem_append_left _ (List.mem_append_right _ h)) (by decide +kernel))) (goodIn_sub (fun _ h => List.mem_append_right _ h) (by decide +kernel))
set_option maxRecDepth 20000 in
theorem gL_law_L_act : GoodIn wsL_law (va_wsS RL 99 yL_act wsL_act) := goodIn_app (goodIn_of _ (by decide +kernel)) ggL_law_L_act
set_option maxRecDepth 20000 in
theorem ggL_law_X2_told : GoodIn wsL_law wsX2_told := goodIn_ca (goodIn_r _ [402, 163, 164, 312, 313, 314, 2, 315, 27, 188, 90, 91, 92, 25, 93, 94, 194, 195, 196, 197, 198, 199, 200, 201, 202, 203, 204, 205, 206, 207, 208, 209, 34, 403, 404, 405, 190, 191, 235, 341, 357, 227, 406, 407, 408, 409, 410, 411, 412, 433, 434, 435, 436, 437, 438, 439, 451, 452, 453, 463, 464, 465, 466, 467, 468, 469, 470, 471, 472, 473, 474, 475, 476, 477, 454, 455, 456, 457, 458, 459, 460, 461, 462] (by decide +kernel) (by decide +kernel)) (goodIn_sub (fun _ h => List.mem_append_right _ h) (by decide +kernel))
set_option maxRecDepth 20000 in
theorem gL_law_X2_told : GoodIn wsL_law (wsV RL 103 RX2 yX2_told wsX2_told) := goodIn_app (goodIn_of _ (by decide +kernel)) ggL_law_X2_told
set_option maxRecDepth 20000 in
theorem ggL_law_X2_cab : GoodIn wsL_law wsX2_cab := goodIn_ca (goodIn_r _ [416, 163, 164, 270, 271, 272, 2, 273, 26, 218, 90, 91, 92, 25, 93, 94, 194, 195, 196, 197, 198, 199, 200, 201, 202, 203, 204, 205, 206, 207, 208, 209, 34, 417, 418, 419, 420, 231, 219, 225, 193, 307, 279, 280, 281, 282, 221, 283, 284, 285, 433, 434, 435, 436, 437, 438, 439, 451, 452, 453, 454, 455, 456, 457, 458, 459, 460, 461, 462, 463, 464, 465, 466, 467, 468, 469, 470, 471, 472, 473, 474, 475, 476, 477] (by decide +kernel) (by decide +kernel)) (goodIn_sub (fun _ h => List.mem_append_right _ h) (by decide +kernel))
set_option maxRecDepth 20000 in
theorem gL_law_X2_cab : GoodIn wsL_law (wsV RL 110 RX2 yX2_cab wsX2_cab) := goodIn_app (goodIn_of _ (by decide +kernel)) ggL_law_X2_cab
set_option maxRecDepth 20000 in
theorem ggL_law_X2_now : GoodIn wsL_law wsX2_now := goodIn_r _ [424, 156, 433, 434, 435, 436, 437, 438, 439] (by decide +kernel) (by decide +kernel)
set_option maxRecDepth 20000 in
theorem gL_law_X2_now : GoodIn wsL_law (wsV RL 113 RX2 yX2_now wsX2_now) := goodIn_app (goodIn_of _ (by decide +kernel)) ggL_law_X2_now
set_option maxRecDepth 20000 in
theorem ggL_law_X2_refuse : GoodIn wsL_law wsX2_refuse := goodIn_ca (goodIn_ca (goodIn_r _ [306, 82, 83, 307, 270, 271, 272, 2, 273, 163, 164, 26, 218, 90, 91, 92, 25, 93, 94, 194, 195, 196, 197, 198, 199, 200, 201, 202, 203, 204, 205, 206, 207, 208, 209, 34, 294, 295, 296, 231, 193, 290, 291, 292, 293, 227, 190, 191, 232, 233, 234, 235, 274, 275, 276, 277, 278, 221, 180, 181, 182, 183, 184, 185, 186, 187, 27, 188, 189, 156, 192, 210, 211, 212, 213, 214, 215, 216, 217, 219, 220, 222, 223, 224, 225, 226, 228, 229, 230, 236, 237, 238, 239, 240, 241, 242, 243, 22, 463, 464, 465, 466, 467, 468, 469, 470, 471, 472, 473, 474, 475, 476, 477, 433, 434, 435, 436, 437, 438, 439, 451, 452, 453, 454, 455, 456, 457, 458, 459, 460, 461, 462] (by decide +kernel) (by decide +kernel)) (goodIn_sub (fun _ h => List.mem_append_left _ (List.mem_append_right _ h)) (by decide +kernel))) (goodIn_sub (fun _ h => List.mem_append_right _ h) (by decide +kernel))
set_option maxRecDepth 20000 in
theorem gL_law_X2_refuse : GoodIn wsL_law (wsV RL 63 RX2 yX2_refuse wsX2_refuse) := goodIn_app (goodIn_of _ (by decide +kernel)) ggL_law_X2_refuse
set_option maxRecDepth 20000 in
theorem ggL_law_X2_count : GoodIn wsL_law wsX2_count := goodIn_ca (goodIn_r _ [428, 163, 164, 26, 27, 90, 91, 92, 25, 93, 94, 429, 430, 431, 2, 432, 188, 190, 194, 195, 196, 197, 198, 199, 200, 201, 202, 203, 204, 205, 206, 207, 208, 209, 34, 433, 434, 435, 436, 437, 438, 439, 451, 452, 453, 463, 464, 465, 466, 467, 468, 469, 470, 471, 472, 473, 474, 475, 476, 477] (by decide +kernel) (by decide +kernel)) (goodIn_sub (fun _ h => List.mem_append_right _ h) (by decide +kernel))
set_option maxRecDepth 20000 in
theorem gL_law_X2_count : GoodIn wsL_law (wsV RL 120 RX2 yX2_count wsX2_count) := goodIn_app (goodIn_of _ (by decide +kernel)) ggL_law_X2_count
theorem dL_law_0 : decode cL_law 0 = .ok (.new 26, 3) := by decide +kernel
theorem dL_law_3 : decode cL_law 3 = .ok (.dup, 1) := by decide +kernel
theorem dL_law_4 : decode cL_law 4 = .ok (.invokespecial 93, 3) := by decide +kernel
theorem dL_law_7 : decode cL_law 7 = .ok (.astore_n 1, 1) := by decide +kernel
theorem dL_law_8 : decode cL_law 8 = .ok (.new 16, 3) := by decide +kernel
theorem dL_law_11 : decode cL_law 11 = .ok (.dup, 1) := by decide +kernel
theorem dL_law_12 : decode cL_law 12 = .ok (.invokespecial 94, 3) := by decide +kernel
theorem dL_law_15 : decode cL_law 15 = .ok (.astore_n 2, 1) := by decide +kernel
theorem dL_law_16 : decode cL_law 16 = .ok (.bipush 60, 2) := by decide +kernel
theorem dL_law_18 : decode cL_law 18 = .ok (.newarray .int, 2) := by decide +kernel
theorem dL_law_20 : decode cL_law 20 = .ok (.astore_n 3, 1) := by decide +kernel
theorem dL_law_21 : decode cL_law 21 = .ok (.bipush 60, 2) := by decide +kernel
theorem dL_law_23 : decode cL_law 23 = .ok (.newarray .int, 2) := by decide +kernel
theorem dL_law_25 : decode cL_law 25 = .ok (.astore 4, 2) := by decide +kernel
theorem dL_law_27 : decode cL_law 27 = .ok (.iconst 0, 1) := by decide +kernel
theorem dL_law_28 : decode cL_law 28 = .ok (.istore 5, 2) := by decide +kernel
theorem dL_law_30 : decode cL_law 30 = .ok (.iload 5, 2) := by decide +kernel
theorem dL_law_32 : decode cL_law 32 = .ok (.bipush 50, 2) := by decide +kernel
theorem dL_law_34 : decode cL_law 34 = .ok (.if_icmp .ge 393, 3) := by decide +kernel
theorem dL_law_37 : decode cL_law 37 = .ok (.aload_n 0, 1) := by decide +kernel
theorem dL_law_38 : decode cL_law 38 = .ok (.iload 5, 2) := by decide +kernel
theorem dL_law_40 : decode cL_law 40 = .ok (.bipush 16, 2) := by decide +kernel
theorem dL_law_42 : decode cL_law 42 = .ok (.irem, 1) := by decide +kernel
theorem dL_law_43 : decode cL_law 43 = .ok (.invokestatic 95, 3) := by decide +kernel
theorem dL_law_46 : decode cL_law 46 = .ok (.iload 5, 2) := by decide +kernel
theorem dL_law_48 : decode cL_law 48 = .ok (.bipush 16, 2) := by decide +kernel
theorem dL_law_50 : decode cL_law 50 = .ok (.idiv, 1) := by decide +kernel
theorem dL_law_51 : decode cL_law 51 = .ok (.iconst 5, 1) := by decide +kernel
theorem dL_law_52 : decode cL_law 52 = .ok (.imul, 1) := by decide +kernel
theorem dL_law_53 : decode cL_law 53 = .ok (.ishr, 1) := by decide +kernel
theorem dL_law_54 : decode cL_law 54 = .ok (.istore 6, 2) := by decide +kernel
theorem dL_law_56 : decode cL_law 56 = .ok (.aload_n 1, 1) := by decide +kernel
theorem dL_law_57 : decode cL_law 57 = .ok (.aload_n 2, 1) := by decide +kernel
theorem dL_law_58 : decode cL_law 58 = .ok (.iload 6, 2) := by decide +kernel
theorem dL_law_60 : decode cL_law 60 = .ok (.invokestatic 99, 3) := by decide +kernel
theorem dL_law_63 : decode cL_law 63 = .ok (.ifCond .ne 5, 3) := by decide +kernel
theorem dL_law_66 : decode cL_law 66 = .ok (.iconst 0, 1) := by decide +kernel
theorem dL_law_67 : decode cL_law 67 = .ok (.ireturn, 1) := by decide +kernel
theorem dL_law_68 : decode cL_law 68 = .ok (.iconst 0, 1) := by decide +kernel
theorem dL_law_69 : decode cL_law 69 = .ok (.istore 7, 2) := by decide +kernel
theorem dL_law_71 : decode cL_law 71 = .ok (.iload 7, 2) := by decide +kernel
theorem dL_law_73 : decode cL_law 73 = .ok (.aload_n 2, 1) := by decide +kernel
theorem dL_law_74 : decode cL_law 74 = .ok (.getfield 30, 3) := by decide +kernel
theorem dL_law_77 : decode cL_law 77 = .ok (.if_icmp .ge 344, 3) := by decide +kernel
theorem dL_law_80 : decode cL_law 80 = .ok (.aload_n 1, 1) := by decide +kernel
theorem dL_law_81 : decode cL_law 81 = .ok (.iload 7, 2) := by decide +kernel
theorem dL_law_83 : decode cL_law 83 = .ok (.iconst 0, 1) := by decide +kernel
theorem dL_law_84 : decode cL_law 84 = .ok (.invokevirtual 103, 3) := by decide +kernel
theorem dL_law_87 : decode cL_law 87 = .ok (.istore 8, 2) := by decide +kernel
theorem dL_law_89 : decode cL_law 89 = .ok (.aload_n 1, 1) := by decide +kernel
theorem dL_law_90 : decode cL_law 90 = .ok (.iload 7, 2) := by decide +kernel
theorem dL_law_92 : decode cL_law 92 = .ok (.iconst 4, 1) := by decide +kernel
theorem dL_law_93 : decode cL_law 93 = .ok (.invokevirtual 103, 3) := by decide +kernel
theorem dL_law_96 : decode cL_law 96 = .ok (.aload_n 3, 1) := by decide +kernel
theorem dL_law_97 : decode cL_law 97 = .ok (.iload 7, 2) := by decide +kernel
theorem dL_law_99 : decode cL_law 99 = .ok (.iaload, 1) := by decide +kernel
theorem dL_law_100 : decode cL_law 100 = .ok (.if_icmp .lt 17, 3) := by decide +kernel
theorem dL_law_103 : decode cL_law 103 = .ok (.aload_n 1, 1) := by decide +kernel
theorem dL_law_104 : decode cL_law 104 = .ok (.iload 7, 2) := by decide +kernel
theorem dL_law_106 : decode cL_law 106 = .ok (.iconst 4, 1) := by decide +kernel
theorem dL_law_107 : decode cL_law 107 = .ok (.invokevirtual 103, 3) := by decide +kernel
theorem dL_law_110 : decode cL_law 110 = .ok (.aload_n 2, 1) := by decide +kernel
theorem dL_law_111 : decode cL_law 111 = .ok (.getfield 15, 3) := by decide +kernel
theorem dL_law_114 : decode cL_law 114 = .ok (.if_icmp .le 5, 3) := by decide +kernel
theorem dL_law_117 : decode cL_law 117 = .ok (.iconst 0, 1) := by decide +kernel
theorem dL_law_118 : decode cL_law 118 = .ok (.ireturn, 1) := by decide +kernel
theorem dL_law_119 : decode cL_law 119 = .ok (.aload_n 3, 1) := by decide +kernel
theorem dL_law_120 : decode cL_law 120 = .ok (.iload 7, 2) := by decide +kernel
theorem dL_law_122 : decode cL_law 122 = .ok (.aload_n 1, 1) := by decide +kernel
theorem dL_law_123 : decode cL_law 123 = .ok (.iload 7, 2) := by decide +kernel
theorem dL_law_125 : decode cL_law 125 = .ok (.iconst 4, 1) := by decide +kernel
theorem dL_law_126 : decode cL_law 126 = .ok (.invokevirtual 103, 3) := by decide +kernel
theorem dL_law_129 : decode cL_law 129 = .ok (.iastore, 1) := by decide +kernel
theorem dL_law_130 : decode cL_law 130 = .ok (.aload_n 2, 1) := by decide +kernel
theorem dL_law_131 : decode cL_law 131 = .ok (.getfield 36, 3) := by decide +kernel
theorem dL_law_134 : decode cL_law 134 = .ok (.iload 7, 2) := by decide +kernel
theorem dL_law_136 : decode cL_law 136 = .ok (.aaload, 1) := by decide +kernel
theorem dL_law_137 : decode cL_law 137 = .ok (.iconst 3, 1) := by decide +kernel
theorem dL_law_138 : decode cL_law 138 = .ok (.iaload, 1) := by decide +kernel
theorem dL_law_139 : decode cL_law 139 = .ok (.istore 9, 2) := by decide +kernel
theorem dL_law_141 : decode cL_law 141 = .ok (.iload 8, 2) := by decide +kernel
theorem dL_law_143 : decode cL_law 143 = .ok (.iconst 1, 1) := by decide +kernel
theorem dL_law_144 : decode cL_law 144 = .ok (.if_icmp .ne 76, 3) := by decide +kernel
theorem dL_law_147 : decode cL_law 147 = .ok (.aload_n 1, 1) := by decide +kernel
theorem dL_law_148 : decode cL_law 148 = .ok (.iload 7, 2) := by decide +kernel
theorem dL_law_150 : decode cL_law 150 = .ok (.iconst 1, 1) := by decide +kernel
theorem dL_law_151 : decode cL_law 151 = .ok (.invokevirtual 103, 3) := by decide +kernel
theorem dL_law_154 : decode cL_law 154 = .ok (.istore 10, 2) := by decide +kernel
theorem dL_law_156 : decode cL_law 156 = .ok (.aload_n 2, 1) := by decide +kernel
theorem dL_law_157 : decode cL_law 157 = .ok (.getfield 106, 3) := by decide +kernel
theorem dL_law_160 : decode cL_law 160 = .ok (.iload 7, 2) := by decide +kernel
theorem dL_law_162 : decode cL_law 162 = .ok (.aaload, 1) := by decide +kernel
theorem dL_law_163 : decode cL_law 163 = .ok (.iload 10, 2) := by decide +kernel
theorem dL_law_165 : decode cL_law 165 = .ok (.baload, 1) := by decide +kernel
theorem dL_law_166 : decode cL_law 166 = .ok (.ifCond .ne 52, 3) := by decide +kernel
theorem dL_law_169 : decode cL_law 169 = .ok (.aload_n 1, 1) := by decide +kernel
theorem dL_law_170 : decode cL_law 170 = .ok (.iload 10, 2) := by decide +kernel
theorem dL_law_172 : decode cL_law 172 = .ok (.iconst 2, 1) := by decide +kernel
theorem dL_law_173 : decode cL_law 173 = .ok (.invokevirtual 110, 3) := by decide +kernel
theorem dL_law_176 : decode cL_law 176 = .ok (.aload_n 2, 1) := by decide +kernel
theorem dL_law_177 : decode cL_law 177 = .ok (.getfield 36, 3) := by decide +kernel
theorem dL_law_180 : decode cL_law 180 = .ok (.iload 7, 2) := by decide +kernel
theorem dL_law_182 : decode cL_law 182 = .ok (.aaload, 1) := by decide +kernel
theorem dL_law_183 : decode cL_law 183 = .ok (.iconst 2, 1) := by decide +kernel
theorem dL_law_184 : decode cL_law 184 = .ok (.iaload, 1) := by decide +kernel
theorem dL_law_185 : decode cL_law 185 = .ok (.if_icmp .lt 33, 3) := by decide +kernel
theorem dL_law_188 : decode cL_law 188 = .ok (.aload_n 1, 1) := by decide +kernel
theorem dL_law_189 : decode cL_law 189 = .ok (.invokevirtual 113, 3) := by decide +kernel
theorem dL_law_192 : decode cL_law 192 = .ok (.iload 9, 2) := by decide +kernel
theorem dL_law_194 : decode cL_law 194 = .ok (.bipush 15, 2) := by decide +kernel
theorem dL_law_196 : decode cL_law 196 = .ok (.isub, 1) := by decide +kernel
theorem dL_law_197 : decode cL_law 197 = .ok (.if_icmp .lt 21, 3) := by decide +kernel
theorem dL_law_200 : decode cL_law 200 = .ok (.aload_n 1, 1) := by decide +kernel
theorem dL_law_201 : decode cL_law 201 = .ok (.invokevirtual 113, 3) := by decide +kernel
theorem dL_law_204 : decode cL_law 204 = .ok (.aload_n 2, 1) := by decide +kernel
theorem dL_law_205 : decode cL_law 205 = .ok (.getfield 21, 3) := by decide +kernel
theorem dL_law_208 : decode cL_law 208 = .ok (.iload 10, 2) := by decide +kernel
theorem dL_law_210 : decode cL_law 210 = .ok (.aaload, 1) := by decide +kernel
theorem dL_law_211 : decode cL_law 211 = .ok (.iconst 4, 1) := by decide +kernel
theorem dL_law_212 : decode cL_law 212 = .ok (.iaload, 1) := by decide +kernel
theorem dL_law_213 : decode cL_law 213 = .ok (.isub, 1) := by decide +kernel
theorem dL_law_214 : decode cL_law 214 = .ok (.iconst 1, 1) := by decide +kernel
theorem dL_law_215 : decode cL_law 215 = .ok (.if_icmp .le 5, 3) := by decide +kernel
theorem dL_law_218 : decode cL_law 218 = .ok (.iconst 0, 1) := by decide +kernel
theorem dL_law_219 : decode cL_law 219 = .ok (.ireturn, 1) := by decide +kernel
theorem dL_law_220 : decode cL_law 220 = .ok (.iload 8, 2) := by decide +kernel
theorem dL_law_222 : decode cL_law 222 = .ok (.ifCond .ne 88, 3) := by decide +kernel
theorem dL_law_225 : decode cL_law 225 = .ok (.aload_n 1, 1) := by decide +kernel
theorem dL_law_226 : decode cL_law 226 = .ok (.invokevirtual 113, 3) := by decide +kernel
theorem dL_law_229 : decode cL_law 229 = .ok (.iload 9, 2) := by decide +kernel
theorem dL_law_231 : decode cL_law 231 = .ok (.bipush 15, 2) := by decide +kernel
theorem dL_law_233 : decode cL_law 233 = .ok (.isub, 1) := by decide +kernel
theorem dL_law_234 : decode cL_law 234 = .ok (.if_icmp .lt 76, 3) := by decide +kernel
theorem dL_law_237 : decode cL_law 237 = .ok (.iconst 0, 1) := by decide +kernel
theorem dL_law_238 : decode cL_law 238 = .ok (.istore 10, 2) := by decide +kernel
theorem dL_law_240 : decode cL_law 240 = .ok (.iload 10, 2) := by decide +kernel
theorem dL_law_242 : decode cL_law 242 = .ok (.aload_n 2, 1) := by decide +kernel
theorem dL_law_243 : decode cL_law 243 = .ok (.getfield 15, 3) := by decide +kernel
theorem dL_law_246 : decode cL_law 246 = .ok (.if_icmp .ge 64, 3) := by decide +kernel
theorem dL_law_249 : decode cL_law 249 = .ok (.aload_n 1, 1) := by decide +kernel
theorem dL_law_250 : decode cL_law 250 = .ok (.iload 10, 2) := by decide +kernel
theorem dL_law_252 : decode cL_law 252 = .ok (.iconst 0, 1) := by decide +kernel
theorem dL_law_253 : decode cL_law 253 = .ok (.invokevirtual 110, 3) := by decide +kernel
theorem dL_law_256 : decode cL_law 256 = .ok (.iconst 1, 1) := by decide +kernel
theorem dL_law_257 : decode cL_law 257 = .ok (.if_icmp .ne 47, 3) := by decide +kernel
theorem dL_law_260 : decode cL_law 260 = .ok (.aload_n 1, 1) := by decide +kernel
theorem dL_law_261 : decode cL_law 261 = .ok (.iload 10, 2) := by decide +kernel
theorem dL_law_263 : decode cL_law 263 = .ok (.iconst 3, 1) := by decide +kernel
theorem dL_law_264 : decode cL_law 264 = .ok (.invokevirtual 110, 3) := by decide +kernel
theorem dL_law_267 : decode cL_law 267 = .ok (.ifCond .ge 37, 3) := by decide +kernel
theorem dL_law_270 : decode cL_law 270 = .ok (.aload_n 1, 1) := by decide +kernel
theorem dL_law_271 : decode cL_law 271 = .ok (.iload 10, 2) := by decide +kernel
theorem dL_law_273 : decode cL_law 273 = .ok (.iconst 2, 1) := by decide +kernel
theorem dL_law_274 : decode cL_law 274 = .ok (.invokevirtual 110, 3) := by decide +kernel
theorem dL_law_277 : decode cL_law 277 = .ok (.aload_n 2, 1) := by decide +kernel
theorem dL_law_278 : decode cL_law 278 = .ok (.getfield 36, 3) := by decide +kernel
theorem dL_law_281 : decode cL_law 281 = .ok (.iload 7, 2) := by decide +kernel
theorem dL_law_283 : decode cL_law 283 = .ok (.aaload, 1) := by decide +kernel
theorem dL_law_284 : decode cL_law 284 = .ok (.iconst 2, 1) := by decide +kernel
theorem dL_law_285 : decode cL_law 285 = .ok (.iaload, 1) := by decide +kernel
theorem dL_law_286 : decode cL_law 286 = .ok (.if_icmp .lt 18, 3) := by decide +kernel
theorem dL_law_289 : decode cL_law 289 = .ok (.aload_n 2, 1) := by decide +kernel
theorem dL_law_290 : decode cL_law 290 = .ok (.getfield 106, 3) := by decide +kernel
theorem dL_law_293 : decode cL_law 293 = .ok (.iload 7, 2) := by decide +kernel
theorem dL_law_295 : decode cL_law 295 = .ok (.aaload, 1) := by decide +kernel
theorem dL_law_296 : decode cL_law 296 = .ok (.iload 10, 2) := by decide +kernel
theorem dL_law_298 : decode cL_law 298 = .ok (.baload, 1) := by decide +kernel
theorem dL_law_299 : decode cL_law 299 = .ok (.ifCond .ne 5, 3) := by decide +kernel
theorem dL_law_302 : decode cL_law 302 = .ok (.iconst 0, 1) := by decide +kernel
theorem dL_law_303 : decode cL_law 303 = .ok (.ireturn, 1) := by decide +kernel
theorem dL_law_304 : decode cL_law 304 = .ok (.iinc 10 1, 3) := by decide +kernel
theorem dL_law_307 : decode cL_law 307 = .ok (.goto (-67), 3) := by decide +kernel
theorem dL_law_310 : decode cL_law 310 = .ok (.aload_n 1, 1) := by decide +kernel
theorem dL_law_311 : decode cL_law 311 = .ok (.iload 7, 2) := by decide +kernel
theorem dL_law_313 : decode cL_law 313 = .ok (.iconst 2, 1) := by decide +kernel
theorem dL_law_314 : decode cL_law 314 = .ok (.invokevirtual 103, 3) := by decide +kernel
theorem dL_law_317 : decode cL_law 317 = .ok (.ifCond .lt 31, 3) := by decide +kernel
theorem dL_law_320 : decode cL_law 320 = .ok (.aload_n 1, 1) := by decide +kernel
theorem dL_law_321 : decode cL_law 321 = .ok (.iload 7, 2) := by decide +kernel
theorem dL_law_323 : decode cL_law 323 = .ok (.iconst 2, 1) := by decide +kernel
theorem dL_law_324 : decode cL_law 324 = .ok (.invokevirtual 103, 3) := by decide +kernel
theorem dL_law_327 : decode cL_law 327 = .ok (.iload 9, 2) := by decide +kernel
theorem dL_law_329 : decode cL_law 329 = .ok (.if_icmp .lt 17, 3) := by decide +kernel
theorem dL_law_332 : decode cL_law 332 = .ok (.aload_n 1, 1) := by decide +kernel
theorem dL_law_333 : decode cL_law 333 = .ok (.iload 7, 2) := by decide +kernel
theorem dL_law_335 : decode cL_law 335 = .ok (.iconst 2, 1) := by decide +kernel
theorem dL_law_336 : decode cL_law 336 = .ok (.invokevirtual 103, 3) := by decide +kernel
theorem dL_law_339 : decode cL_law 339 = .ok (.aload_n 1, 1) := by decide +kernel
theorem dL_law_340 : decode cL_law 340 = .ok (.invokevirtual 113, 3) := by decide +kernel
theorem dL_law_343 : decode cL_law 343 = .ok (.if_icmp .le 5, 3) := by decide +kernel
theorem dL_law_346 : decode cL_law 346 = .ok (.iconst 0, 1) := by decide +kernel
theorem dL_law_347 : decode cL_law 347 = .ok (.ireturn, 1) := by decide +kernel
theorem dL_law_348 : decode cL_law 348 = .ok (.iload 8, 2) := by decide +kernel
theorem dL_law_350 : decode cL_law 350 = .ok (.iconst 4, 1) := by decide +kernel
theorem dL_law_351 : decode cL_law 351 = .ok (.if_icmp .ne 22, 3) := by decide +kernel
theorem dL_law_354 : decode cL_law 354 = .ok (.aload_n 1, 1) := by decide +kernel
theorem dL_law_355 : decode cL_law 355 = .ok (.iload 7, 2) := by decide +kernel
theorem dL_law_357 : decode cL_law 357 = .ok (.iconst 3, 1) := by decide +kernel
theorem dL_law_358 : decode cL_law 358 = .ok (.invokevirtual 103, 3) := by decide +kernel
theorem dL_law_361 : decode cL_law 361 = .ok (.aload_n 1, 1) := by decide +kernel
theorem dL_law_362 : decode cL_law 362 = .ok (.iload 7, 2) := by decide +kernel
theorem dL_law_364 : decode cL_law 364 = .ok (.iconst 2, 1) := by decide +kernel
theorem dL_law_365 : decode cL_law 365 = .ok (.invokevirtual 103, 3) := by decide +kernel
theorem dL_law_368 : decode cL_law 368 = .ok (.if_icmp .gt 5, 3) := by decide +kernel
theorem dL_law_371 : decode cL_law 371 = .ok (.iconst 0, 1) := by decide +kernel
theorem dL_law_372 : decode cL_law 372 = .ok (.ireturn, 1) := by decide +kernel
theorem dL_law_373 : decode cL_law 373 = .ok (.aload 4, 2) := by decide +kernel
theorem dL_law_375 : decode cL_law 375 = .ok (.iload 7, 2) := by decide +kernel
theorem dL_law_377 : decode cL_law 377 = .ok (.aload 4, 2) := by decide +kernel
theorem dL_law_379 : decode cL_law 379 = .ok (.iload 7, 2) := by decide +kernel
theorem dL_law_381 : decode cL_law 381 = .ok (.iaload, 1) := by decide +kernel
theorem dL_law_382 : decode cL_law 382 = .ok (.iload 8, 2) := by decide +kernel
theorem dL_law_384 : decode cL_law 384 = .ok (.invokestatic 115, 3) := by decide +kernel
theorem dL_law_387 : decode cL_law 387 = .ok (.iastore, 1) := by decide +kernel
theorem dL_law_388 : decode cL_law 388 = .ok (.aload 4, 2) := by decide +kernel
theorem dL_law_390 : decode cL_law 390 = .ok (.iload 7, 2) := by decide +kernel
theorem dL_law_392 : decode cL_law 392 = .ok (.iaload, 1) := by decide +kernel
theorem dL_law_393 : decode cL_law 393 = .ok (.iload 8, 2) := by decide +kernel
theorem dL_law_395 : decode cL_law 395 = .ok (.if_icmp .le 20, 3) := by decide +kernel
theorem dL_law_398 : decode cL_law 398 = .ok (.aload 4, 2) := by decide +kernel
theorem dL_law_400 : decode cL_law 400 = .ok (.iload 7, 2) := by decide +kernel
theorem dL_law_402 : decode cL_law 402 = .ok (.iaload, 1) := by decide +kernel
theorem dL_law_403 : decode cL_law 403 = .ok (.iconst 2, 1) := by decide +kernel
theorem dL_law_404 : decode cL_law 404 = .ok (.if_icmp .le 11, 3) := by decide +kernel
theorem dL_law_407 : decode cL_law 407 = .ok (.iload 8, 2) := by decide +kernel
theorem dL_law_409 : decode cL_law 409 = .ok (.iconst 3, 1) := by decide +kernel
theorem dL_law_410 : decode cL_law 410 = .ok (.if_icmp .ge 5, 3) := by decide +kernel
theorem dL_law_413 : decode cL_law 413 = .ok (.iconst 0, 1) := by decide +kernel
theorem dL_law_414 : decode cL_law 414 = .ok (.ireturn, 1) := by decide +kernel
theorem dL_law_415 : decode cL_law 415 = .ok (.iinc 7 1, 3) := by decide +kernel
theorem dL_law_418 : decode cL_law 418 = .ok (.goto (-347), 3) := by decide +kernel
theorem dL_law_421 : decode cL_law 421 = .ok (.iinc 5 1, 3) := by decide +kernel
theorem dL_law_424 : decode cL_law 424 = .ok (.goto (-394), 3) := by decide +kernel
theorem dL_law_427 : decode cL_law 427 = .ok (.iconst 0, 1) := by decide +kernel
theorem dL_law_428 : decode cL_law 428 = .ok (.istore 5, 2) := by decide +kernel
theorem dL_law_430 : decode cL_law 430 = .ok (.iload 5, 2) := by decide +kernel
theorem dL_law_432 : decode cL_law 432 = .ok (.aload_n 2, 1) := by decide +kernel
theorem dL_law_433 : decode cL_law 433 = .ok (.getfield 15, 3) := by decide +kernel
theorem dL_law_436 : decode cL_law 436 = .ok (.if_icmp .ge 62, 3) := by decide +kernel
theorem dL_law_439 : decode cL_law 439 = .ok (.iconst 0, 1) := by decide +kernel
theorem dL_law_440 : decode cL_law 440 = .ok (.istore 6, 2) := by decide +kernel
theorem dL_law_442 : decode cL_law 442 = .ok (.aload_n 1, 1) := by decide +kernel
theorem dL_law_443 : decode cL_law 443 = .ok (.iload 5, 2) := by decide +kernel
theorem dL_law_445 : decode cL_law 445 = .ok (.iconst 0, 1) := by decide +kernel
theorem dL_law_446 : decode cL_law 446 = .ok (.invokevirtual 110, 3) := by decide +kernel
theorem dL_law_449 : decode cL_law 449 = .ok (.iconst 1, 1) := by decide +kernel
theorem dL_law_450 : decode cL_law 450 = .ok (.if_icmp .ne 33, 3) := by decide +kernel
theorem dL_law_453 : decode cL_law 453 = .ok (.aload_n 1, 1) := by decide +kernel
theorem dL_law_454 : decode cL_law 454 = .ok (.iload 5, 2) := by decide +kernel
theorem dL_law_456 : decode cL_law 456 = .ok (.iconst 3, 1) := by decide +kernel
theorem dL_law_457 : decode cL_law 457 = .ok (.invokevirtual 110, 3) := by decide +kernel
theorem dL_law_460 : decode cL_law 460 = .ok (.ifCond .lt 23, 3) := by decide +kernel
theorem dL_law_463 : decode cL_law 463 = .ok (.iload 6, 2) := by decide +kernel
theorem dL_law_465 : decode cL_law 465 = .ok (.bipush 60, 2) := by decide +kernel
theorem dL_law_467 : decode cL_law 467 = .ok (.if_icmp .ge 16, 3) := by decide +kernel
theorem dL_law_470 : decode cL_law 470 = .ok (.aload_n 1, 1) := by decide +kernel
theorem dL_law_471 : decode cL_law 471 = .ok (.iload 5, 2) := by decide +kernel
theorem dL_law_473 : decode cL_law 473 = .ok (.invokevirtual 63, 3) := by decide +kernel
theorem dL_law_476 : decode cL_law 476 = .ok (.pop, 1) := by decide +kernel
theorem dL_law_477 : decode cL_law 477 = .ok (.iinc 6 1, 3) := by decide +kernel
theorem dL_law_480 : decode cL_law 480 = .ok (.goto (-38), 3) := by decide +kernel
theorem dL_law_483 : decode cL_law 483 = .ok (.iload 6, 2) := by decide +kernel
theorem dL_law_485 : decode cL_law 485 = .ok (.bipush 60, 2) := by decide +kernel
theorem dL_law_487 : decode cL_law 487 = .ok (.if_icmp .ne 5, 3) := by decide +kernel
theorem dL_law_490 : decode cL_law 490 = .ok (.iconst 0, 1) := by decide +kernel
theorem dL_law_491 : decode cL_law 491 = .ok (.ireturn, 1) := by decide +kernel
theorem dL_law_492 : decode cL_law 492 = .ok (.iinc 5 1, 3) := by decide +kernel
theorem dL_law_495 : decode cL_law 495 = .ok (.goto (-65), 3) := by decide +kernel
theorem dL_law_498 : decode cL_law 498 = .ok (.aload_n 1, 1) := by decide +kernel
theorem dL_law_499 : decode cL_law 499 = .ok (.iconst 1, 1) := by decide +kernel
theorem dL_law_500 : decode cL_law 500 = .ok (.invokevirtual 120, 3) := by decide +kernel
theorem dL_law_503 : decode cL_law 503 = .ok (.aload_n 2, 1) := by decide +kernel
theorem dL_law_504 : decode cL_law 504 = .ok (.getfield 30, 3) := by decide +kernel
theorem dL_law_507 : decode cL_law 507 = .ok (.if_icmp .ne 7, 3) := by decide +kernel
theorem dL_law_510 : decode cL_law 510 = .ok (.iconst 1, 1) := by decide +kernel
theorem dL_law_511 : decode cL_law 511 = .ok (.goto 4, 3) := by decide +kernel
theorem dL_law_514 : decode cL_law 514 = .ok (.iconst 0, 1) := by decide +kernel
theorem dL_law_515 : decode cL_law 515 = .ok (.ireturn, 1) := by decide +kernel
abbrev vwCl : List vw_C := [(RJx4a65c, TJx4a65c, 3), (RX0, TX0, 9), (RX1, TX1, 15), (RX2, TX2, 7), (RX3, TX3, 11)]
end
