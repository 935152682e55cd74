theorem gx_stZ {g g' : gG} {U : State} (h1 : g'.1 = g.1) (h2 : g'.2.1 = g.2.1) (h3 : g'.2.2.1 = g.2.2.1) (h : ZZ g U) : ZZ g' U := by
  obtain ⟨a, b, c, d⟩ := g
  obtain ⟨a', b', c', d'⟩ := g'
  obtain rfl : a' = a := h1
  obtain rfl : b' = b := h2
  obtain rfl : c' = c := h3
  exact h
theorem gx_stA {g g' : gG} (h3 : g'.2.2.1 = g.2.2.1) : gA g' = gA g := by unfold gA gN0; rw [h3]
/-- the world has grown: nothing but rows, cabs and orders are others -/
def gGro (g g' : gG) : Prop := (g'.1 = g.1 ∧ g'.2.1 = g.2.1 ∧ g'.2.2.1 = g.2.2.1) ∧ ∀ k, k ≠ 4 → k ≠ 5 → k ≠ 6 → k ≠ 7 → gad g' k = gad g k ∧ gcn g' k = gcn g k ∧ gln g' k = gln g k
theorem gGro.rf (g : gG) : gGro g g := ⟨⟨rfl, rfl, rfl⟩, fun _ _ _ _ _ => ⟨rfl, rfl, rfl⟩⟩
theorem gGro.tr {g g' g2 : gG} (h : gGro g g') (h2 : gGro g' g2) : gGro g g2 :=
  ⟨⟨h2.1.1.trans h.1.1, h2.1.2.1.trans h.1.2.1, h2.1.2.2.trans h.1.2.2⟩, fun k a b c d => ⟨(h2.2 k a b c d).1.trans (h.2 k a b c d).1, (h2.2 k a b c d).2.1.trans (h.2 k a b c d).2.1, (h2.2 k a b c d).2.2.trans (h.2 k a b c d).2.2⟩⟩
theorem gGro.add {g g' g2 : gG} {kt q ka : Nat} (hg : g' = gAdd g kt q 0) (hk : kt = 6 ∨ kt = 7) (hka : ka = 4 ∨ ka = 5) (hla : gLA g' g2 ka) : gGro g g2 := by
  subst hg
  refine ⟨⟨hla.1, hla.2.1, hla.2.2.1⟩, fun k h4 h5 h6 h7 => ?_⟩
  have hkt : k ≠ kt := by rcases hk with rfl | rfl <;> assumption
  have hk4 : k ≠ ka := by rcases hka with rfl | rfl <;> assumption
  obtain ⟨e1, e2, e3⟩ := hla.2.2.2 k hk4
  refine ⟨e1.trans ?_, e2.trans ?_, e3.trans ?_⟩
  · funext i; rw [gAdd_ad, if_neg (fun z => hkt z.1)]
  · rw [gAdd_cn, if_neg hkt]
  · funext i; rw [gAdd_ln, if_neg (fun z => hkt z.1)]
def xCabIni (σ : Mem) (i : Nat) (a b c : Int32) : Mem := gst (gst (gst (gst σ 6 i 3 0) 6 i 0 a) 6 i 1 b) 6 i 2 c
def xOrdIni (σ : Mem) (i : Nat) (a b c d e : Int32) : Mem := gst (gst (gst (gst (gst (gst (gst (gst σ 7 i 5 0) 7 i 9 (-1)) 7 i 10 (-1)) 7 i 0 a) 7 i 1 b) 7 i 2 c) 7 i 3 d) 7 i 4 e
theorem xCabIni_o {σ : Mem} {i : Nat} {a b c : Int32} {k' i' f' : Nat} (h : k' ≠ 6 ∨ i' ≠ i) : xCabIni σ i a b c k' i' f' = σ k' i' f' := by
  unfold xCabIni
  rcases h with h | h
  · repeat rw [gst_nk h]
  · repeat rw [gst_ni h]
theorem xOrdIni_o {σ : Mem} {i : Nat} {a b c d e : Int32} {k' i' f' : Nat} (h : k' ≠ 7 ∨ i' ≠ i) : xOrdIni σ i a b c d e k' i' f' = σ k' i' f' := by
  unfold xOrdIni
  rcases h with h | h
  · repeat rw [gst_nk h]
  · repeat rw [gst_ni h]
theorem gFre_o {σ : Mem} {k i k' i' f' : Nat} (h : k' ≠ k ∨ i' ≠ i) : gFre σ k i k' i' f' = σ k' i' f' := by
  unfold gFre
  rw [if_neg]
  rintro ⟨h1, h2⟩
  rcases h with h | h
  · exact h h1
  · exact h h2
def xAddCabE (σ : Mem) (a b : Int32) : Int32 := if a < 1 then 1 else if a ≤ 8 then (if xIsZone b = true then (if nI (nC σ) < 10 then 0 else 2) else 1) else 1
def xCabNew (σ : Mem) (n : Nat) (a b : Int32) : Mem := xCabIni (gFre σ 6 n) n (nI n) a b
def xOrdNew (σ : Mem) (n : Nat) (a b c d : Int32) : Mem := xOrdIni (gFre σ 7 n) n (nI n) a b c d
def xOrderE (σ : Mem) (a b c d : Int32) : Int32 := if xIsZone a = true then (if xIsZone b = true then (if c < 1 then 2 else if c ≤ 8 then (if d < σ 0 0 3 then 2 else if d ≤ 9999 then (if nI (nO σ) < 60 then 0 else 3) else 2) else 2) else 1) else 1
theorem Xok.lp2 {g g' : gG} {σ σ' : Mem} {n q : Nat} (hX : Xok g σ) (hn : gcn g 6 = n) (hg : g' = gAdd g 6 q 0) (h2 : ∀ f, σ' 2 0 f = σ 2 0 f) : LPn 2 4 6 g' σ' n := by
  subst hg
  have h6 := hX.n6
  refine ⟨Or.inl ⟨rfl, rfl, rfl⟩, hX.1.1.2.2.1, ?_, ?_, by omega, ?_⟩
  · rw [gAdd_cn, if_pos rfl]; omega
  · rw [h2, hX.z2, hn]
  · rw [h2, gAdd_cn, if_neg (by decide), gAdd_ln, if_neg (by rintro ⟨h, -⟩; exact absurd h (by decide))]
    rcases hX.2.2.2.1 with ⟨h, h', h''⟩ | ⟨h, h', h'', h3, h4⟩
    · exact Or.inl ⟨by omega, h', h''⟩
    · exact Or.inr ⟨h, h', by omega, h3, h4⟩
theorem Xok.lp3 {g g' : gG} {σ σ' : Mem} {n q : Nat} (hX : Xok g σ) (hn : gcn g 7 = n) (hg : g' = gAdd g 7 q 0) (h2 : ∀ f, σ' 3 0 f = σ 3 0 f) : LPn 3 5 7 g' σ' n := by
  subst hg
  have h6 := hX.n7
  refine ⟨Or.inr ⟨rfl, rfl, rfl⟩, hX.1.1.2.2.2, ?_, ?_, by omega, ?_⟩
  · rw [gAdd_cn, if_pos rfl]; omega
  · rw [h2, hX.z3, hn]
  · rw [h2, gAdd_cn, if_neg (by decide), gAdd_ln, if_neg (by rintro ⟨h, -⟩; exact absurd h (by decide))]
    rcases hX.2.2.2.2.1 with ⟨h, h', h''⟩ | ⟨h, h', h'', h3, h4⟩
    · exact Or.inl ⟨by omega, h', h''⟩
    · exact Or.inr ⟨h, h', by omega, h3, h4⟩
/-- what holds behind 'addCab' -/
theorem cab_end {g g' : gG} {σ : Mem} {n q : Nat} {a b : Int32} {w : Int64} {H : Heap} (hX : Xok g σ) (hn : gcn g 6 = n) (hn9 : n < 10) (hg : g' = gAdd g 6 q 0) (hLQ : LQ 2 4 g' (xCabNew σ n a b) n w H) :
    ∃ (g2 : gG) (σ2 : Mem), gGro g g2 ∧ gcn g2 6 = n + 1 ∧ gcn g2 7 = gcn g 7 ∧ Xok g2 σ2 ∧ (∀ k i f, k ≠ 2 → k ≠ 4 → σ2 k i f = xCabNew σ n a b k i f) ∧ GW g2 σ2 w H := by
  obtain ⟨g2, σ2, hla, hG, e1, e2, e3, e4, e5, e6, e7, e8, e9⟩ := hLQ
  have hgro := gGro.add hg (Or.inl rfl) (Or.inl rfl) hla
  have hcn : ∀ k, k ≠ 4 → gcn g2 k = gcn g' k := fun k hk => (hla.2.2.2 k hk).2.1
  have hln : ∀ k, k ≠ 4 → gln g2 k = gln g' k := fun k hk => (hla.2.2.2 k hk).2.2
  have c6 : gcn g2 6 = n + 1 := by rw [hcn 6 (by decide), hg, gAdd_cn, if_pos rfl, hn]
  have co : ∀ k, k ≠ 4 → k ≠ 6 → gcn g2 k = gcn g k := fun k h4 h6 => by rw [hcn k h4, hg, gAdd_cn, if_neg h6]
  have lo : ∀ k, k ≠ 4 → k ≠ 6 → gln g2 k = gln g k := fun k h4 h6 => by rw [hln k h4, hg]; funext i; rw [gAdd_ln, if_neg (fun z => h6 z.1)]
  have so : ∀ k i f, k ≠ 2 → k ≠ 4 → k ≠ 6 → σ2 k i f = σ k i f := fun k i f h2 h4 h6 => by rw [e9 k i f h2 h4, xCabNew, xCabIni_o (Or.inl h6), gFre_o (Or.inl h6)]
  have sn : ∀ i f, i ≠ n → σ2 6 i f = σ 6 i f := fun i f hi => by rw [e9 6 i f (by decide) (by decide), xCabNew, xCabIni_o (Or.inr hi), gFre_o (Or.inr hi)]
  refine ⟨g2, σ2, hgro, c6, co 7 (by decide) (by decide), ⟨⟨⟨?_, ?_, ?_, ?_⟩, ?_, by omega, ?_⟩, ⟨?_, ?_, ?_⟩, ⟨by rw [e1, c6], ?_⟩, Or.inr ⟨e2, e3, by omega, e5, e6⟩, ?_, fun j hj => ?_, fun j hj => ?_, fun j hj => ?_, fun j hj => ?_⟩, e9, hG⟩
  · rw [co 0 (by decide) (by decide)]; exact hX.1.1.1
  · rw [co 1 (by decide) (by decide)]; exact hX.1.1.2.1
  · rw [co 2 (by decide) (by decide)]; exact hX.1.1.2.2.1
  · rw [co 3 (by decide) (by decide)]; exact hX.1.1.2.2.2
  · rw [lo 1 (by decide) (by decide)]; exact hX.l1
  · rw [co 7 (by decide) (by decide)]; exact hX.n7
  · rw [so 0 0 0 (by decide) (by decide) (by decide)]; exact hX.r0
  · rw [so 0 0 1 (by decide) (by decide) (by decide)]; exact hX.r1
  · rw [so 0 0 2 (by decide) (by decide) (by decide)]; exact hX.r2
  · rw [so 3 0 2 (by decide) (by decide) (by decide), co 7 (by decide) (by decide)]; exact hX.z3
  · rw [so 3 0 1 (by decide) (by decide) (by decide), co 7 (by decide) (by decide), co 5 (by decide) (by decide), lo 5 (by decide) (by decide)]; exact hX.2.2.2.2.1
  · rcases Nat.lt_or_ge j n with h | h
    · rw [e7 j h, xCabNew, xCabIni_o (Or.inl (by decide)), gFre_o (Or.inl (by decide))]; exact hX.q4 (by omega)
    · obtain rfl : j = n := by omega
      exact e8
  · rw [so 5 0 j (by decide) (by decide) (by decide)]; exact hX.q5 (by rw [← co 7 (by decide) (by decide)]; exact hj)
  · rcases Nat.lt_or_ge j n with h | h
    · rw [sn j 0 (by omega)]; exact hX.q6 (by omega)
    · obtain rfl : j = n := by omega
      rw [e9 6 j 0 (by decide) (by decide), xCabNew, xCabIni, gst_nf (by decide), gst_nf (by decide), gst_eq]
  · rw [so 7 j 0 (by decide) (by decide) (by decide)]; exact hX.q7 (by rw [← co 7 (by decide) (by decide)]; exact hj)
theorem ord_end {g g' : gG} {σ : Mem} {n q : Nat} {a b c d : Int32} {w : Int64} {H : Heap} (hX : Xok g σ) (hn : gcn g 7 = n) (hn9 : n < 60) (hg : g' = gAdd g 7 q 0) (hLQ : LQ 3 5 g' (xOrdNew σ n a b c d) n w H) :
    ∃ (g2 : gG) (σ2 : Mem), gGro g g2 ∧ gcn g2 6 = gcn g 6 ∧ gcn g2 7 = n + 1 ∧ Xok g2 σ2 ∧ (∀ k i f, k ≠ 3 → k ≠ 5 → σ2 k i f = xOrdNew σ n a b c d k i f) ∧ GW g2 σ2 w H := by
  obtain ⟨g2, σ2, hla, hG, e1, e2, e3, e4, e5, e6, e7, e8, e9⟩ := hLQ
  have hgro := gGro.add hg (Or.inr rfl) (Or.inr rfl) hla
  have hcn : ∀ k, k ≠ 5 → gcn g2 k = gcn g' k := fun k hk => (hla.2.2.2 k hk).2.1
  have hln : ∀ k, k ≠ 5 → gln g2 k = gln g' k := fun k hk => (hla.2.2.2 k hk).2.2
  have c6 : gcn g2 7 = n + 1 := by rw [hcn 7 (by decide), hg, gAdd_cn, if_pos rfl, hn]
  have co : ∀ k, k ≠ 5 → k ≠ 7 → gcn g2 k = gcn g k := fun k h4 h6 => by rw [hcn k h4, hg, gAdd_cn, if_neg h6]
  have lo : ∀ k, k ≠ 5 → k ≠ 7 → gln g2 k = gln g k := fun k h4 h6 => by rw [hln k h4, hg]; funext i; rw [gAdd_ln, if_neg (fun z => h6 z.1)]
  have so : ∀ k i f, k ≠ 3 → k ≠ 5 → k ≠ 7 → σ2 k i f = σ k i f := fun k i f h2 h4 h6 => by rw [e9 k i f h2 h4, xOrdNew, xOrdIni_o (Or.inl h6), gFre_o (Or.inl h6)]
  have sn : ∀ i f, i ≠ n → σ2 7 i f = σ 7 i f := fun i f hi => by rw [e9 7 i f (by decide) (by decide), xOrdNew, xOrdIni_o (Or.inr hi), gFre_o (Or.inr hi)]
  refine ⟨g2, σ2, hgro, co 6 (by decide) (by decide), c6, ⟨⟨⟨?_, ?_, ?_, ?_⟩, ?_, ?_, by omega⟩, ⟨?_, ?_, ?_⟩, ⟨?_, by rw [e1, c6]⟩, ?_, Or.inr ⟨e2, e3, by omega, e5, e6⟩, fun j hj => ?_, fun j hj => ?_, fun j hj => ?_, fun j hj => ?_⟩, e9, hG⟩
  · rw [co 0 (by decide) (by decide)]; exact hX.1.1.1
  · rw [co 1 (by decide) (by decide)]; exact hX.1.1.2.1
  · rw [co 2 (by decide) (by decide)]; exact hX.1.1.2.2.1
  · rw [co 3 (by decide) (by decide)]; exact hX.1.1.2.2.2
  · rw [lo 1 (by decide) (by decide)]; exact hX.l1
  · rw [co 6 (by decide) (by decide)]; exact hX.n6
  · rw [so 0 0 0 (by decide) (by decide) (by decide)]; exact hX.r0
  · rw [so 0 0 1 (by decide) (by decide) (by decide)]; exact hX.r1
  · rw [so 0 0 2 (by decide) (by decide) (by decide)]; exact hX.r2
  · rw [so 2 0 2 (by decide) (by decide) (by decide), co 6 (by decide) (by decide)]; exact hX.z2
  · rw [so 2 0 1 (by decide) (by decide) (by decide), co 6 (by decide) (by decide), co 4 (by decide) (by decide), lo 4 (by decide) (by decide)]; exact hX.2.2.2.1
  · rw [so 4 0 j (by decide) (by decide) (by decide)]; exact hX.q4 (by rw [← co 6 (by decide) (by decide)]; exact hj)
  · rcases Nat.lt_or_ge j n with h | h
    · rw [e7 j h, xOrdNew, xOrdIni_o (Or.inl (by decide)), gFre_o (Or.inl (by decide))]; exact hX.q5 (by omega)
    · obtain rfl : j = n := by omega
      exact e8
  · rw [so 6 j 0 (by decide) (by decide) (by decide)]; exact hX.q6 (by rw [← co 6 (by decide) (by decide)]; exact hj)
  · rcases Nat.lt_or_ge j n with h | h
    · rw [sn j 0 (by omega)]; exact hX.q7 (by omega)
    · obtain rfl : j = n := by omega
      rw [e9 7 j 0 (by decide) (by decide), xOrdNew, xOrdIni, gst_nf (by decide), gst_nf (by decide), gst_nf (by decide), gst_nf (by decide), gst_eq]
set_option maxHeartbeats 4000000 in
set_option maxRecDepth 100000 in
theorem c_X0_init (l : Launch) (g : gG) (σ : Mem) (w : Int64) (i : Nat) (a b c : Int32) (hi : i < gcn g 6) : Met l yX0_init wsX0_init ({ frames := 1, cells := 0, slots := 0, locals := 12 } : Room) (gPc g σ w [.ref (gad g 6 i), .int (a), .int (b), .int (c)]) (gM g g (xCabIni σ i a b c) w (none)) 0 0 (gA g) := by
  refine gx_ofW (cc := cX0_init) (maxL := 4) (ret := none) (by decide) rfl (Nat.le_of_ble_eq_true rfl) ?_
  intro p e s m below meth c0 hx hb hr hml hts hown hlocks hin hG hZ hS ls hl
  have hown : s.vm.findClass RX0 = some m.cls := hown
  have hl : lv_has ls 4 [(0, .ref (gad g 6 i)), (1, .int (a)), (2, .int (b)), (3, .int (c))] := hl
  have k1 := hts (.methodLink RX0 3 objectInit) (by decide +kernel)
  have k2 := hts (.instanceMethod objectInit) (by decide +kernel)
  have k3 := hts (.code objectInit ⟨#[0xb1]⟩ 1 none) (by decide +kernel)
  have k4 := hts (.fieldLink RX0 9 "TaxiRank$Cab" "state" "I") (by decide +kernel)
  have k5 := hts (.fieldLink RX0 15 "TaxiRank$Cab" "number" "I") (by decide +kernel)
  have k6 := hts (.fieldLink RX0 18 "TaxiRank$Cab" "seats" "I") (by decide +kernel)
  have k7 := hts (.fieldLink RX0 21 "TaxiRank$Cab" "zone" "I") (by decide +kernel)
  refine lv_aload_n hx hb dX0_init_0 rfl (lv_at hl 0 rfl) ?_
  refine W.objInit hx hb hown k1 k2 k3 rfl (hl.1.trans hml.symm) rfl dX0_init_1 (Nat.le_of_ble_eq_true rfl) (Nat.le_of_ble_eq_true rfl) ?_
  refine W.eq (g2 := F0 m 4 ls []) rfl ?_
  refine lv_aload_n hx hb dX0_init_4 rfl (lv_at hl 0 rfl) ?_
  refine lv_iconst (v := 0) hx hb dX0_init_5 (by decide) ?_
  refine gx_put hx hb hown hZ hG hS 6 i 3 (0) hi rfl (by decide) k4 (fun _ h => h) rfl rfl trivial rfl rfl dX0_init_6 (fun H locs hG hS => ?_)
  refine lv_aload_n hx hb dX0_init_9 rfl (lv_at hl 0 rfl) ?_
  refine lv_iload_n hx hb dX0_init_10 rfl (lv_at hl 1 rfl) ?_
  refine gx_putF hx hb hown hZ hG hS 6 i 0 (a) hi rfl (by decide) k5 (fun _ h => h) rfl hin rfl rfl trivial rfl rfl dX0_init_11 (fun H locs hG hS => ?_)
  refine lv_aload_n hx hb dX0_init_14 rfl (lv_at hl 0 rfl) ?_
  refine lv_iload_n hx hb dX0_init_15 rfl (lv_at hl 2 rfl) ?_
  refine gx_putF hx hb hown hZ hG hS 6 i 1 (b) hi rfl (by decide) k6 (fun _ h => h) rfl hin rfl rfl trivial rfl rfl dX0_init_16 (fun H locs hG hS => ?_)
  refine lv_aload_n hx hb dX0_init_19 rfl (lv_at hl 0 rfl) ?_
  refine lv_iload_n hx hb dX0_init_20 rfl (lv_at hl 3 rfl) ?_
  refine gx_put hx hb hown hZ hG hS 6 i 2 (c) hi rfl (by decide) k7 (fun _ h => h) rfl rfl trivial rfl rfl dX0_init_21 (fun H locs hG hS => ?_)
  exact gx_vretM hx hb hr hlocks hG hS rfl (Nat.le_of_ble_eq_true rfl) (Nat.le_of_ble_eq_true rfl) dX0_init_24
set_option maxHeartbeats 4000000 in
set_option maxRecDepth 100000 in
theorem c_X1_init (l : Launch) (g : gG) (σ : Mem) (w : Int64) (i : Nat) (a b c d f : Int32) (hi : i < gcn g 7) : Met l yX1_init wsX1_init ({ frames := 1, cells := 0, slots := 0, locals := 12 } : Room) (gPc g σ w [.ref (gad g 7 i), .int (a), .int (b), .int (c), .int (d), .int (f)]) (gM g g (xOrdIni σ i a b c d f) w (none)) 0 0 (gA g) := by
  refine gx_ofW (cc := cX1_init) (maxL := 6) (ret := none) (by decide) rfl (Nat.le_of_ble_eq_true rfl) ?_
  intro p e s m below meth c0 hx hb hr hml hts hown hlocks hin hG hZ hS ls hl
  have hown : s.vm.findClass RX1 = some m.cls := hown
  have hl : lv_has ls 6 [(0, .ref (gad g 7 i)), (1, .int (a)), (2, .int (b)), (3, .int (c)), (4, .int (d)), (5, .int (f))] := hl
  have k1 := hts (.methodLink RX1 3 objectInit) (by decide +kernel)
  have k2 := hts (.instanceMethod objectInit) (by decide +kernel)
  have k3 := hts (.code objectInit ⟨#[0xb1]⟩ 1 none) (by decide +kernel)
  have k4 := hts (.fieldLink RX1 9 "TaxiRank$Order" "state" "I") (by decide +kernel)
  have k5 := hts (.fieldLink RX1 15 "TaxiRank$Order" "begunAt" "I") (by decide +kernel)
  have k6 := hts (.fieldLink RX1 18 "TaxiRank$Order" "doneAt" "I") (by decide +kernel)
  have k7 := hts (.fieldLink RX1 21 "TaxiRank$Order" "number" "I") (by decide +kernel)
  have k8 := hts (.fieldLink RX1 24 "TaxiRank$Order" "from" "I") (by decide +kernel)
  have k9 := hts (.fieldLink RX1 27 "TaxiRank$Order" "to" "I") (by decide +kernel)
  have k10 := hts (.fieldLink RX1 30 "TaxiRank$Order" "passengers" "I") (by decide +kernel)
  have k11 := hts (.fieldLink RX1 33 "TaxiRank$Order" "due" "I") (by decide +kernel)
  refine lv_aload_n hx hb dX1_init_0 rfl (lv_at hl 0 rfl) ?_
  refine W.objInit hx hb hown k1 k2 k3 rfl (hl.1.trans hml.symm) rfl dX1_init_1 (Nat.le_of_ble_eq_true rfl) (Nat.le_of_ble_eq_true rfl) ?_
  refine W.eq (g2 := F0 m 4 ls []) rfl ?_
  refine lv_aload_n hx hb dX1_init_4 rfl (lv_at hl 0 rfl) ?_
  refine lv_iconst (v := 0) hx hb dX1_init_5 (by decide) ?_
  refine gx_put hx hb hown hZ hG hS 7 i 5 (0) hi rfl (by decide) k4 (fun _ h => h) rfl rfl trivial rfl rfl dX1_init_6 (fun H locs hG hS => ?_)
  refine lv_aload_n hx hb dX1_init_9 rfl (lv_at hl 0 rfl) ?_
  refine lv_iconst (v := (-1)) hx hb dX1_init_10 (by decide) ?_
  refine gx_put hx hb hown hZ hG hS 7 i 9 (-1) hi rfl (by decide) k5 (fun _ h => h) rfl rfl trivial rfl rfl dX1_init_11 (fun H locs hG hS => ?_)
  refine lv_aload_n hx hb dX1_init_14 rfl (lv_at hl 0 rfl) ?_
  refine lv_iconst (v := (-1)) hx hb dX1_init_15 (by decide) ?_
  refine gx_put hx hb hown hZ hG hS 7 i 10 (-1) hi rfl (by decide) k6 (fun _ h => h) rfl rfl trivial rfl rfl dX1_init_16 (fun H locs hG hS => ?_)
  refine lv_aload_n hx hb dX1_init_19 rfl (lv_at hl 0 rfl) ?_
  refine lv_iload_n hx hb dX1_init_20 rfl (lv_at hl 1 rfl) ?_
  refine gx_putF hx hb hown hZ hG hS 7 i 0 (a) hi rfl (by decide) k7 (fun _ h => h) rfl hin rfl rfl trivial rfl rfl dX1_init_21 (fun H locs hG hS => ?_)
  refine lv_aload_n hx hb dX1_init_24 rfl (lv_at hl 0 rfl) ?_
  refine lv_iload_n hx hb dX1_init_25 rfl (lv_at hl 2 rfl) ?_
  refine gx_putF hx hb hown hZ hG hS 7 i 1 (b) hi rfl (by decide) k8 (fun _ h => h) rfl hin rfl rfl trivial rfl rfl dX1_init_26 (fun H locs hG hS => ?_)
  refine lv_aload_n hx hb dX1_init_29 rfl (lv_at hl 0 rfl) ?_
  refine lv_iload_n hx hb dX1_init_30 rfl (lv_at hl 3 rfl) ?_
  refine gx_putF hx hb hown hZ hG hS 7 i 2 (c) hi rfl (by decide) k9 (fun _ h => h) rfl hin rfl rfl trivial rfl rfl dX1_init_31 (fun H locs hG hS => ?_)
  refine lv_aload_n hx hb dX1_init_34 rfl (lv_at hl 0 rfl) ?_
  refine lv_iload hx hb dX1_init_35 (lv_at hl 4 rfl) ?_
  refine gx_putF hx hb hown hZ hG hS 7 i 3 (d) hi rfl (by decide) k10 (fun _ h => h) rfl hin rfl rfl trivial rfl rfl dX1_init_37 (fun H locs hG hS => ?_)
  refine lv_aload_n hx hb dX1_init_40 rfl (lv_at hl 0 rfl) ?_
  refine lv_iload hx hb dX1_init_41 (lv_at hl 5 rfl) ?_
  refine gx_putF hx hb hown hZ hG hS 7 i 4 (f) hi rfl (by decide) k11 (fun _ h => h) rfl hin rfl rfl trivial rfl rfl dX1_init_43 (fun H locs hG hS => ?_)
  exact gx_vretM hx hb hr hlocks hG hS rfl (Nat.le_of_ble_eq_true rfl) (Nat.le_of_ble_eq_true rfl) dX1_init_46
set_option maxHeartbeats 4000000 in
set_option maxRecDepth 100000 in
theorem c_X2_addCab (l : Launch) (hl0 : l.stackTraces = false) (g : gG) (σ : Mem) (w : Int64) (n : Nat) (a b : Int32) (hX : Xok g σ) (hn : gcn g 6 = n) : vx_Met l yX2_addCab wsX2_addCab ({ frames := 6, cells := 2, slots := 19, locals := 111 } : Room) (gPc g σ w [.ref (gad g 0 0), .int (a), .int (b)]) (gE g (fun v H => v = some (.int (nI n)) ∧ xAddCabE σ a b = 0 ∧ (∃ (g2 : gG) (σ2 : Mem), gGro g g2 ∧ gcn g2 6 = n + 1 ∧ gcn g2 7 = gcn g 7 ∧ Xok g2 σ2 ∧ (∀ k i f, k ≠ 2 → k ≠ 4 → σ2 k i f = xCabNew σ n a b k i f) ∧ GW g2 σ2 w H))) (gX (fun E => (E = "java/lang/IllegalArgumentException" ∧ xAddCabE σ a b = 1) ∨ (E = "java/lang/IllegalStateException" ∧ xAddCabE σ a b = 2))) 2 19 (gA g) := by
  refine gx_xofW (cc := cX2_addCab) (maxL := 4) (ret := (some .int)) (by decide) rfl (Nat.le_of_ble_eq_true rfl) ?_
  intro p e s m below meth c0 hx hb hr hml hts hown hlocks hin hnt hG hZ hS ls hl
  have hown : s.vm.findClass RX2 = some m.cls := hown
  have hl : lv_has ls 4 [(0, .ref (gad g 0 0)), (1, .int (a)), (2, .int (b))] := hl
  have k1 := hts (.fieldLink RX2 16 "TaxiRank" "cabs" "Ljava/util/ArrayList;") (by decide +kernel)
  have k2 := hts (.classLink RX2 68 RX0) (by decide +kernel)
  have k3 := hts (.instantiable RX0 9) (by decide +kernel)
  have k4 := hts (.initialized RX0) (by decide +kernel)
  have k5 := hts (.methodLink RX2 70 yX0_init) (by decide +kernel)
  have k6 := hts (.instanceMethod yX0_init) (by decide +kernel)
  have hnn : nC σ = n := by rw [hX.eC, hn]
  have hn6 := hX.n6
  have hE := hn6
  refine lv_iload_n hx hb dX2_addCab_0 rfl (lv_at hl 1 rfl) ?_
  refine lv_iconst (v := 1) hx hb dX2_addCab_1 (by decide) ?_
  refine lv_icmp_lt (tgt := 11) hx hb dX2_addCab_2 (by decide) (fun c_1 => ?_) (fun c_1 => ?_)
  · skip
    exact gx_throw (text := "seats is not 1 to 8") hx hb hl0 hown hlocks hZ hS (hl.1.trans hml.symm) hnt hts (by decide +kernel) (by decide +kernel) (by decide +kernel) (by decide +kernel) (by decide +kernel) (by first | exact fun _ h => List.mem_cons_of_mem _ (List.mem_append_right _ h) | exact fun _ h => List.mem_cons_of_mem _ (List.mem_append_left _ (List.mem_append_right _ h)) | decide +kernel) zb_ia zo_ia dX2_addCab_11 dX2_addCab_14 dX2_addCab_15 dX2_addCab_17 dX2_addCab_20 (Nat.le_of_ble_eq_true rfl) (Nat.le_of_ble_eq_true rfl) (Nat.le_of_ble_eq_true rfl) (Nat.le_of_ble_eq_true rfl) (fun _ _ => rfl) (Nat.le_refl _) ((Or.inl ⟨rfl, by first | (simp only [xAddCabE, c_1, reduceIte, Bool.false_eq_true]; done) | simp [xAddCabE, c_1]⟩)) (fun _ h => nomatch h) (Nat.le_of_ble_eq_true rfl) (Nat.le_of_ble_eq_true rfl)
  · skip
    refine lv_iload_n hx hb dX2_addCab_5 rfl (lv_at hl 1 rfl) ?_
    refine lv_bipush (v := 8) hx hb dX2_addCab_6 (by decide) ?_
    refine lv_icmp_le (tgt := 21) hx hb dX2_addCab_8 (by decide) (fun c_2 => ?_) (fun c_2 => ?_)
    · skip
      refine lv_iload_n hx hb dX2_addCab_21 rfl (lv_at hl 2 rfl) ?_
      refine gx_cR (gx_runS (As := [.int (b)]) (rest := []) ⟨hx, hb, hml, hown, hts⟩ (c_X2_isZone l g σ w b) (va_cwS 1 hts gX2_addCab_X2_isZone rfl rfl rfl (by decide +kernel) ⟨Nat.le_of_ble_eq_true rfl, Nat.le_of_ble_eq_true rfl⟩) hZ hG hS rfl hl.1 rfl (Nat.le_of_ble_eq_true rfl) dX2_addCab_22 ⟨Nat.le_of_ble_eq_true rfl, Nat.le_of_ble_eq_true rfl⟩) ?_
      refine lv_if_ne (tgt := 38) hx hb dX2_addCab_25 (by decide) (fun c_3 => ?_) (fun c_3 => ?_)
      · skip
        have c_3 := bI_ne0.mp c_3
        refine lv_aload_n hx hb dX2_addCab_38 rfl (lv_at hl 0 rfl) ?_
        refine gx_get hx hb hown hZ hG 0 0 1 hX.k0 rfl (by decide) k1 (fun _ h => h) (v := .ref (gad g 2 0)) (grf_z hX.r1) dX2_addCab_39 ?_
        refine gx_cR (gx_runV (As := []) (rest := []) ⟨hx, hb, hml, hown, hts⟩ (c_size2 l g σ w hX) (cwV 0 hts gX2_addCab_Jx4a65c_size_8abf5 rfl rfl rfl (by decide +kernel) ⟨Nat.le_of_ble_eq_true rfl, Nat.le_of_ble_eq_true rfl⟩) (gx_obj hZ hG 2 0 hX.k2 rfl) hZ hG hS rfl hl.1 rfl (Nat.le_of_ble_eq_true rfl) dX2_addCab_42 ⟨Nat.le_of_ble_eq_true rfl, Nat.le_of_ble_eq_true rfl⟩) ?_
        refine gx_topN (y := nI n) (by rw [hn]) ?_
        refine lv_istore_n (lv' := [(3, .int (nI n)), (0, .ref (gad g 0 0)), (1, .int (a)), (2, .int (b))]) hx hb dX2_addCab_45 rfl hl (by decide) rfl (fun ls hl => ?_)
        refine lv_iload_n hx hb dX2_addCab_46 rfl (lv_at hl 0 rfl) ?_
        refine lv_bipush (v := 10) hx hb dX2_addCab_47 (by decide) ?_
        refine lv_icmp_lt (tgt := 62) hx hb dX2_addCab_49 (by decide) (fun c_4 => ?_) (fun c_4 => ?_)
        · skip
          refine lv_aload_n hx hb dX2_addCab_62 rfl (lv_at hl 1 rfl) ?_
          refine gx_get hx hb hown hZ hG 0 0 1 hX.k0 rfl (by decide) k1 (fun _ h => h) (v := .ref (gad g 2 0)) (grf_z hX.r1) dX2_addCab_63 ?_
          have hn9 : n < 10 := (nI_ltI (by omega) (by decide)).mp c_4
          have hD9 : xAddCabE σ a b = 0 := by simp [xAddCabE, hnn, c_1, c_2, c_3, hnn, c_4]
          refine gx_newo hx hb hown hZ hG hS 6 rfl (by omega) k2 k3 k4 (Nat.le_of_ble_eq_true rfl) (Nat.le_of_ble_eq_true rfl) dX2_addCab_66 (fun q H hG hS1 hsz => ?_)
          rw [hn] at hG
          have hX0 := hX
          have hS0 := hS1
          have hn0 := hn
          have hAA := gx_stA (g := g) (g' := gAdd g 6 q 0) rfl
          obtain ⟨g, hg⟩ : ∃ z : gG, z = gAdd g 6 q 0 := ⟨_, rfl⟩
          rw [← hg] at hG hAA
          have hZ : ZZ g s := by subst hg; exact gx_stZ rfl rfl rfl hZ
          have hS : va_S (gA g) s.heap H [] := by subst hg; exact hS1
          have hl : lv_has ls 4 [(3, .int (nI n)), (0, .ref (gad g 0 0)), (1, .int (a)), (2, .int (b))] := by subst hg; exact hl
          have hcn : n < gcn g 6 := by rw [hg, gAdd_cn, if_pos rfl, hn0]; exact Nat.lt_succ_self n
          have hq : gad g 6 n = q := by rw [hg, gAdd_ad, if_pos ⟨rfl, hn0.symm⟩]
          have hl2 : 0 < gcn g 2 := by subst hg; exact hX0.k2
          have hl0g : 0 < gcn g 0 := by subst hg; exact hX0.k0
          refine gx_topV (congrArg Value.ref hq.symm) ?_
          refine gx_topV2 (v := .ref (gad g 2 0)) (by subst hg; rfl) ?_
          refine lv_dup hx hb dX2_addCab_69 rfl ?_
          refine lv_iload_n hx hb dX2_addCab_70 rfl (lv_at hl 0 rfl) ?_
          refine lv_iload_n hx hb dX2_addCab_71 rfl (lv_at hl 2 rfl) ?_
          refine lv_iload_n hx hb dX2_addCab_72 rfl (lv_at hl 3 rfl) ?_
          refine gx_cM (gx_runI (As := [.int (nI n), .int (a), .int (b)]) (rest := [.ref (gad g 6 n), .ref (gad g 2 0)]) ⟨hx, hb, hml, hown, hts⟩ (c_X0_init l g (gFre σ 6 n) w n (nI n) a b hcn) (cwI 3 hts gX2_addCab_X0_init rfl rfl rfl k4 k5 k6 rfl (by decide +kernel) ⟨Nat.le_of_ble_eq_true rfl, Nat.le_of_ble_eq_true rfl⟩) hZ hG hS rfl hl.1 rfl (Nat.le_of_ble_eq_true rfl) dX2_addCab_73 ⟨Nat.le_of_ble_eq_true rfl, Nat.le_of_ble_eq_true rfl⟩) hS (fun H locs hG hS hsz => ?_)
          refine gx_cE (gx_runV (As := [.ref (gad g 6 n)]) (rest := []) ⟨hx, hb, hml, hown, hts⟩ (c_add12 l g (xCabNew σ n a b) w n (hX0.lp2 hn0 hg (fun f => by rw [xCabNew, xCabIni_o (Or.inl (by decide)), gFre_o (Or.inl (by decide))])) hn9) (cwV 1 hts gX2_addCab_Jx4a65c_add_9ea2d rfl rfl rfl (by decide +kernel) ⟨Nat.le_of_ble_eq_true rfl, Nat.le_of_ble_eq_true rfl⟩) (gx_obj hZ hG 2 0 hl2 rfl) hZ hG hS rfl hl.1 rfl (Nat.le_of_ble_eq_true rfl) dX2_addCab_76 ⟨Nat.le_of_ble_eq_true rfl, Nat.le_of_ble_eq_true rfl⟩) hS (fun vr H1 locs1 hPo hS1 hsz => ?_)
          obtain ⟨rfl, hLQ⟩ := hPo
          rw [hAA] at hS1
          have hS := hS1
          refine lv_pop hx hb dX2_addCab_79 rfl ?_
          refine lv_iload_n hx hb dX2_addCab_80 rfl (lv_at hl 0 rfl) ?_
          exact gx_iretEx hx hb hr hlocks hS ⟨rfl, hD9, cab_end hX0 hn0 hn9 hg hLQ⟩ (Nat.le_of_ble_eq_true rfl) (Nat.le_of_ble_eq_true rfl) dX2_addCab_81
        · skip
          exact gx_throw (text := "there are 10 cabs") hx hb hl0 hown hlocks hZ hS (hl.1.trans hml.symm) hnt hts (by decide +kernel) (by decide +kernel) (by decide +kernel) (by decide +kernel) (by decide +kernel) (by first | exact fun _ h => List.mem_cons_of_mem _ (List.mem_append_right _ h) | exact fun _ h => List.mem_cons_of_mem _ (List.mem_append_left _ (List.mem_append_right _ h)) | decide +kernel) zb_is zo_is dX2_addCab_52 dX2_addCab_55 dX2_addCab_56 dX2_addCab_58 dX2_addCab_61 (Nat.le_of_ble_eq_true rfl) (Nat.le_of_ble_eq_true rfl) (Nat.le_of_ble_eq_true rfl) (Nat.le_of_ble_eq_true rfl) (fun _ _ => rfl) (Nat.le_refl _) ((Or.inr ⟨rfl, by first | (simp only [xAddCabE, c_1, c_2, c_3, hnn, c_4, reduceIte, Bool.false_eq_true]; done) | simp [xAddCabE, c_1, c_2, c_3, hnn, c_4]⟩)) (fun _ h => nomatch h) (Nat.le_of_ble_eq_true rfl) (Nat.le_of_ble_eq_true rfl)
      · skip
        have c_3 := bI_eq0.mp c_3
        exact gx_throw (text := "zone is not 0 to 5") hx hb hl0 hown hlocks hZ hS (hl.1.trans hml.symm) hnt hts (by decide +kernel) (by decide +kernel) (by decide +kernel) (by decide +kernel) (by decide +kernel) (by first | exact fun _ h => List.mem_cons_of_mem _ (List.mem_append_right _ h) | exact fun _ h => List.mem_cons_of_mem _ (List.mem_append_left _ (List.mem_append_right _ h)) | decide +kernel) zb_ia zo_ia dX2_addCab_28 dX2_addCab_31 dX2_addCab_32 dX2_addCab_34 dX2_addCab_37 (Nat.le_of_ble_eq_true rfl) (Nat.le_of_ble_eq_true rfl) (Nat.le_of_ble_eq_true rfl) (Nat.le_of_ble_eq_true rfl) (fun _ _ => rfl) (Nat.le_refl _) ((Or.inl ⟨rfl, by first | (simp only [xAddCabE, c_1, c_2, c_3, reduceIte, Bool.false_eq_true]; done) | simp [xAddCabE, c_1, c_2, c_3]⟩)) (fun _ h => nomatch h) (Nat.le_of_ble_eq_true rfl) (Nat.le_of_ble_eq_true rfl)
    · skip
      exact gx_throw (text := "seats is not 1 to 8") hx hb hl0 hown hlocks hZ hS (hl.1.trans hml.symm) hnt hts (by decide +kernel) (by decide +kernel) (by decide +kernel) (by decide +kernel) (by decide +kernel) (by first | exact fun _ h => List.mem_cons_of_mem _ (List.mem_append_right _ h) | exact fun _ h => List.mem_cons_of_mem _ (List.mem_append_left _ (List.mem_append_right _ h)) | decide +kernel) zb_ia zo_ia dX2_addCab_11 dX2_addCab_14 dX2_addCab_15 dX2_addCab_17 dX2_addCab_20 (Nat.le_of_ble_eq_true rfl) (Nat.le_of_ble_eq_true rfl) (Nat.le_of_ble_eq_true rfl) (Nat.le_of_ble_eq_true rfl) (fun _ _ => rfl) (Nat.le_refl _) ((Or.inl ⟨rfl, by first | (simp only [xAddCabE, c_1, c_2, reduceIte, Bool.false_eq_true]; done) | simp [xAddCabE, c_1, c_2]⟩)) (fun _ h => nomatch h) (Nat.le_of_ble_eq_true rfl) (Nat.le_of_ble_eq_true rfl)
set_option maxHeartbeats 4000000 in
set_option maxRecDepth 100000 in
theorem c_X2_order (l : Launch) (hl0 : l.stackTraces = false) (g : gG) (σ : Mem) (w : Int64) (n : Nat) (a b c d : Int32) (hX : Xok g σ) (hn : gcn g 7 = n) : vx_Met l yX2_order wsX2_order ({ frames := 7, cells := 5, slots := 240, locals := 160 } : Room) (gPc g σ w [.ref (gad g 0 0), .int (a), .int (b), .int (c), .int (d)]) (gE g (fun v H => v = some (.int (nI n)) ∧ xOrderE σ a b c d = 0 ∧ (∃ (g2 : gG) (σ2 : Mem), gGro g g2 ∧ gcn g2 6 = gcn g 6 ∧ gcn g2 7 = n + 1 ∧ Xok g2 σ2 ∧ (∀ k i f, k ≠ 3 → k ≠ 5 → σ2 k i f = xOrdNew σ n a b c d k i f) ∧ GW g2 (xMo σ2) w H))) (gX (fun E => (E = "java/lang/IndexOutOfBoundsException" ∧ xOrderE σ a b c d = 1) ∨ (E = "java/lang/IllegalArgumentException" ∧ xOrderE σ a b c d = 2) ∨ (E = "java/lang/IllegalStateException" ∧ xOrderE σ a b c d = 3))) 5 240 (gA g) := by
  refine gx_xofW (cc := cX2_order) (maxL := 6) (ret := (some .int)) (by decide) rfl (Nat.le_of_ble_eq_true rfl) ?_
  intro p e s m below meth c0 hx hb hr hml hts hown hlocks hin hnt hG hZ hS ls hl
  have hown : s.vm.findClass RX2 = some m.cls := hown
  have hl : lv_has ls 6 [(0, .ref (gad g 0 0)), (1, .int (a)), (2, .int (b)), (3, .int (c)), (4, .int (d))] := hl
  have k1 := hts (.fieldLink RX2 120 "TaxiRank" "time" "I") (by decide +kernel)
  have k2 := hts (.fieldLink RX2 20 "TaxiRank" "orders" "Ljava/util/ArrayList;") (by decide +kernel)
  have k3 := hts (.classLink RX2 127 RX1) (by decide +kernel)
  have k4 := hts (.instantiable RX1 15) (by decide +kernel)
  have k5 := hts (.initialized RX1) (by decide +kernel)
  have k6 := hts (.methodLink RX2 129 yX1_init) (by decide +kernel)
  have k7 := hts (.instanceMethod yX1_init) (by decide +kernel)
  have hnn : nO σ = n := by rw [hX.eO, hn]
  have hn6 := hX.n7
  have hZ0 := hZ
  refine lv_iload_n hx hb dX2_order_0 rfl (lv_at hl 1 rfl) ?_
  refine gx_cVx (gx_xrunS (As := [.int (a)]) (rest := []) ⟨hx, hb, hml, hown, hts⟩ (c_X2_requireZone l hl0 g σ w a) (va_cwS 1 hts gX2_order_X2_requireZone rfl rfl rfl (by decide +kernel) ⟨Nat.le_of_ble_eq_true rfl, Nat.le_of_ble_eq_true rfl⟩) hZ hG hS rfl hl.1 rfl (Nat.le_of_ble_eq_true rfl) dX2_order_1 ⟨Nat.le_of_ble_eq_true rfl, Nat.le_of_ble_eq_true rfl⟩) hG hS (fun E ce q9 H1 hPE hG hS hz1 hk1 hce hcv hcl => ?_) (fun hD1 => ?_)
  · skip
    exact gx_xout hnt hlocks ((Or.inl ⟨hPE.1, by first | (simp only [xOrderE, hPE.2, reduceIte, Bool.false_eq_true]; done) | simp [xOrderE, hPE.2]⟩)) hk1 hz1 hce hcv hcl (fun _ h => nomatch h) (Nat.le_of_ble_eq_true rfl) (Nat.le_of_ble_eq_true rfl)
  refine lv_iload_n hx hb dX2_order_4 rfl (lv_at hl 2 rfl) ?_
  refine gx_cVx (gx_xrunS (As := [.int (b)]) (rest := []) ⟨hx, hb, hml, hown, hts⟩ (c_X2_requireZone l hl0 g σ w b) (va_cwS 1 hts gX2_order_X2_requireZone rfl rfl rfl (by decide +kernel) ⟨Nat.le_of_ble_eq_true rfl, Nat.le_of_ble_eq_true rfl⟩) hZ hG hS rfl hl.1 rfl (Nat.le_of_ble_eq_true rfl) dX2_order_5 ⟨Nat.le_of_ble_eq_true rfl, Nat.le_of_ble_eq_true rfl⟩) hG hS (fun E ce q9 H1 hPE hG hS hz1 hk1 hce hcv hcl => ?_) (fun hD2 => ?_)
  · skip
    exact gx_xout hnt hlocks ((Or.inl ⟨hPE.1, by first | (simp only [xOrderE, hD1, hPE.2, reduceIte, Bool.false_eq_true]; done) | simp [xOrderE, hD1, hPE.2]⟩)) hk1 hz1 hce hcv hcl (fun _ h => nomatch h) (Nat.le_of_ble_eq_true rfl) (Nat.le_of_ble_eq_true rfl)
  refine lv_iload_n hx hb dX2_order_8 rfl (lv_at hl 3 rfl) ?_
  refine gx_cVx (gx_xrunS (As := [.int (c)]) (rest := []) ⟨hx, hb, hml, hown, hts⟩ (c_X2_requirePassengers l hl0 g σ w c) (va_cwS 1 hts gX2_order_X2_requirePassengers rfl rfl rfl (by decide +kernel) ⟨Nat.le_of_ble_eq_true rfl, Nat.le_of_ble_eq_true rfl⟩) hZ hG hS rfl hl.1 rfl (Nat.le_of_ble_eq_true rfl) dX2_order_9 ⟨Nat.le_of_ble_eq_true rfl, Nat.le_of_ble_eq_true rfl⟩) hG hS (fun E ce q9 H1 hPE hG hS hz1 hk1 hce hcv hcl => ?_) (fun hD3 => ?_)
  · skip
    exact gx_xout hnt hlocks ((Or.inr (Or.inl ⟨hPE.1, by rcases hPE.2 with h | h <;> simp [xOrderE, hD1, hD2, h]⟩))) hk1 hz1 hce hcv hcl (fun _ h => nomatch h) (Nat.le_of_ble_eq_true rfl) (Nat.le_of_ble_eq_true rfl)
  refine lv_iload hx hb dX2_order_12 (lv_at hl 4 rfl) ?_
  refine lv_aload_n hx hb dX2_order_14 rfl (lv_at hl 0 rfl) ?_
  refine gx_get hx hb hown hZ hG 0 0 3 hX.k0 rfl (by decide) k1 (fun _ h => h) (v := .int (σ 0 0 3)) rfl dX2_order_15 ?_
  refine lv_icmp_lt (tgt := 29) hx hb dX2_order_18 (by decide) (fun c_4 => ?_) (fun c_4 => ?_)
  · skip
    exact gx_throw (text := "due is less than now or greater than 9999") hx hb hl0 hown hlocks hZ hS (hl.1.trans hml.symm) hnt hts (by decide +kernel) (by decide +kernel) (by decide +kernel) (by decide +kernel) (by decide +kernel) (by first | exact fun _ h => List.mem_cons_of_mem _ (List.mem_append_right _ h) | exact fun _ h => List.mem_cons_of_mem _ (List.mem_append_left _ (List.mem_append_right _ h)) | decide +kernel) zb_ia zo_ia dX2_order_29 dX2_order_32 dX2_order_33 dX2_order_35 dX2_order_38 (Nat.le_of_ble_eq_true rfl) (Nat.le_of_ble_eq_true rfl) (Nat.le_of_ble_eq_true rfl) (Nat.le_of_ble_eq_true rfl) (fun _ _ => rfl) (Nat.le_refl _) ((Or.inr (Or.inl ⟨rfl, by first | (simp only [xOrderE, hD1, hD2, hD3, c_4, reduceIte, Bool.false_eq_true]; done) | simp [xOrderE, hD1, hD2, hD3, c_4]⟩))) (fun _ h => nomatch h) (Nat.le_of_ble_eq_true rfl) (Nat.le_of_ble_eq_true rfl)
  · skip
    refine lv_iload hx hb dX2_order_21 (lv_at hl 4 rfl) ?_
    refine lv_sipush (v := 9999) hx hb dX2_order_23 (by decide) ?_
    refine lv_icmp_le (tgt := 39) hx hb dX2_order_26 (by decide) (fun c_5 => ?_) (fun c_5 => ?_)
    · skip
      refine lv_aload_n hx hb dX2_order_39 rfl (lv_at hl 0 rfl) ?_
      refine gx_get hx hb hown hZ hG 0 0 2 hX.k0 rfl (by decide) k2 (fun _ h => h) (v := .ref (gad g 3 0)) (grf_z hX.r2) dX2_order_40 ?_
      refine gx_cR (gx_runV (As := []) (rest := []) ⟨hx, hb, hml, hown, hts⟩ (c_size3 l g σ w hX) (cwV 0 hts gX2_order_Jx4a65c_size_8abf5 rfl rfl rfl (by decide +kernel) ⟨Nat.le_of_ble_eq_true rfl, Nat.le_of_ble_eq_true rfl⟩) (gx_obj hZ hG 3 0 hX.k3 rfl) hZ hG hS rfl hl.1 rfl (Nat.le_of_ble_eq_true rfl) dX2_order_43 ⟨Nat.le_of_ble_eq_true rfl, Nat.le_of_ble_eq_true rfl⟩) ?_
      refine gx_topN (y := nI n) (by rw [hn]) ?_
      refine lv_istore (lv' := [(5, .int (nI n)), (0, .ref (gad g 0 0)), (1, .int (a)), (2, .int (b)), (3, .int (c)), (4, .int (d))]) hx hb dX2_order_46 hl (by decide) rfl (fun ls hl => ?_)
      refine lv_iload hx hb dX2_order_48 (lv_at hl 0 rfl) ?_
      refine lv_bipush (v := 60) hx hb dX2_order_50 (by decide) ?_
      refine lv_icmp_lt (tgt := 65) hx hb dX2_order_52 (by decide) (fun c_6 => ?_) (fun c_6 => ?_)
      · skip
        refine lv_aload_n hx hb dX2_order_65 rfl (lv_at hl 1 rfl) ?_
        refine gx_get hx hb hown hZ hG 0 0 2 hX.k0 rfl (by decide) k2 (fun _ h => h) (v := .ref (gad g 3 0)) (grf_z hX.r2) dX2_order_66 ?_
        have hn9 : n < 60 := (nI_ltI (by omega) (by decide)).mp c_6
        have hD9 : xOrderE σ a b c d = 0 := by simp [xOrderE, hnn, hD1, hD2, hD3, c_4, c_5, hnn, c_6]
        have hgA := hS
        refine gx_newo hx hb hown hZ hG hS 7 rfl (by omega) k3 k4 k5 (Nat.le_of_ble_eq_true rfl) (Nat.le_of_ble_eq_true rfl) dX2_order_69 (fun q H hG hS1 hsz => ?_)
        rw [hn] at hG
        have hX0 := hX
        have hS0 := hS1
        have hn0 := hn
        have hAA := gx_stA (g := g) (g' := gAdd g 7 q 0) rfl
        obtain ⟨g, hg⟩ : ∃ z : gG, z = gAdd g 7 q 0 := ⟨_, rfl⟩
        rw [← hg] at hG hAA
        have hZ : ZZ g s := by subst hg; exact gx_stZ rfl rfl rfl hZ
        have hS : va_S (gA g) s.heap H [] := by subst hg; exact hS1
        have hl : lv_has ls 6 [(5, .int (nI n)), (0, .ref (gad g 0 0)), (1, .int (a)), (2, .int (b)), (3, .int (c)), (4, .int (d))] := by subst hg; exact hl
        have hcn : n < gcn g 7 := by rw [hg, gAdd_cn, if_pos rfl, hn0]; exact Nat.lt_succ_self n
        have hq : gad g 7 n = q := by rw [hg, gAdd_ad, if_pos ⟨rfl, hn0.symm⟩]
        have hl2 : 0 < gcn g 3 := by subst hg; exact hX0.k3
        have hl0g : 0 < gcn g 0 := by subst hg; exact hX0.k0
        refine gx_topV (congrArg Value.ref hq.symm) ?_
        refine gx_topV2 (v := .ref (gad g 3 0)) (by subst hg; rfl) ?_
        refine lv_dup hx hb dX2_order_72 rfl ?_
        refine lv_iload hx hb dX2_order_73 (lv_at hl 0 rfl) ?_
        refine lv_iload_n hx hb dX2_order_75 rfl (lv_at hl 2 rfl) ?_
        refine lv_iload_n hx hb dX2_order_76 rfl (lv_at hl 3 rfl) ?_
        refine lv_iload_n hx hb dX2_order_77 rfl (lv_at hl 4 rfl) ?_
        refine lv_iload hx hb dX2_order_78 (lv_at hl 5 rfl) ?_
        refine gx_cM (gx_runI (As := [.int (nI n), .int (a), .int (b), .int (c), .int (d)]) (rest := [.ref (gad g 7 n), .ref (gad g 3 0)]) ⟨hx, hb, hml, hown, hts⟩ (c_X1_init l g (gFre σ 7 n) w n (nI n) a b c d hcn) (cwI 5 hts gX2_order_X1_init rfl rfl rfl k5 k6 k7 rfl (by decide +kernel) ⟨Nat.le_of_ble_eq_true rfl, Nat.le_of_ble_eq_true rfl⟩) hZ hG hS rfl hl.1 rfl (Nat.le_of_ble_eq_true rfl) dX2_order_80 ⟨Nat.le_of_ble_eq_true rfl, Nat.le_of_ble_eq_true rfl⟩) hS (fun H locs hG hS hsz => ?_)
        refine gx_cE (gx_runV (As := [.ref (gad g 7 n)]) (rest := []) ⟨hx, hb, hml, hown, hts⟩ (c_add13 l g (xOrdNew σ n a b c d) w n (hX0.lp3 hn0 hg (fun f => by rw [xOrdNew, xOrdIni_o (Or.inl (by decide)), gFre_o (Or.inl (by decide))]))) (cwV 1 hts gX2_order_Jx4a65c_add_9ea2d rfl rfl rfl (by decide +kernel) ⟨Nat.le_of_ble_eq_true rfl, Nat.le_of_ble_eq_true rfl⟩) (gx_obj hZ hG 3 0 hl2 rfl) hZ hG hS rfl hl.1 rfl (Nat.le_of_ble_eq_true rfl) dX2_order_83 ⟨Nat.le_of_ble_eq_true rfl, Nat.le_of_ble_eq_true rfl⟩) hS (fun vr H1 locs1 hPo hS1 hsz => ?_)
        obtain ⟨rfl, hLQ⟩ := hPo
        obtain ⟨g2, σ2, hgro, h6, h7, hX, hag, hG⟩ := ord_end hX0 hn0 hn9 hg hLQ
        have hZ : ZZ g2 s := gx_stZ hgro.1.1 hgro.1.2.1 hgro.1.2.2 hZ0
        have hS : va_S (gA g2) s.heap H1 locs1 := by rw [gx_stA hgro.1.2.2, ← hAA]; exact hS1
        have hl : lv_has ls 6 [(5, .int (nI n)), (0, .ref (gad g2 0 0)), (1, .int (a)), (2, .int (b)), (3, .int (c)), (4, .int (d))] := by have e0 := congrFun (hgro.2 0 (by decide) (by decide) (by decide) (by decide)).1 0; rw [e0]; subst hg; exact hl
        obtain ⟨g, hg2⟩ : ∃ z : gG, z = g2 := ⟨_, rfl⟩
        subst hg2
        refine lv_pop hx hb dX2_order_86 rfl ?_
        refine lv_aload_n hx hb dX2_order_87 rfl (lv_at hl 1 rfl) ?_
        refine gx_cM (gx_runV (As := []) (rest := []) ⟨hx, hb, hml, hown, hts⟩ (c_X2_makeOffers l g σ2 w hX) (cwV 0 hts gX2_order_X2_makeOffers rfl rfl rfl (by decide +kernel) ⟨Nat.le_of_ble_eq_true rfl, Nat.le_of_ble_eq_true rfl⟩) (gx_obj hZ hG 0 0 hX.k0 rfl) hZ hG hS rfl hl.1 rfl (Nat.le_of_ble_eq_true rfl) dX2_order_88 ⟨Nat.le_of_ble_eq_true rfl, Nat.le_of_ble_eq_true rfl⟩) hS (fun H locs hG hS hsz => ?_)
        refine lv_iload hx hb dX2_order_91 (lv_at hl 0 rfl) ?_
        rw [gx_stA hgro.1.2.2] at hS
        exact gx_iretEx hx hb hr hlocks hS ⟨rfl, hD9, _, _, hgro, h6, h7, hX, hag, hG⟩ (Nat.le_of_ble_eq_true rfl) (Nat.le_of_ble_eq_true rfl) dX2_order_93
      · skip
        exact gx_throw (text := "there are 60 orders") hx hb hl0 hown hlocks hZ hS (hl.1.trans hml.symm) hnt hts (by decide +kernel) (by decide +kernel) (by decide +kernel) (by decide +kernel) (by decide +kernel) (by first | exact fun _ h => List.mem_cons_of_mem _ (List.mem_append_right _ h) | exact fun _ h => List.mem_cons_of_mem _ (List.mem_append_left _ (List.mem_append_right _ h)) | decide +kernel) zb_is zo_is dX2_order_55 dX2_order_58 dX2_order_59 dX2_order_61 dX2_order_64 (Nat.le_of_ble_eq_true rfl) (Nat.le_of_ble_eq_true rfl) (Nat.le_of_ble_eq_true rfl) (Nat.le_of_ble_eq_true rfl) (fun _ _ => rfl) (Nat.le_refl _) ((Or.inr (Or.inr ⟨rfl, by first | (simp only [xOrderE, hD1, hD2, hD3, c_4, c_5, hnn, c_6, reduceIte, Bool.false_eq_true]; done) | simp [xOrderE, hD1, hD2, hD3, c_4, c_5, hnn, c_6]⟩))) (fun _ h => nomatch h) (Nat.le_of_ble_eq_true rfl) (Nat.le_of_ble_eq_true rfl)
    · skip
      exact gx_throw (text := "due is less than now or greater than 9999") hx hb hl0 hown hlocks hZ hS (hl.1.trans hml.symm) hnt hts (by decide +kernel) (by decide +kernel) (by decide +kernel) (by decide +kernel) (by decide +kernel) (by first | exact fun _ h => List.mem_cons_of_mem _ (List.mem_append_right _ h) | exact fun _ h => List.mem_cons_of_mem _ (List.mem_append_left _ (List.mem_append_right _ h)) | decide +kernel) zb_ia zo_ia dX2_order_29 dX2_order_32 dX2_order_33 dX2_order_35 dX2_order_38 (Nat.le_of_ble_eq_true rfl) (Nat.le_of_ble_eq_true rfl) (Nat.le_of_ble_eq_true rfl) (Nat.le_of_ble_eq_true rfl) (fun _ _ => rfl) (Nat.le_refl _) ((Or.inr (Or.inl ⟨rfl, by first | (simp only [xOrderE, hD1, hD2, hD3, c_4, c_5, reduceIte, Bool.false_eq_true]; done) | simp [xOrderE, hD1, hD2, hD3, c_4, c_5]⟩))) (fun _ h => nomatch h) (Nat.le_of_ble_eq_true rfl) (Nat.le_of_ble_eq_true rfl)
