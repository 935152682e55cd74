theorem gDef8 : ∀ f, 6 ≤ f → gDef 8 f = 0
  | 0, h => absurd h (by decide)
  | 1, h => absurd h (by decide)
  | 2, h => absurd h (by decide)
  | 3, h => absurd h (by decide)
  | 4, h => absurd h (by decide)
  | 5, h => absurd h (by decide)
  | _ + 6, _ => rfl
set_option maxHeartbeats 8000000 in
set_option maxRecDepth 100000 in
/-- the law, from its entry -/
theorem whole_start {p : Program} {e : Env} {s : State} {m : MethodId} {below : List Frame} {meth : Method} {c : Code} (l : Launch) (hflags : l.flags = flags0) {b L : Nat} {xs : Nat → Int32} (hL : L ≤ 260) (C0 : lw_At p s m meth c b L xs) : W p l e room_1 s m #[Value.ref b] below meth c s.heap [] 0 0 (lw_Z below #[Value.ref b] s) (entryFrame m ([Value.ref b] : List Value).toArray 11) := by
  obtain ⟨g0, hZ, hN, h0⟩ := zz_start C0
  obtain ⟨hx, hb, hr, hml, hown, htt, hX, hbl, hlocks, hgv⟩ := C0
  have hts : ∀ w ∈ wsL_law, w.before #[Value.ref b] s = true := fun w hw => htt w (wsL_law_in w hw)
  have hown : s.vm.findClass RL = some m.cls := hown
  have hb : c.code = cL_law := hb
  have hl0 : l.stackTraces = false := by
    unfold Jvm.Launch.stackTraces
    rw [hflags]
    decide +kernel
  have hS : va_S (gA g0) s.heap s.heap [] := va_S.rf
  have hG : GW g0 (fun _ _ _ => 0) 0 s.heap := ⟨⟨fun _ => (0, 0), fun k i hi => absurd hi (by rw [h0]; exact Nat.not_lt_zero _)⟩, fun k i hi => absurd hi (by rw [h0]; exact Nat.not_lt_zero _), fun k i f hi => absurd hi (by rw [h0]; exact Nat.not_lt_zero _), fun k => by rw [h0]; decide⟩
  have hl := lv_entry ([.ref b]) (n := 11) (Nat.le_of_ble_eq_true rfl)
  rw [lg_entry_eq]
  generalize (lg_sl ([.ref b]) ++ List.replicate (11 - (lg_sl ([.ref b])).length) Slot.unset).toArray = ls at hl ⊢
  have hl : lv_has ls 11 [(0, .ref b)] := hl
  -- new TaxiRank()
  refine gx_newo hx hb hown hZ hG hS 0 rfl (by rw [h0]; decide) (hts (.classLink RL 26 RX2) (by decide +kernel)) (hts (.instantiable RX2 7) (by decide +kernel)) (hts (.initialized RX2) (by decide +kernel)) (Nat.le_of_ble_eq_true rfl) (Nat.le_of_ble_eq_true rfl) dL_law_0 (fun q1 H hG hS1 hsz => ?_)
  rw [h0] at hG
  obtain ⟨g1, hg1⟩ : ∃ z : gG, z = gAdd g0 0 q1 0 := ⟨_, rfl⟩
  rw [← hg1] at hG
  have hZ1 : ZZ g1 s := by rw [hg1]; exact gx_stZ rfl rfl rfl hZ
  have hA1 : gA g1 = gA g0 := by rw [hg1]; exact gx_stA rfl
  have hS : va_S (gA g1) s.heap H [] := by rw [hA1]; exact hS1
  have a1 : gad g1 0 0 = q1 := by rw [hg1, gAdd_ad, if_pos ⟨rfl, (h0 0).symm⟩]
  have n1 : gcn g1 0 = 1 := by rw [hg1, gAdd_cn, if_pos rfl, h0]
  have m1 : ∀ k, k ≠ 0 → gcn g1 k = 0 := fun k hk => by rw [hg1, gAdd_cn, if_neg hk, h0]
  have hN1 : gN0 g1 = s.heap.size := by rw [hg1]; exact hN
  rw [← a1]
  refine lv_dup hx hb dL_law_3 rfl ?_
  refine gx_cE (gx_runI (As := []) (rest := [.ref (gad g1 0 0)]) ⟨hx, hb, hml, hown, hts⟩ (c_X2_init l g1 (gFre (fun _ _ _ => 0) 0 0) 0 n1 (m1 1 (by decide)) (m1 2 (by decide)) (m1 3 (by decide)) (m1 4 (by decide)) (m1 5 (by decide)) (m1 6 (by decide)) (m1 7 (by decide)) (by decide) (by decide)) (cwI 0 hts gL_law_X2_init rfl rfl rfl (hts (.initialized RX2) (by decide +kernel)) (hts (.methodLink RL 93 yX2_init) (by decide +kernel)) (hts (.instanceMethod yX2_init) (by decide +kernel)) rfl (by decide +kernel) ⟨Nat.le_of_ble_eq_true rfl, Nat.le_of_ble_eq_true rfl⟩) hZ1 hG hS rfl hl.1 rfl (Nat.le_of_ble_eq_true rfl) dL_law_4 ⟨Nat.le_of_ble_eq_true rfl, Nat.le_of_ble_eq_true rfl⟩) hS (fun vr H1 locs1 hPo hS1 hsz => ?_)
  obtain ⟨rfl, g2, σ2, hini, hX2, hway, ht2, hG⟩ := hPo
  have hZ2 : ZZ g2 s := gx_stZ hini.1.1 hini.1.2.1 hini.1.2.2 hZ1
  have hS : va_S (gA g2) s.heap H1 locs1 := by rw [gx_stA hini.1.2.2]; exact hS1
  have hN2 : gN0 g2 = s.heap.size := (congrArg (fun z => z.1) hini.1.2.2).trans hN1
  have m2 : ∀ k, k ≠ 0 → k ≠ 1 → k ≠ 2 → k ≠ 3 → gcn g2 k = 0 := fun k h0 h1 h2 h3 => by rw [(hini.2 k h1 h2 h3).2.1]; exact m1 k h0
  rw [← congrFun (hini.2 0 (by decide) (by decide) (by decide)).1 0]
  refine lv_astore_n (lv' := [(1, .ref (gad g2 0 0)), (0, .ref b)]) hx hb dL_law_7 rfl hl (by decide) rfl (fun ls hl => ?_)
  -- new Rank()
  have c28 : gcn g2 8 = 0 := m2 8 (by decide) (by decide) (by decide) (by decide)
  refine gx_newo hx hb hown hZ2 hG hS 8 rfl (by rw [c28]; decide) (hts (.classLink RL 16 RX3) (by decide +kernel)) (hts (.instantiable RX3 11) (by decide +kernel)) (hts (.initialized RX3) (by decide +kernel)) (Nat.le_of_ble_eq_true rfl) (Nat.le_of_ble_eq_true rfl) dL_law_8 (fun q3 H2 hG hS2 hsz => ?_)
  rw [c28] at hG
  obtain ⟨g3, hg3⟩ : ∃ z : gG, z = gAdd g2 8 q3 0 := ⟨_, rfl⟩
  rw [← hg3] at hG
  have hZ3 : ZZ g3 s := by rw [hg3]; exact gx_stZ rfl rfl rfl hZ2
  have hA3 : gA g3 = gA g2 := by rw [hg3]; exact gx_stA rfl
  have hS : va_S (gA g3) s.heap H2 locs1 := by rw [hA3]; exact hS2
  have a3 : gad g3 8 0 = q3 := by rw [hg3, gAdd_ad, if_pos ⟨rfl, c28.symm⟩]
  have b3 : gad g3 0 0 = gad g2 0 0 := by rw [hg3, gAdd_ad, if_neg (fun z => absurd z.1 (by decide))]
  have n3 : gcn g3 8 = 1 := by rw [hg3, gAdd_cn, if_pos rfl, c28]
  have m3 : ∀ k, k ≠ 8 → gcn g3 k = gcn g2 k := fun k hk => by rw [hg3, gAdd_cn, if_neg hk]
  have l3 : ∀ k, k ≠ 8 → gln g3 k = gln g2 k := fun k hk => by rw [hg3]; funext i; rw [gAdd_ln, if_neg (fun z => hk z.1)]
  have hN3 : gN0 g3 = s.heap.size := by rw [hg3]; exact hN2
  rw [← a3]
  rw [← b3] at hl
  refine lv_dup hx hb dL_law_11 rfl ?_
  refine gx_cE (gx_runI (As := []) (rest := [.ref (gad g3 8 0)]) ⟨hx, hb, hml, hown, hts⟩ (c_X3_init l g3 (gFre σ2 8 0) 0 n3 (fun k h9 h20 => by rw [m3 k (by omega)]; exact m2 k (by omega) (by omega) (by omega) (by omega)) (fun f hf => (if_pos ⟨rfl, rfl⟩ : gFre σ2 8 0 8 0 f = gDef 8 f).trans (gDef8 f hf))) (cwI 0 hts gL_law_X3_init rfl rfl rfl (hts (.initialized RX3) (by decide +kernel)) (hts (.methodLink RL 94 yX3_init) (by decide +kernel)) (hts (.instanceMethod yX3_init) (by decide +kernel)) rfl (by decide +kernel) ⟨Nat.le_of_ble_eq_true rfl, Nat.le_of_ble_eq_true rfl⟩) hZ3 hG hS rfl hl.1 rfl (Nat.le_of_ble_eq_true rfl) dL_law_12 ⟨Nat.le_of_ble_eq_true rfl, Nat.le_of_ble_eq_true rfl⟩) hS (fun vr H3 locs3 hPo hS3 hsz => ?_)
  obtain ⟨rfl, g4, σ4, hnew, c16, c17, hR4, hw4, h18, h19, t8, hfr, hG⟩ := hPo
  have hZ4 : ZZ g4 s := gx_stZ hnew.1.1 hnew.1.2.1 hnew.1.2.2 hZ3
  have hS : va_S (gA g4) s.heap H3 locs3 := by rw [gx_stA hnew.1.2.2]; exact hS3
  have hN4 : gN0 g4 = s.heap.size := (congrArg (fun z => z.1) hnew.1.2.2).trans hN3
  rw [← congrFun (hnew.2 8 (Or.inl (by decide))).1 0]
  rw [← congrFun (hnew.2 0 (Or.inl (by decide))).1 0] at hl
  refine lv_astore_n (lv' := [(2, .ref (gad g4 8 0)), (1, .ref (gad g4 0 0)), (0, .ref b)]) hx hb dL_law_15 rfl hl (by decide) rfl (fun ls hl => ?_)
  -- new int[60], twice
  have c421 : gcn g4 21 = 0 := by rw [(hnew.2 21 (Or.inr (by decide))).2.1, m3 21 (by decide)]; exact m2 21 (by decide) (by decide) (by decide) (by decide)
  have c422 : gcn g4 22 = 0 := by rw [(hnew.2 22 (Or.inr (by decide))).2.1, m3 22 (by decide)]; exact m2 22 (by decide) (by decide) (by decide) (by decide)
  refine lv_bipush (v := 60) hx hb dL_law_16 (by decide) ?_
  refine gx_newI hx hb (hts (.arrayClass .int) (by decide +kernel)) hZ4 hG hS 21 60 (by decide) (by rw [c421]; decide) rfl (by decide) (Nat.le_of_ble_eq_true rfl) (Nat.le_of_ble_eq_true rfl) dL_law_18 (fun q5 H4 hG hS4 hsz => ?_)
  rw [c421] at hG
  obtain ⟨g5, hg5⟩ : ∃ z : gG, z = gAdd g4 21 q5 60 := ⟨_, rfl⟩
  rw [← hg5] at hG
  have hZ5 : ZZ g5 s := by rw [hg5]; exact gx_stZ rfl rfl rfl hZ4
  have hA5 : gA g5 = gA g4 := by rw [hg5]; exact gx_stA rfl
  have hS : va_S (gA g5) s.heap H4 locs3 := by rw [hA5]; exact hS4
  have a5 : gad g5 21 0 = q5 := by rw [hg5, gAdd_ad, if_pos ⟨rfl, c421.symm⟩]
  have b50 : gad g5 0 0 = gad g4 0 0 := by rw [hg5, gAdd_ad, if_neg (fun z => absurd z.1 (by decide))]
  have b58 : gad g5 8 0 = gad g4 8 0 := by rw [hg5, gAdd_ad, if_neg (fun z => absurd z.1 (by decide))]
  have m5 : ∀ k, k ≠ 21 → gcn g5 k = gcn g4 k := fun k hk => by rw [hg5, gAdd_cn, if_neg hk]
  have l5 : ∀ k, k ≠ 21 → gln g5 k = gln g4 k := fun k hk => by rw [hg5]; funext i; rw [gAdd_ln, if_neg (fun z => hk z.1)]
  have n5 : gcn g5 21 = 1 := by rw [hg5, gAdd_cn, if_pos rfl, c421]
  have k5 : gln g5 21 0 = 60 := by rw [hg5, gAdd_ln, if_pos ⟨rfl, c421.symm⟩]
  have hN5 : gN0 g5 = s.heap.size := by rw [hg5]; exact hN4
  rw [← a5]
  rw [← b50, ← b58] at hl
  refine lv_astore_n (lv' := [(3, .ref (gad g5 21 0)), (2, .ref (gad g5 8 0)), (1, .ref (gad g5 0 0)), (0, .ref b)]) hx hb dL_law_20 rfl hl (by decide) rfl (fun ls hl => ?_)
  have c522 : gcn g5 22 = 0 := (m5 22 (by decide)).trans c422
  refine lv_bipush (v := 60) hx hb dL_law_21 (by decide) ?_
  refine gx_newI hx hb (hts (.arrayClass .int) (by decide +kernel)) hZ5 hG hS 22 60 (by decide) (by rw [c522]; decide) rfl (by decide) (Nat.le_of_ble_eq_true rfl) (Nat.le_of_ble_eq_true rfl) dL_law_23 (fun q6 H5 hG hS5 hsz => ?_)
  rw [c522] at hG
  obtain ⟨g6, hg6⟩ : ∃ z : gG, z = gAdd g5 22 q6 60 := ⟨_, rfl⟩
  rw [← hg6] at hG
  have hZ6 : ZZ g6 s := by rw [hg6]; exact gx_stZ rfl rfl rfl hZ5
  have hA6 : gA g6 = gA g5 := by rw [hg6]; exact gx_stA rfl
  have hS : va_S (gA g6) s.heap H5 locs3 := by rw [hA6]; exact hS5
  have a6 : gad g6 22 0 = q6 := by rw [hg6, gAdd_ad, if_pos ⟨rfl, c522.symm⟩]
  have b60 : ∀ k, k ≠ 22 → gad g6 k 0 = gad g5 k 0 := fun k hk => by rw [hg6, gAdd_ad, if_neg (fun z => hk z.1)]
  have m6 : ∀ k, k ≠ 22 → gcn g6 k = gcn g5 k := fun k hk => by rw [hg6, gAdd_cn, if_neg hk]
  have l6 : ∀ k, k ≠ 22 → gln g6 k = gln g5 k := fun k hk => by rw [hg6]; funext i; rw [gAdd_ln, if_neg (fun z => hk z.1)]
  have n6 : gcn g6 22 = 1 := by rw [hg6, gAdd_cn, if_pos rfl, c522]
  have k6 : gln g6 22 0 = 60 := by rw [hg6, gAdd_ln, if_pos ⟨rfl, c522.symm⟩]
  have hN6 : gN0 g6 = s.heap.size := by rw [hg6]; exact hN5
  rw [← a6]
  rw [← b60 0 (by decide), ← b60 8 (by decide), ← b60 21 (by decide)] at hl
  refine lv_astore (lv' := [(4, .ref (gad g6 22 0)), (3, .ref (gad g6 21 0)), (2, .ref (gad g6 8 0)), (1, .ref (gad g6 0 0)), (0, .ref b)]) hx hb dL_law_25 hl (by decide) rfl (fun ls hl => ?_)
  refine lv_iconst (v := 0) hx hb dL_law_27 (by decide) ?_
  refine lv_istore (lv' := [(5, .int 0), (4, .ref (gad g6 22 0)), (3, .ref (gad g6 21 0)), (2, .ref (gad g6 8 0)), (1, .ref (gad g6 0 0)), (0, .ref b)]) hx hb dL_law_28 hl (by decide) rfl (fun ls hl => ?_)
  -- what holds at the loop
  obtain ⟨σ6, hσ6⟩ : ∃ y, y = gFre (gFre σ4 21 0) 22 0 := ⟨_, rfl⟩
  rw [← hσ6] at hG
  have e20 : ∀ k i f, k ≤ 20 → σ6 k i f = σ4 k i f := fun k i f hk => by rw [hσ6, gFre_o (Or.inl (by omega)), gFre_o (Or.inl (by omega))]
  have es : ∀ k i f, k < 8 → σ6 k i f = σ2 k i f := fun k i f hk => by
    rw [e20 k i f (by omega), hfr k i f (Or.inl hk), gFre_o (Or.inl (by omega))]
  have hX6 : Xok g6 σ6 := (hX2.cong es).wld (fun k hk => by rw [m6 k (by omega), m5 k (by omega), (hnew.2 k (Or.inl (by omega))).2.1, m3 k (by omega)]) (fun k hk => by rw [l6 k (by omega), l5 k (by omega), (hnew.2 k (Or.inl (by omega))).2.2, l3 k (by omega)])
  have hR6 : Rr g6 σ6 := (hR4.cong (fun f _ => e20 8 0 f (by decide)) (fun K j _ h14 => e20 K 0 j (by omega))).wld (fun k h8 h20 => by rw [m6 k (by omega), m5 k (by omega)]) (fun k h8 h20 => by rw [l6 k (by omega), l5 k (by omega)])
  have hLA : LA g6 := ⟨⟨(m6 21 (by decide)).trans n5, n6⟩, (congrFun (l6 21 (by decide)) 0).trans k5, k6⟩
  have c6 : ∀ k, 4 ≤ k → k ≤ 7 → gcn g6 k = 0 := fun k h4 h7 => by rw [m6 k (by omega), m5 k (by omega), (hnew.2 k (Or.inl (by omega))).2.1, m3 k (by omega)]; exact m2 k (by omega) (by omega) (by omega) (by omega)
  have hI := LI.fresh hX6 hR6 hLA (c6 6 (by decide) (by decide)) (c6 7 (by decide) (by decide)) (by rw [m6 16 (by decide), m5 16 (by decide)]; exact c16) (by rw [m6 17 (by decide), m5 17 (by decide)]; exact c17) (fun j hj => by rw [es 1 0 j (by decide)]; exact hway j hj) (fun a b ha hb => by rw [e20 15 a b (by decide)]; exact hw4 a b ha hb) (by rw [es 0 0 3 (by decide)]; exact ht2.1) (by rw [es 0 0 6 (by decide)]; exact ht2.2.2.2) (by rw [e20 8 0 8 (by decide)]; exact t8) (fun z j => by rw [e20 18 z j (by decide)]; exact h18 z j) (fun o c => by rw [e20 19 o c (by decide)]; exact h19 o c)
    (fun j => by rw [hσ6, gFre_o (Or.inl (by decide))]; exact if_pos ⟨rfl, rfl⟩) (fun j => by rw [hσ6]; exact if_pos ⟨rfl, rfl⟩)
  have hO0 : nO σ6 ≤ 0 := by rw [hX6.eO, c6 7 (by decide) (by decide)]; exact Nat.le_refl _
  refine law_outer l hl0 ⟨hx, hb, hml, hown, hts⟩ hL hX hbl 50 0 _ _ g6 _ 0 0 σ6 H5 locs3 ls rfl (Nat.le_of_ble_eq_true rfl) (Nat.le_of_ble_eq_true rfl) hZ6 hN6 hI.1 hI.2 (Nat.le_refl _) (Nat.le_refl _) hO0 hG hS (lv_sub hl [5, 4, 3, 2, 1, 0] rfl) (fun g' hs' t' B' σ' H locs ls hZ' hN' hL' hB' hO' hG' hS' hl' => ?_)
  refine law_last l hl0 ⟨hx, hb, hml, hown, hts⟩ hZ' hL' hB' hO' hG' hS' hl' (fun H locs ls hS => ?_)
  refine va_forget (fun q hq => ?_) ?_
  · rw [← hN']; exact hS.2.2 q hq
  · exact lw_ret hx hb hr hlocks dL_law_515
