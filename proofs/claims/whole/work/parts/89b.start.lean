set_option maxHeartbeats 8000000 in
set_option maxRecDepth 100000 in
/-- the law, from its entry -/
theorem whole_start {p : Program} {e : Env} {s : State} {m : MethodId} {below : List Frame} {meth : Method} {c : Code} (l : Launch) (hflags : l.flags = flags0) {b L : Nat} {xs : Nat → Int32} (hL : L ≤ 2560) (C0 : lw_At p s m meth c b L xs) : W p l e room_1 s m #[Value.ref b] below meth c s.heap [] 0 0 (lw_Z below #[Value.ref b] s) (entryFrame m ([Value.ref b] : List Value).toArray 9) := by
  obtain ⟨g0, hZ, hN, h0⟩ := zz_start C0
  obtain ⟨hx, hb, hr, hml, hown, htt, hX, hbl, hlocks, hgv⟩ := C0
  have hts : ∀ w ∈ wsL_law, w.before #[Value.ref b] s = true := fun w hw => htt w (wsL_law_in w hw)
  have hown : s.vm.findClass RL = some m.cls := hown
  have hl0 : l.stackTraces = false := by
    unfold Jvm.Launch.stackTraces
    rw [hflags]
    decide +kernel
  have hS : va_S (gA g0) s.heap s.heap [] := va_S.rf
  have hG : GW g0 (fun _ _ _ => 0) 0 s.heap := ⟨⟨fun _ => (0, 0), fun k i hi => absurd hi (by rw [h0]; exact Nat.not_lt_zero _)⟩, fun k i hi => absurd hi (by rw [h0]; exact Nat.not_lt_zero _), fun k i f hi => absurd hi (by rw [h0]; exact Nat.not_lt_zero _), fun k => by rw [h0]; decide⟩
  have hl := lv_entry ([.ref b]) (n := 9) (Nat.le_of_ble_eq_true rfl)
  rw [lg_entry_eq]
  generalize (lg_sl ([.ref b]) ++ List.replicate (9 - (lg_sl ([.ref b])).length) Slot.unset).toArray = ls at hl ⊢
  have hl : lv_has ls 9 [(0, .ref b)] := hl
  -- new TaxiRank()
  refine gx_newo hx hb hown hZ hG hS 0 rfl (by rw [h0]; decide) (hts (.classLink RL 8 RX2) (by decide +kernel)) (hts (.instantiable RX2 7) (by decide +kernel)) (hts (.initialized RX2) (by decide +kernel)) (Nat.le_of_ble_eq_true rfl) (Nat.le_of_ble_eq_true rfl) dL_law_0 (fun q1 H hG hS1 hsz => ?_)
  rw [h0] at hG
  obtain ⟨g1, hg1⟩ : ∃ z : gG, z = gAdd g0 0 q1 0 := ⟨_, rfl⟩
  rw [← hg1] at hG
  have hZ1 : ZZ g1 s := by rw [hg1]; exact gx_stZ rfl rfl rfl hZ
  have hA1 : gA g1 = gA g0 := by rw [hg1]; exact gx_stA rfl
  have hS : va_S (gA g1) s.heap H [] := by rw [hA1]; exact hS1
  have a1 : gad g1 0 0 = q1 := by rw [hg1, gAdd_ad, if_pos ⟨rfl, (h0 0).symm⟩]
  have n1 : gcn g1 0 = 1 := by rw [hg1, gAdd_cn, if_pos rfl, h0]
  have m1 : ∀ k, k ≠ 0 → gcn g1 k = 0 := fun k hk => by rw [hg1, gAdd_cn, if_neg hk, h0]
  have hN1 : gN0 g1 = s.heap.size := by rw [hg1]; exact hN
  rw [← a1]
  refine lv_dup hx hb dL_law_3 rfl ?_
  refine gx_cE (gx_runI (As := []) (rest := [.ref (gad g1 0 0)]) ⟨hx, hb, hml, hown, hts⟩ (c_X2_init l g1 (gFre (fun _ _ _ => 0) 0 0) 0 n1 (m1 1 (by decide)) (m1 2 (by decide)) (m1 3 (by decide)) (m1 4 (by decide)) (m1 5 (by decide)) (m1 6 (by decide)) (m1 7 (by decide)) (by decide) (by decide)) (cwI 0 hts gL_law_X2_init rfl rfl rfl (hts (.initialized RX2) (by decide +kernel)) (hts (.methodLink RL 74 yX2_init) (by decide +kernel)) (hts (.instanceMethod yX2_init) (by decide +kernel)) rfl (by decide +kernel) ⟨Nat.le_of_ble_eq_true rfl, Nat.le_of_ble_eq_true rfl⟩) hZ1 hG hS rfl hl.1 rfl (Nat.le_of_ble_eq_true rfl) dL_law_4 ⟨Nat.le_of_ble_eq_true rfl, Nat.le_of_ble_eq_true rfl⟩) hS (fun vr H1 locs1 hPo hS1 hsz => ?_)
  obtain ⟨rfl, g2, σ2, hini, hX2, hway, ht2, hG⟩ := hPo
  have hZ2 : ZZ g2 s := gx_stZ hini.1.1 hini.1.2.1 hini.1.2.2 hZ1
  have hS : va_S (gA g2) s.heap H1 locs1 := by rw [gx_stA hini.1.2.2]; exact hS1
  have hN2 : gN0 g2 = s.heap.size := (congrArg (fun z => z.1) hini.1.2.2).trans hN1
  have m2 : ∀ k, k ≠ 0 → k ≠ 1 → k ≠ 2 → k ≠ 3 → gcn g2 k = 0 := fun k h0 h1 h2 h3 => by rw [(hini.2 k h1 h2 h3).2.1]; exact m1 k h0
  rw [← congrFun (hini.2 0 (by decide) (by decide) (by decide)).1 0]
  refine lv_astore_n (lv' := [(1, .ref (gad g2 0 0)), (0, .ref b)]) hx hb dL_law_7 rfl hl (by decide) rfl (fun ls hl => ?_)
  -- new TaxiRankModel()
  refine gx_newo hx hb hown hZ2 hG hS 8 rfl (by rw [m2 8 (by decide) (by decide) (by decide) (by decide)]; decide) (hts (.classLink RL 75 RX3) (by decide +kernel)) (hts (.instantiable RX3 19) (by decide +kernel)) (hts (.initialized RX3) (by decide +kernel)) (Nat.le_of_ble_eq_true rfl) (Nat.le_of_ble_eq_true rfl) dL_law_8 (fun q3 H2 hG hS2 hsz => ?_)
  rw [m2 8 (by decide) (by decide) (by decide) (by decide)] at hG
  obtain ⟨g3, hg3⟩ : ∃ z : gG, z = gAdd g2 8 q3 0 := ⟨_, rfl⟩
  rw [← hg3] at hG
  have hZ3 : ZZ g3 s := by rw [hg3]; exact gx_stZ rfl rfl rfl hZ2
  have hA3 : gA g3 = gA g2 := by rw [hg3]; exact gx_stA rfl
  have hS : va_S (gA g3) s.heap H2 locs1 := by rw [hA3]; exact hS2
  have a3 : gad g3 8 0 = q3 := by rw [hg3, gAdd_ad, if_pos ⟨rfl, (m2 8 (by decide) (by decide) (by decide) (by decide)).symm⟩]
  have b3 : gad g3 0 0 = gad g2 0 0 := by rw [hg3, gAdd_ad, if_neg (fun z => absurd z.1 (by decide))]
  have n3 : gcn g3 8 = 1 := by rw [hg3, gAdd_cn, if_pos rfl, m2 8 (by decide) (by decide) (by decide) (by decide)]
  have m3 : ∀ k, k ≠ 8 → gcn g3 k = gcn g2 k := fun k hk => by rw [hg3, gAdd_cn, if_neg hk]
  have l3 : ∀ k, k ≠ 8 → gln g3 k = gln g2 k := fun k hk => by rw [hg3]; funext i; rw [gAdd_ln, if_neg (fun z => hk z.1)]
  have hN3 : gN0 g3 = s.heap.size := by rw [hg3]; exact hN2
  rw [← a3]
  rw [← b3] at hl
  refine lv_dup hx hb dL_law_11 rfl ?_
  refine gx_cE (gx_runI (As := []) (rest := [.ref (gad g3 8 0)]) ⟨hx, hb, hml, hown, hts⟩ (c_X3_init l g3 (gFre σ2 8 0) 0 n3 (by rw [m3 9 (by decide)]; exact m2 9 (by decide) (by decide) (by decide) (by decide)) (fun f hf => (if_pos ⟨rfl, rfl⟩ : gFre σ2 8 0 8 0 f = gDef 8 f).trans (gDef8 f hf))) (cwI 0 hts gL_law_X3_init rfl rfl rfl (hts (.initialized RX3) (by decide +kernel)) (hts (.methodLink RL 77 yX3_init) (by decide +kernel)) (hts (.instanceMethod yX3_init) (by decide +kernel)) rfl (by decide +kernel) ⟨Nat.le_of_ble_eq_true rfl, Nat.le_of_ble_eq_true rfl⟩) hZ3 hG hS rfl hl.1 rfl (Nat.le_of_ble_eq_true rfl) dL_law_12 ⟨Nat.le_of_ble_eq_true rfl, Nat.le_of_ble_eq_true rfl⟩) hS (fun vr H3 locs3 hPo hS3 hsz => ?_)
  obtain ⟨rfl, g4, σ4, hmod, c49, hM4, hnew, hag, hG⟩ := hPo
  have hZ4 : ZZ g4 s := gx_stZ hmod.1.1 hmod.1.2.1 hmod.1.2.2 hZ3
  have hS : va_S (gA g4) s.heap H3 locs3 := by rw [gx_stA hmod.1.2.2]; exact hS3
  have hN4 : gN0 g4 = s.heap.size := (congrArg (fun z => z.1) hmod.1.2.2).trans hN3
  rw [← congrFun (hmod.2 8 (by decide)).1 0]
  rw [← congrFun (hmod.2 0 (by decide)).1 0] at hl
  refine lv_astore_n (lv' := [(2, .ref (gad g4 8 0)), (1, .ref (gad g4 0 0)), (0, .ref b)]) hx hb dL_law_15 rfl hl (by decide) rfl (fun ls hl => ?_)
  -- new long[1]
  have c410 : gcn g4 10 = 0 := by rw [(hmod.2 10 (by decide)).2.1, m3 10 (by decide)]; exact m2 10 (by decide) (by decide) (by decide) (by decide)
  refine lv_iconst (v := 1) hx hb dL_law_16 (by decide) ?_
  refine gx_newL hx hb (hts (.arrayClass .long) (by decide +kernel)) hZ4 hG hS 1 (by rw [c410]; decide) rfl (by decide) (Nat.le_of_ble_eq_true rfl) (Nat.le_of_ble_eq_true rfl) dL_law_17 (fun q5 H4 hG hS4 hsz => ?_)
  rw [c410] at hG
  obtain ⟨g5, hg5⟩ : ∃ z : gG, z = gAdd g4 10 q5 1 := ⟨_, rfl⟩
  rw [← hg5] at hG
  have hZ5 : ZZ g5 s := by rw [hg5]; exact gx_stZ rfl rfl rfl hZ4
  have hA5 : gA g5 = gA g4 := by rw [hg5]; exact gx_stA rfl
  have hS : va_S (gA g5) s.heap H4 locs3 := by rw [hA5]; exact hS4
  have a5 : gad g5 10 0 = q5 := by rw [hg5, gAdd_ad, if_pos ⟨rfl, c410.symm⟩]
  have b50 : gad g5 0 0 = gad g4 0 0 := by rw [hg5, gAdd_ad, if_neg (fun z => absurd z.1 (by decide))]
  have b58 : gad g5 8 0 = gad g4 8 0 := by rw [hg5, gAdd_ad, if_neg (fun z => absurd z.1 (by decide))]
  have m5 : ∀ k, k ≠ 10 → gcn g5 k = gcn g4 k := fun k hk => by rw [hg5, gAdd_cn, if_neg hk]
  have l5 : ∀ k, k ≠ 10 → gln g5 k = gln g4 k := fun k hk => by rw [hg5]; funext i; rw [gAdd_ln, if_neg (fun z => hk z.1)]
  have hN5 : gN0 g5 = s.heap.size := by rw [hg5]; exact hN4
  rw [← a5]
  rw [← b50, ← b58] at hl
  refine lv_astore_n (lv' := [(3, .ref (gad g5 10 0)), (2, .ref (gad g5 8 0)), (1, .ref (gad g5 0 0)), (0, .ref b)]) hx hb dL_law_19 rfl hl (by decide) rfl (fun ls hl => ?_)
  refine lv_iconst (v := 0) hx hb dL_law_20 (by decide) ?_
  refine lv_istore (lv' := [(4, .int 0), (3, .ref (gad g5 10 0)), (2, .ref (gad g5 8 0)), (1, .ref (gad g5 0 0)), (0, .ref b)]) hx hb dL_law_21 hl (by decide) rfl (fun ls hl => ?_)
  -- the loop
  have es : ∀ k i f, k < 8 → gFre σ4 10 0 k i f = σ2 k i f := fun k i f hk => by
    rw [gFre_o (Or.inl (by omega)), hag k i f (by omega) (by omega), gFre_o (Or.inl (by omega))]
  have em : ∀ k i f, k ≠ 10 → gFre σ4 10 0 k i f = σ4 k i f := fun k i f hk => gFre_o (Or.inl hk)
  have hX5 : Xok g5 (gFre σ4 10 0) := (hX2.cong es).wld (fun k hk => by rw [m5 k (by omega), (hmod.2 k (by omega)).2.1, m3 k (by omega)]) (fun k hk => by rw [l5 k (by omega), (hmod.2 k (by omega)).2.2, l3 k (by omega)])
  have hM5 : Mok g5 (gFre σ4 10 0) := (hM4.cong (fun i f => em 8 i f (by decide)) (fun i f => em 9 i f (by decide))).wld (m5 8 (by decide)) (m5 9 (by decide)) (l5 9 (by decide))
  have hI : LI g5 (gFre σ4 10 0) 0 := by
    refine LI.fresh hX5 hM5 ?_ ?_ (by rw [m5 9 (by decide)]; exact c49) ⟨by rw [hg5, gAdd_cn, if_pos rfl, c410], by rw [hg5, gAdd_ln, if_pos ⟨rfl, c410.symm⟩]⟩ (fun j hj => by rw [es 1 0 j (by decide)]; exact hway j hj) ?_ ?_
    · rw [m5 6 (by decide), (hmod.2 6 (by decide)).2.1, m3 6 (by decide)]; exact m2 6 (by decide) (by decide) (by decide) (by decide)
    · rw [m5 7 (by decide), (hmod.2 7 (by decide)).2.1, m3 7 (by decide)]; exact m2 7 (by decide) (by decide) (by decide) (by decide)
    · rw [es 0 0 3 (by decide), es 0 0 4 (by decide), es 0 0 5 (by decide), es 0 0 6 (by decide)]; exact ht2
    · obtain ⟨⟨n1, n3, n4, n5, n12, n15⟩, nw, n9, nz⟩ := hnew
      refine ⟨⟨?_, ?_, ?_, ?_, ?_, ?_⟩, fun j hj => ?_, fun j hj => ?_, fun i j h0 h4 h12 => ?_⟩
      · rw [em 8 0 1 (by decide)]; exact n1
      · rw [em 8 0 3 (by decide)]; exact n3
      · rw [em 8 0 4 (by decide)]; exact n4
      · rw [em 8 0 5 (by decide)]; exact n5
      · rw [em 8 0 12 (by decide)]; exact n12
      · rw [em 8 0 15 (by decide)]; exact n15
      · rw [em 9 0 j (by decide)]; exact nw j hj
      · rw [em 9 4 j (by decide)]; exact n9 j hj
      · rw [em 9 i j (by decide)]; exact nz i j h0 h4 h12
  exact law_loop l hl0 hL ⟨hx, hb, hml, hown, hts, hX, hbl⟩ hr hlocks L 0 0 rfl (by omega) g5 _ 0 H4 locs3 0 _ _ (Nat.zero_le _) (by decide) (Nat.le_of_ble_eq_true rfl) (Nat.le_of_ble_eq_true rfl) ⟨hZ5, hG, hS, hI, hN5⟩ ls (lv_sub hl [4, 3, 2, 1, 0] rfl)
