section ACTW
variable {p : Program} {e : Env} {s : State} {m : MethodId} {args : Array Value} {below : List Frame} {meth : Method} {c0 : Code} {H : Heap} {locs : List Loc} {Q : State → Prop} {ls : Array Slot} {g : gG} {σ σ1 τ : Mem} {w : Int64} {hs : Nat → Nat × Bool} {t B t1 B1 : Nat}
theorem gSm.eA {g g2 : gG} (h : gSm g g2) : gA g2 = gA g := by
  unfold gA gN0
  rw [h.1.2.2]
theorem gSm.zz {g g2 : gG} {U : State} (h : gSm g g2) (hZ : ZZ g U) : ZZ g2 U := gx_stZ h.1.1 h.1.2.1 h.1.2.2 hZ
set_option maxHeartbeats 2000000 in
theorem act_addCab (l : Launch) (hl0 : l.stackTraces = false) (C : AC p s m c0 args) (hZ : ZZ g s) (hG : GW g σ w H) (hS : va_S (gA g) s.heap H locs) (h : LI g hs t B σ) (hB : B + 1000 < 2 ^ 31) {x : Int32} (h8 : gcn g 16 < 8) (hl : lv_has ls 10 [(0, .ref (gad g 0 0)), (1, .ref (gad g 8 0)), (2, .int x)]) (kk : AE p l e s m args below meth c0 Q g hs t B σ w) :
    W p l e rmA s m args below meth c0 H locs 0 0 Q (F0 m 51 ls []) := by
  refine act_add1 l hl0 C hZ hG hS h.2.1 (by omega) hl (fun q9 H1 hG1 hS1 => ?_)
  obtain ⟨n, hn⟩ : ∃ n, gcn g 16 = n := ⟨_, rfl⟩
  have eC := h.2.2.1.cC h.2.1
  rw [hn] at hG1 ⊢
  obtain ⟨j, hj, ej⟩ := xBl_in (x >>> (4 &&& 31)) (n := 8) (by decide) (by decide)
  obtain ⟨z, hz, ez⟩ := xBl_in (x >>> (6 &&& 31)) (n := 4) (by decide) (by decide)
  obtain ⟨g1, hg1⟩ : ∃ y, y = gAdd g 16 q9 5 := ⟨_, rfl⟩
  rw [← hg1] at hG1
  have hsm : gSm g g1 := by rw [hg1]; exact gSm.add g 16 q9 5 (Or.inl rfl)
  have ead : gad g1 16 n = q9 := by rw [hg1, gAdd_ad, if_pos ⟨rfl, hn.symm⟩]
  have ead10 : gad g1 10 0 = gad g 10 0 := by rw [hg1, gAdd_ad, if_neg (fun q => absurd q.1 (by decide))]
  have ecn : gcn g1 16 = n + 1 := by rw [hg1, gAdd_cn, if_pos rfl, hn]
  have ecn6 : gcn g1 6 = n := by rw [hg1, gAdd_cn, if_neg (by decide), ← h.1.eC, eC, hn]
  have hX1 : Xok g1 (gFre σ 16 n) := by
    rw [hg1]
    exact (Xok.add8 (by decide) h.1).cong (fun k i f hk => gFre_o (by omega))
  have hR1 : Rw g1 (gFre σ 16 n) := by
    refine ⟨by rw [hg1]; exact h.2.1.1.add (Or.inl ⟨rfl, rfl, by omega⟩), fun f hf => ?_⟩
    rw [gFre_o (by omega)]
    exact h.2.1.rf hf
  have h2 := act_add2 (g := g1) (τ := gFre σ 16 n) (H := H1) (w := w) (locs := locs) (ls := ls) (p := p) (e := e) (s := s) (m := m) (args := args) (below := below) (meth := meth) (c0 := c0) (Q := Q) l hl0 C (hsm.zz hZ) hG1 (by rw [hsm.eA]; exact hS1) hR1 hX1 (x := x) (n := n) (j := j) (sv := 1 + j) (z := z) rfl (by omega) (by rw [gFre_o (by omega), h.2.1.nm, hn]) (by omega) ecn6 ej ez
    (addCabE (by omega) (by omega) hz (by
      have := (h.2.2.1).c10
      rw [nC_g (by decide), nC_g (by decide), nC_g (by decide), nC_g (by decide), nC_g (by decide), nC_g (by decide)]
      have e2 : nC (gFre σ 16 n) = nC σ := by unfold nC; rw [gFre_o (by omega)]
      omega))
    (by rw [hsm.2.1.1, hsm.2.1.2]; exact hl)
  rw [ead, ead10] at h2
  refine h2 (fun v H2 locs2 hP hS2 => ?_)
  obtain ⟨rfl, -, g2, σ2, hgro, c6, c7, hX2, hag, hG2⟩ := hP
  have hsm2 : gSm g g2 := hsm.tr (gSm.gro hgro)
  rw [hg1] at hgro
  have hL := h.addCab (by omega) hn (by omega) (show z < 6 by omega) hgro c6 hX2 hag
  have hR2 : Rw g2 σ2 := by
    refine ⟨hL.1.2.1.1, fun f hf => ?_⟩
    have := hL.1.2.1.rf hf
    rw [gst_nf (by omega)] at this
    exact this
  have e6 : σ2 8 0 6 = nI n := by
    rw [hag 8 0 6 (by decide) (by decide)]
    unfold xCabNew
    rw [xCabIni_o (Or.inl (by decide)), gFre_o (by omega)]
    show rCabRow σ n _ _ 8 0 6 = _
    rw [rCabRow_o (by omega) (by omega), h.2.1.nm, hn]
  show W p l e rmA s m args below meth c0 H2 locs2 3 24 Q (F0 m 125 ls [.int (nI n)])
  refine W.widen (k := 8) (n := 300) (by decide) (by decide) ?_
  refine act_add3 (g := g2) (τ := σ2) l hl0 C (hsm2.zz hZ) hG2 (by rw [hsm2.eA, ← hsm.eA]; exact hS2) hR2 e6 (by rw [hsm2.2.1.1, hsm2.2.1.2]; exact hl) (fun H3 locs3 ls3 hG3 hS3 => ?_)
  exact kk g2 _ t B _ _ ls3 145 dL_act_145 hsm2 hL.1 ⟨Nat.le_refl _, by omega, by omega⟩ (by rw [hL.2.2]; omega) hL.2.1 hG3 (by rw [← hsm2.eA]; exact hS3)
set_option maxHeartbeats 2000000 in
theorem act_order (l : Launch) (hl0 : l.stackTraces = false) (C : AC p s m c0 args) (hZ : ZZ g s) (hG : GW g σ w H) (hS : va_S (gA g) s.heap H locs) (h : LI g hs t B σ) (hB : B + 1000 < 2 ^ 31) (ht : t + 100 ≤ 9000) {x : Int32} (h60 : gcn g 17 < 60) (hl : lv_has ls 10 [(0, .ref (gad g 0 0)), (1, .ref (gad g 8 0)), (2, .int x)]) (kk : AE p l e s m args below meth c0 Q g hs t B σ w) :
    W p l e rmA s m args below meth c0 H locs 0 0 Q (F0 m 160 ls []) := by
  obtain ⟨d9, hd9, ed9⟩ := xBl_in (x >>> (5 &&& 31)) (n := 40) (by decide) (by decide)
  refine act_ord1 l hl0 C hZ hG hS h.2.1 h.2.2.1.rnow h60 ed9 hd9 hl (fun d hd1 hd2 q9 H1 ls hG1 hS1 hl => ?_)
  obtain ⟨n, hn⟩ : ∃ n, gcn g 17 = n := ⟨_, rfl⟩
  have eO := h.2.2.1.cO h.2.1
  rw [hn] at hG1 ⊢
  obtain ⟨a, ha, ea⟩ := xBl_in (x >>> (4 &&& 31)) (n := 4) (by decide) (by decide)
  obtain ⟨b, hb, eb⟩ := xBl_in (x >>> (6 &&& 31)) (n := 4) (by decide) (by decide)
  obtain ⟨i, hi, ei⟩ := xBl_in (x >>> (8 &&& 31)) (n := 5) (by decide) (by decide)
  obtain ⟨g1, hg1⟩ : ∃ y, y = gAdd g 17 q9 10 := ⟨_, rfl⟩
  rw [← hg1] at hG1
  have hsm : gSm g g1 := by rw [hg1]; exact gSm.add g 17 q9 10 (Or.inr rfl)
  have ead : gad g1 17 n = q9 := by rw [hg1, gAdd_ad, if_pos ⟨rfl, hn.symm⟩]
  have ead11 : gad g1 11 0 = gad g 11 0 := by rw [hg1, gAdd_ad, if_neg (fun q => absurd q.1 (by decide))]
  have ecn : gcn g1 17 = n + 1 := by rw [hg1, gAdd_cn, if_pos rfl, hn]
  have ecn7 : gcn g1 7 = n := by rw [hg1, gAdd_cn, if_neg (by decide), ← h.1.eO, eO, hn]
  have hX1 : Xok g1 (gFre σ 17 n) := by
    rw [hg1]
    exact (Xok.add8 (by decide) h.1).cong (fun k i f hk => gFre_o (by omega))
  have hR1 : Rw g1 (gFre σ 17 n) := by
    refine ⟨by rw [hg1]; exact h.2.1.1.add (Or.inr ⟨rfl, rfl, by omega⟩), fun f hf => ?_⟩
    rw [gFre_o (by omega)]
    exact h.2.1.rf hf
  have hE0 : xOrderE (rOrdRow σ n (nI a) (nI b) (nI (1 + i)) (nI d)) (nI a) (nI b) (nI (1 + i)) (nI d) = 0 := by
    refine orderE (t := t) ha hb (by omega) (by omega) ?_ hd1 (by omega) ?_
    · rw [rOrdRow_o (by omega) (by omega)]; exact h.2.2.1.now
    · unfold nO
      rw [rOrdRow_o (by omega) (by omega)]
      show nO σ < 60
      omega
  have h2 := act_ord2 (g := g1) (τ := gFre σ 17 n) (H := H1) (w := w) (locs := locs) (ls := ls) (p := p) (e := e) (s := s) (m := m) (args := args) (below := below) (meth := meth) (c0 := c0) (Q := Q) l hl0 C (hsm.zz hZ) hG1 (by rw [hsm.eA]; exact hS1) hR1 hX1 (x := x) (n := n) (a := a) (b := b) (i := i) (d := d) (by omega) (by rw [gFre_o (by omega), h.2.1.na, hn]) (by omega) ecn7 ea eb ei hE0
    (by rw [hsm.2.1.1, hsm.2.1.2]; exact hl)
  rw [ead, ead11] at h2
  refine h2 (fun v H2 locs2 hP hS2 => ?_)
  obtain ⟨rfl, -, g2, σ2, hgro, c6, c7, hX2, hag, hG2⟩ := hP
  have hsm2 : gSm g g2 := hsm.tr (gSm.gro hgro)
  have c6' : gcn g2 6 = gcn g 6 := by rw [c6, hg1, gAdd_cn, if_neg (by decide)]
  rw [hg1] at hgro
  obtain ⟨N, hN, hE, hQ, ha2, hR3, hL, h20, hO⟩ := h.addOrd (by omega) hn (by omega) (show a < 6 by omega) (show b < 6 by omega) (show d ≤ 9999 by omega) hgro c6' c7 hX2 hag
  have hR2 : Rw g2 (xMo σ2) := by
    refine ⟨hR3.1, fun f hf => ?_⟩
    have := hR3.rf hf
    rw [gst_nf (by omega)] at this
    exact this
  have e7 : xMo σ2 8 0 7 = nI n := by
    rw [un8 (Un.mo (Un.rf σ2)) 8 0 7 (by decide), hag 8 0 7 (by decide) (by decide)]
    unfold xOrdNew
    rw [xOrdIni_o (Or.inl (by decide)), gFre_o (by omega)]
    show rOrdRow σ n _ _ _ _ 8 0 7 = _
    rw [rOrdRow_o (by omega) (by omega), h.2.1.na, hn]
  show W p l e rmA s m args below meth c0 H2 locs2 6 250 Q (F0 m 308 ls [.int (nI n)])
  refine W.widen (k := 8) (n := 300) (by decide) (by decide) ?_
  refine act_ord3 (g := g2) (τ := xMo σ2) l hl0 C (hsm2.zz hZ) hG2 (by rw [hsm2.eA, ← hsm.eA]; exact hS2) hR2 e7 hN hE hQ ha2 hR3 (x := x) (by rw [hsm2.2.1.1, hsm2.2.1.2]; exact lv_sub hl [0, 1, 2] rfl) (fun H3 locs3 ls3 hG3 hS3 => ?_)
  exact kk g2 _ t B _ _ ls3 332 dL_act_332 hsm2 hL ⟨Nat.le_refl _, by omega, by omega⟩ hO h20 hG3 (by rw [← hsm2.eA]; exact hS3)
set_option maxHeartbeats 2000000 in
theorem act_way (l : Launch) (hl0 : l.stackTraces = false) (C : AC p s m c0 args) (hZ : ZZ g s) (hG : GW g σ w H) (hS : va_S (gA g) s.heap H locs) (h : LI g hs t B σ) (hB : B + 1000 < 2 ^ 31) {x : Int32} (hl : lv_has ls 10 [(0, .ref (gad g 0 0)), (1, .ref (gad g 8 0)), (2, .int x)]) (kk : AE p l e s m args below meth c0 Q g hs t B σ w) :
    W p l e rmA s m args below meth c0 H locs 0 0 Q (F0 m 338 ls []) := by
  obtain ⟨a, ha, ea⟩ := xBl_in (x >>> (4 &&& 31)) (n := 4) (by decide) (by decide)
  obtain ⟨j, hj, ej⟩ := xBl_in (x >>> (6 &&& 31)) (n := 3) (by decide) (by decide)
  obtain ⟨i, hi, ei⟩ := xBl_in (x >>> (3 &&& 31)) (n := 30) (by decide) (by decide)
  have eb : nI (a + 1 + j) - nI (a + 1 + j) / 4 * 4 = nI ((a + 1 + j) % 4) := pk_rem (d := 4) (by omega) (by decide) (by decide)
  obtain ⟨q1, q2, q3, q4, q5, q6, q7, q8⟩ := h.setWay (by omega) ha (b := (a + 1 + j) % 4) (by omega) (by omega) (n := 1 + i) (by omega) (by omega)
  exact act_setWay l hl0 C hZ hG hS h.1 ha (by omega) ea ej eb ei rfl q1 q3 (q4.trans (q5 15 a _ (by decide)).symm) q6 q7 q8 hl kk
set_option maxHeartbeats 4000000 in
theorem act_calls (l : Launch) (hl0 : l.stackTraces = false) (C : AC p s m c0 args) (hZ : ZZ g s) (hG : GW g σ w H) (hS : va_S (gA g) s.heap H locs) (h : LI g hs t B σ) (hB : B + 1000 < 2 ^ 31) (ht : t + 100 ≤ 9000) {x : Int32} {q c : Nat} {off : Bool} (hcg : c < gcn g 16) (hq16 : q < 16) (hoff : off = true ↔ (σ 16 c 2 = 1 ∧ 0 ≤ σ 16 c 3))
    (hl : lv_has ls 10 [(0, .ref (gad g 0 0)), (1, .ref (gad g 8 0)), (2, .int x), (3, .int (nI q)), (4, .int (nI c)), (5, .int (-3)), (6, .int (bI off)), (7, .int (-3))]) (kk : AE p l e s m args below meth c0 Q g hs t B σ w) :
    W p l e rmA s m args below meth c0 H locs 0 0 Q (F0 m 467 ls []) := by
  have hX := h.1
  have hR := h.2.1
  have eC := h.2.2.1.cC hR
  have eO := h.2.2.1.cO hR
  have h60 := hR.o60
  have hc : c < nC σ := by omega
  obtain ⟨z, hz, ez⟩ := h.zone hc
  have hT := AO.thr h (by omega)
  refine act_disp2 l hl0 C hZ hG hS hR hcg hq16 hl (fun hq hbr => ?_) (fun hq hn0 hbl => ?_) (fun hq8 hq11 => ?_) (fun hq => ?_) (fun hq => ?_) (fun hq => ?_)
  · by_cases h0 : σ 16 c 2 = 0
    · obtain ⟨q1, q2, q3, q4, q5, q6, q7⟩ := h.start (by omega) hc hz ez h0
      exact act_start_ok l hl0 C hZ hG hS (by omega) hX hcg hq rfl q1 q4 hz ((q2 16 c 2 (by decide)).trans h0) ((q2 16 c 1 (by decide)).trans ez) q5.1 q5.2 q6 q7 hl kk
    · exact act_start_thr l hl0 C hZ hG hS (by omega) hX hcg hq (h.startN hc h0) hR h0 (hbr.resolve_left h0) hT hl kk
  · by_cases h1 : σ 16 c 2 = 1
    · obtain ⟨q1, q2, q3, q4, q5, q6, q7, q8⟩ := h.stop (by omega) hc hz ez h1
      refine act_stop_ok l hl0 C hZ hG hS (by omega) hX hcg hq rfl q1 q4 hz ((q2 16 c 2 (by decide)).trans h1) ((q2 16 c 1 (by decide)).trans ez) q5.1 q5.2.1 q5.2.2 hbl (fun ho => ?_) (fun ho => q6 (hoff.mp ho).2) (fun ho => q7 (fun y => ?_)) q8 hl kk
      · obtain ⟨o, a, ho2, eo, -⟩ := h.offered hc h1 (hoff.mp ho).2
        exact ⟨o, by omega, (q2 16 c 3 (by decide)).trans eo⟩
      · rw [hoff.mpr ⟨h1, y⟩] at ho
        cases ho
    · exact act_stop_thr l hl0 C hZ hG hS (by omega) hX hcg hq (h.stopN hc h1) hR hn0 h1 hbl hT hl kk
  · cases ho : off with
    | true =>
      rw [ho] at hl
      obtain ⟨h1, h3⟩ := hoff.mp ho
      obtain ⟨o, a, ho2, eo, ha, ea, -⟩ := h.offered hc h1 h3
      obtain ⟨q1, q2, q3, q4, q5, q6, q7⟩ := h.accept (by omega) hc hz ez h1 ho2 eo ha ea
      exact act_accept_ok l hl0 C hZ hG hS (by omega) hX hcg hq8 hq11 rfl q1 q4 hz ((q2 16 c 1 (by decide)).trans ez) (show o < gcn g 17 by omega) ((q2 16 c 3 (by decide)).trans eo) ha ((q2 17 o 0 (by decide)).trans ea) q5.1 q5.2.1 q5.2.2 rfl q6 (q7.trans (q2 15 z a (by decide)).symm) hl kk
    | false =>
      rw [ho] at hl
      have hn : ¬ (σ 16 c 2 = 1 ∧ 0 ≤ σ 16 c 3) := fun y => by rw [hoff.mpr y] at ho; cases ho
      exact act_accept_thr l hl0 C hZ hG hS (by omega) hX hcg hq8 hq11 (h.acceptN hc hn) hR rfl hT hl kk
  · cases ho : off with
    | true =>
      rw [ho] at hl
      obtain ⟨h1, h3⟩ := hoff.mp ho
      obtain ⟨o, a, ho2, eo, -⟩ := h.offered hc h1 h3
      obtain ⟨q1, q2, q3, q4, q5, q6, q7⟩ := h.refuse (by omega) hc hz ez h1 ho2 eo
      exact act_refuse_ok l hl0 C hZ hG hS (by omega) hX hcg hq rfl q1 q4 hz ((q2 16 c 1 (by decide)).trans ez) (show o < gcn g 17 by omega) ((q2 16 c 3 (by decide)).trans eo) q5.1 q5.2.1 q5.2.2 rfl q6 q7 hl kk
    | false =>
      rw [ho] at hl
      have hn : ¬ (σ 16 c 2 = 1 ∧ 0 ≤ σ 16 c 3) := fun y => by rw [hoff.mpr y] at ho; cases ho
      exact act_refuse_thr l hl0 C hZ hG hS (by omega) hX hcg hq (h.acceptN hc hn) hR rfl hT hl kk
  · rcases Nat.eq_zero_or_pos (gcn g 17) with h0 | h0
    · exact act_cancel_none l hl0 C hZ hG hS (by omega) hX hcg hq h0 hR hT hl kk
    · obtain ⟨o, ho, eo⟩ := xBl_in (x >>> (3 &&& 31)) (n := gcn g 17) h0 (by omega)
      by_cases h3 : σ 17 o 4 < 3
      · obtain ⟨q1, q2, q3, q4, q5, q6, q7⟩ := h.cancel (by omega) (show o < nO σ by omega) h3
        refine act_cancel_ok l hl0 C hZ hG hS (by omega) hX hcg hq h0 h60 ho eo rfl q1 hR q4 ?_ q5.1 q5.2 q6 (q7.trans (q2 17 o 4 (by decide)).symm) hl kk
        rw [q2 17 o 4 (by decide)]
        exact fun y => Int32.lt_irrefl (Int32.lt_of_lt_of_le h3 y)
      · exact act_cancel_thr l hl0 C hZ hG hS (by omega) hX hcg hq h0 h60 ho eo (h.cancelN (show o < nO σ by omega) h3) hR (by rcases Int32.lt_or_le (σ 17 o 4) 3 with y | y; exact absurd y h3; exact y) hT hl kk
  · obtain ⟨k, hk, ek⟩ := xBl_in (x >>> (3 &&& 31)) (n := 12) (by decide) (by decide)
    obtain ⟨q1, q2, q3, q4⟩ := h.tick (n := 1 + k) (by omega) (by omega) (by omega)
    refine act_tick_ok l hl0 C hZ hG hS (B1 := B) (B := B) (by omega) hX hcg hq hq16 ek rfl q1 (hR.c8 q2) q4 hl (fun H locs ls hG hS hl => ?_)
    refine act_loop l hl0 C hZ (n := 1 + k) (by omega) h hB (by omega) q3 q2 (Int32.add_comm _ _) kk (1 + k) 0 _ (by omega) (h.tick0 q2) H locs ls hG hS ?_
    rw [show (6000 : Int32) + (xTk σ 0).1 = 6000 from Int32.add_zero _]
    exact hl
theorem act_walk (l : Launch) (hl0 : l.stackTraces = false) (C : AC p s m c0 args) (hZ : ZZ g s) (hG : GW g σ w H) (hS : va_S (gA g) s.heap H locs) (h : LI g hs t B σ) (hB : B + 1000 < 2 ^ 31) (ht : t + 100 ≤ 9000) (hO : nO σ < 60) {x : Int32}
    (hl : lv_has ls 10 [(0, .ref (gad g 0 0)), (1, .ref (gad g 8 0)), (2, .int x)]) (kk : AE p l e s m args below meth c0 Q g hs t B σ w) :
    W p l e rmA s m args below meth c0 H locs 0 0 Q (F0 m 0 ls []) := by
  have eO := h.2.2.1.cO h.2.1
  obtain ⟨q, hq, eq⟩ := xBl_in x (n := 16) (by decide) (by decide)
  refine act_pre l hl0 C hZ hG hS h.2.1 eq hl (fun h8 ls hl => ?_) (fun c hc ls hl => ?_)
  · exact act_addCab l hl0 C hZ hG hS h hB h8 hl kk
  · refine act_disp l hl0 C hZ hG hS h.2.1 hc (by omega) hq hl (fun ls hl => ?_) (fun ls hl => ?_) (fun off hoff h6 ls hl => ?_)
    · exact act_order l hl0 C hZ hG hS h hB ht (by omega) hl kk
    · exact act_way l hl0 C hZ hG hS h hB hl kk
    · exact act_calls l hl0 C hZ hG hS h hB ht hc hq hoff hl kk
def PoAct (g : gG) (hs : Nat → Nat × Bool) (t B : Nat) (σ : Mem) (w : Int64) (v : Option Value) (H : Heap) : Prop := v = some (.int 1) ∧ ∃ (g' : gG) (σ' : Mem) (t' B' : Nat), gSm g g' ∧ LI g' hs t' B' σ' ∧ (t ≤ t' ∧ t' ≤ t + 12 ∧ B' ≤ B + 300) ∧ nO σ' ≤ nO σ + 1 ∧ (∀ k i f, 20 < k → σ' k i f = σ k i f) ∧ GW g' σ' w H
theorem c_L_act (l : Launch) (hl0 : l.stackTraces = false) (g : gG) (σ : Mem) (w : Int64) (x : Int32) (hs : Nat → Nat × Bool) (t B : Nat) (h : LI g hs t B σ) (hB : B + 1000 < 2 ^ 31) (ht : t + 100 ≤ 9000) (hO : nO σ < 60) :
    vx_Met l yL_act wsL_act rmA (gPc g σ w [.ref (gad g 0 0), .ref (gad g 8 0), .int x]) (gE g (PoAct g hs t B σ w)) (fun _ _ _ => False) 8 300 (gA g) := by
  refine gx_ofWH (cc := cL_act) (maxL := 10) (ret := (some .boolean)) (hh := [(467, 627, 630, 72)]) (by decide) rfl (Nat.le_of_ble_eq_true rfl) ?_
  intro p e s m below meth c0 hx hb hr hml hts hown hlocks hbt hG hZ hS ls hl
  have hl : lv_has ls 10 [(0, .ref (gad g 0 0)), (1, .ref (gad g 8 0)), (2, .int x)] := hl
  refine act_walk l hl0 ⟨hx, hb, hml, hown, hts, hbt⟩ hZ hG hS h hB ht hO hl ?_
  intro g' σ' t' B' H' locs' ls' pc hd hgs hL ht' hO' h20 hG' hS'
  exact vx_ret (gx_zretE hx hb hr hlocks hS' rfl ⟨rfl, g', σ', t', B', hgs, hL, ht', hO', h20, hG'⟩ (Nat.le_refl _) (Nat.le_refl _) hd)
end ACTW
