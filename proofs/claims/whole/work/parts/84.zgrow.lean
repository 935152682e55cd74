/-- the same run's world, grown -/
def gSame (g g' : gG) : Prop := (g'.1 = g.1 ∧ g'.2.1 = g.2.1 ∧ g'.2.2.1 = g.2.2.1) ∧ gad g' 0 0 = gad g 0 0 ∧ gad g' 8 0 = gad g 8 0 ∧ gad g' 10 0 = gad g 10 0
theorem gSame.rf (g : gG) : gSame g g := ⟨⟨rfl, rfl, rfl⟩, rfl, rfl, rfl⟩
theorem gSame.tr {g g' g2 : gG} (h : gSame g g') (h2 : gSame g' g2) : gSame g g2 :=
  ⟨⟨h2.1.1.trans h.1.1, h2.1.2.1.trans h.1.2.1, h2.1.2.2.trans h.1.2.2⟩, h2.2.1.trans h.2.1, h2.2.2.1.trans h.2.2.1, h2.2.2.2.trans h.2.2.2⟩
theorem gSame.gro {g g' : gG} (h : gGro g g') : gSame g g' :=
  ⟨h.1, congrFun (h.2 0 (by decide) (by decide) (by decide) (by decide)).1 0, congrFun (h.2 8 (by decide) (by decide) (by decide) (by decide)).1 0, congrFun (h.2 10 (by decide) (by decide) (by decide) (by decide)).1 0⟩
theorem gSame.add9 (g : gG) (q n : Nat) : gSame g (gAdd g 9 q n) :=
  ⟨⟨rfl, rfl, rfl⟩, by rw [gAdd_ad, if_neg (fun z => absurd z.1 (by decide))], by rw [gAdd_ad, if_neg (fun z => absurd z.1 (by decide))], by rw [gAdd_ad, if_neg (fun z => absurd z.1 (by decide))]⟩
theorem Mok.gro {g g' : gG} {σ : Mem} (hg : gGro g g') (h : Mok g σ) : Mok g' σ := by
  obtain ⟨⟨a1, a2, a3, a4, a5, a6, a7⟩, h2, h3, h4, h5, h6⟩ := h
  obtain ⟨-, c8, -⟩ := hg.2 8 (by decide) (by decide) (by decide) (by decide)
  obtain ⟨-, c9, l9⟩ := hg.2 9 (by decide) (by decide) (by decide) (by decide)
  refine ⟨⟨?_, ?_, ?_, fun i h1 h8 => ?_, ?_, ?_, ?_⟩, h2, h3, h4, ?_, h6⟩
  · rw [c8]; exact a1
  · rw [c9]; exact a2
  · rw [l9]; exact a3
  · rw [l9]; exact a4 i h1 h8
  · rw [l9]; exact a5
  · rw [l9]; exact a6
  · rw [l9]; exact a7
  · rw [c9]; exact h5
theorem Mf.gro {g g' : gG} {σ : Mem} (hg : gGro g g') (h : Mf g σ) : Mf g' σ := ⟨h.1.gro hg, h.2⟩
theorem Mok.incC {g : gG} {σ : Mem} {n : Nat} (h : Mok g σ) (hn : n ≤ 10) : Mok g (gst σ 8 0 5 (nI n)) := by
  obtain ⟨h1, h2, h3, h4, h5, h6, h7⟩ := h
  have e : ∀ f', f' ≠ 5 → gst σ 8 0 5 (nI n) 8 0 f' = σ 8 0 f' := fun f' h' => gst_nf h'
  have eC : mC (gst σ 8 0 5 (nI n)) = n := by unfold mC; rw [gst_eq, ix_nI (by omega)]
  have eO : mO (gst σ 8 0 5 (nI n)) = mO σ := by unfold mO; rw [e 15 (by decide)]
  refine ⟨h1, fun f' i hr => ?_, ?_, ?_, h5, fun c hc => ?_, fun o ho => ?_⟩
  · rw [e f' (by rintro rfl; cases hr)]; exact h2 f' i hr
  · rw [eC, gst_eq]; exact ⟨rfl, hn⟩
  · rw [eO, e 15 (by decide)]; exact h4
  · rw [gst_nk (by decide)]; exact h6 c hc
  · rw [gst_nk (by decide), gst_nk (by decide)]; exact h7 o ho
theorem Xok.add9 {g : gG} {σ : Mem} {q n : Nat} (h : Xok g σ) : Xok (gAdd g 9 q n) σ := by
  have c : ∀ k, k ≠ 9 → gcn (gAdd g 9 q n) k = gcn g k := fun k hk => by rw [gAdd_cn, if_neg hk]
  have l : ∀ k i, k ≠ 9 → gln (gAdd g 9 q n) k i = gln g k i := fun k i hk => by rw [gAdd_ln, if_neg (fun z => hk z.1)]
  obtain ⟨⟨⟨a0, a1, a2, a3⟩, a4, a5, a6⟩, b1, b2, b3, b4, b5, b6, b7, b8⟩ := h
  refine ⟨⟨⟨?_, ?_, ?_, ?_⟩, ?_, ?_, ?_⟩, b1, ?_, ?_, ?_, ?_, ?_, ?_, ?_⟩
  · rw [c 0 (by decide)]; exact a0
  · rw [c 1 (by decide)]; exact a1
  · rw [c 2 (by decide)]; exact a2
  · rw [c 3 (by decide)]; exact a3
  · rw [l 1 0 (by decide)]; exact a4
  · rw [c 6 (by decide)]; exact a5
  · rw [c 7 (by decide)]; exact a6
  · rw [c 6 (by decide), c 7 (by decide)]; exact b2
  · rw [c 6 (by decide), c 4 (by decide), l 4 0 (by decide)]; exact b3
  · rw [c 7 (by decide), c 5 (by decide), l 5 0 (by decide)]; exact b4
  · rw [c 6 (by decide)]; exact b5
  · rw [c 7 (by decide)]; exact b6
  · rw [c 6 (by decide)]; exact b7
  · rw [c 7 (by decide)]; exact b8
section ZGROW
variable {g : gG} {σ : Mem} {B : Nat} {w : Int64} {v : Option Value} {H : Heap}
theorem z_addCab (h : LI g σ B) (hB : B + 6010 < 2 ^ 31) (a b : Int32) (hD : (¬ xAddCabE σ a b = 0 ∧ v = some (.int (xAddCabE σ a b)) ∧ GW g σ w H) ∨ (xAddCabE σ a b = 0 ∧ v = some (.int 0) ∧ (∃ (g2 : gG) (σ2 : Mem), gGro g g2 ∧ gcn g2 6 = gcn g 6 + 1 ∧ gcn g2 7 = gcn g 7 ∧ Xok g2 σ2 ∧ (∀ k i f, k ≠ 2 → k ≠ 4 → σ2 k i f = xCabNew σ (gcn g 6) a b k i f) ∧ GW g2 σ2 (nI (gcn g 6)).toInt64 H))) :
    ∃ g', gSame g g' ∧ ZC g' (B + 6010) (fun μ => mAddCab μ a b) v H := by
  obtain ⟨q1, q2, q3⟩ := h.pre (σ1 := σ) (fun _ _ _ _ => rfl)
  rcases hD with ⟨r1, r2, r3⟩ | ⟨r1, r2, g2, σ2, hgro, c6, c7, hX2, hag, r3⟩
  · refine ⟨g, gSame.rf g, _, σ, w, r2, r3, h.2.1, h.hca (fun _ _ _ _ => rfl), ?_, fun z => absurd z r1, ?_⟩
    · show (mAddCab (gst σ 8 0 0 0) a b).2 8 0 0 = _
      rw [(q1.s_addCab q2 a b).2 r1]
      exact gst_eq _ _ _ _ _
    · show LI g (mAddCab (gst σ 8 0 0 0) a b).2 (B + 6010)
      rw [(q1.s_addCab q2 a b).2 r1]
      exact h.thr (by omega)
  · have e8 : ∀ k i f, 8 ≤ k → σ2 k i f = σ k i f := fun k i f hk => by rw [hag k i f (by omega) (by omega), xCabNew, xCabIni_o (Or.inl (by omega)), gFre_o (Or.inl (by omega))]
    obtain ⟨p1, p2, p3⟩ := h.pre e8
    obtain ⟨o1, o2, o3⟩ := (p1.s_addCab p2 a b).1 r1
    have eC := h.1.eC
    rw [← eC] at hag c6 r3
    have hF2 : Mf g2 σ2 := (h.2.1.cong (fun i f => e8 8 i f (by decide)) (fun i f => e8 9 i f (by decide))).gro hgro
    have hc9 : gcn g2 9 = gcn g 9 := (hgro.2 9 (by decide) (by decide) (by decide) (by decide)).2.1
    obtain ⟨-, c10, l10⟩ := hgro.2 10 (by decide) (by decide) (by decide) (by decide)
    have hr := p1.addC (n := nC σ) rfl o1 o2 (by rw [hX2.eC, c6]) hag
    have hu : Um (gst σ2 8 0 0 0) (gst (gst (gst (gst σ2 8 0 0 0) 9 1 (nC σ) a) 9 2 (nC σ) b) 8 0 5 (nI (nC σ + 1))) := (Um.rf _).g9.g9.g8
    have e : ∀ k i f, k < 8 → (gst (gst (gst (gst σ2 8 0 0 0) 9 1 (nC σ) a) 9 2 (nC σ) b) 8 0 5 (nI (nC σ + 1))) k i f = σ2 k i f := fun k i f hk => (hu k i f (by omega) (by omega)).trans (gst_nk (by omega))
    refine ⟨g2, gSame.gro hgro, 0, σ2, _, r2, r3, hF2, h.hca e8, ?_, fun _ => ?_, ?_⟩
    · show (mAddCab (gst σ2 8 0 0 0) a b).2 8 0 0 = 0
      rw [o3]
      show gst (gst (gst (gst σ2 8 0 0 0) 9 1 (nC σ) a) 9 2 (nC σ) b) 8 0 5 (nI (nC σ + 1)) 8 0 0 = 0
      rw [gst_nf (by decide), gst_nk (by decide), gst_nk (by decide), gst_eq]
    · show _ = (mAddCab (gst σ2 8 0 0 0) a b).1.toInt64
      rw [o3]
    · show LI g2 (mAddCab (gst σ2 8 0 0 0) a b).2 (B + 6010)
      rw [o3]
      show LI g2 (gst (gst (gst (gst σ2 8 0 0 0) 9 1 (nC σ) a) 9 2 (nC σ) b) 8 0 5 (nI (nC σ + 1))) (B + 6010)
      refine ⟨hX2.cong e, ?_, ?_, ⟨by rw [c10]; exact h.2.2.2.1.1, by rw [l10]; exact h.2.2.2.1.2⟩, ?_⟩
      · exact (hF2.thr (v := 0)).of ((((hF2.thr (v := 0)).1.st9 (by decide)).stZ o2).incC (by omega)) (fun c _ => Or.inl ⟨by simp [gst_app], Or.inl (by simp [gst_app])⟩)
      · exact (hr.congr (fun f => e 0 0 f (by decide)) (fun j => e 1 0 j (by decide)) (e 2 0 2 (by decide)) (e 3 0 2 (by decide)) (fun i f => e 6 i f (by decide)) (fun i f => e 7 i f (by decide)) (fun _ _ => rfl) (fun _ _ _ => rfl)).mono (by omega)
      · have eO : nO (gst (gst (gst (gst σ2 8 0 0 0) 9 1 (nC σ) a) 9 2 (nC σ) b) 8 0 5 (nI (nC σ + 1))) = nO σ := by
          have k1 : nO σ2 = nO σ := by rw [hX2.eO, c7, h.1.eO]
          rw [← k1]
          unfold nO
          rw [e 3 0 2 (by decide)]
        rw [eO, hc9]
        exact h.2.2.2.2
/-- what the model's order leaves -/
def ZPo (g2 : gG) (σ3 : Mem) (w : Int64) (a b c d : Int32) (v : Option Value) (H : Heap) : Prop := (¬ mOrdE (gst σ3 8 0 0 0) a b c d = 0 ∧ v = some (.int 0) ∧ GW g2 (gst (gst σ3 8 0 0 0) 8 0 0 (mOrdE (gst σ3 8 0 0 0) a b c d)) w H) ∨ (mOrdE (gst σ3 8 0 0 0) a b c d = 0 ∧ v = some (.int (nI (mO (gst σ3 8 0 0 0)))) ∧ ∃ (q : Nat) (g3 : gG) (σ4 : Mem), g3 = gAdd g2 9 q 8 ∧ Mok g3 σ4 ∧ (∀ k i f, k ≠ 9 ∨ i < 12 → σ4 k i f = mOrdNew (gst σ3 8 0 0 0) (mO (gst σ3 8 0 0 0)) a b c d k i f) ∧ GW g3 (mOA σ4) w H)
theorem z_order (h : LI g σ B) (hB : B + 6010 < 2 ^ 31) (a b c d : Int32) (hD : (¬ xOrderE σ a b c d = 0 ∧ v = some (.int (xOrderE σ a b c d)) ∧ GW g σ w H) ∨ (xOrderE σ a b c d = 0 ∧ v = some (.int 0) ∧ (∃ (g2 : gG) (σ2 : Mem), gGro g g2 ∧ gcn g2 6 = gcn g 6 ∧ gcn g2 7 = gcn g 7 + 1 ∧ Xok g2 σ2 ∧ (∀ k i f, k ≠ 3 → k ≠ 5 → σ2 k i f = xOrdNew σ (gcn g 7) a b c d k i f) ∧ GW g2 (xMo σ2) (nI (gcn g 7)).toInt64 H))) :
    ∃ (g2 : gG) (kv : Int32) (σ3 : Mem) (w1 : Int64), gSame g g2 ∧ v = some (.int kv) ∧ GW g2 σ3 w1 H ∧ Mf g2 σ3 ∧ gcn g2 9 < 100 ∧ (∀ v2 H2, ZPo g2 σ3 w1 a b c d v2 H2 → ∃ (g3 : gG) (bv : Int32) (μ' : Mem), gSame g2 g3 ∧ v2 = some (.int bv) ∧ GW g3 μ' w1 H2 ∧ μ' 8 0 0 = kv ∧ (kv = 0 → w1 = bv.toInt64) ∧ LI g3 μ' (B + 6010)) := by
  have h60 := h.2.2.1.o60
  have h9 := h.2.2.2.2
  obtain ⟨q1, q2, q3⟩ := h.pre (σ1 := σ) (fun _ _ _ _ => rfl)
  rcases hD with ⟨r1, r2, r3⟩ | ⟨r1, r2, g2, σ2, hgro, c6, c7, hX2, hag, r3⟩
  · refine ⟨g, _, σ, w, gSame.rf g, r2, r3, h.2.1, by omega, fun v2 H2 hP => ?_⟩
    have eE := (q1.s_order q2.1 a b c d).1
    rcases hP with ⟨s1, s2, s3⟩ | ⟨s1, -⟩
    · refine ⟨g, 0, _, gSame.rf g, s2, s3, ?_, fun z => absurd z r1, h.thr (by omega)⟩
      rw [gst_eq]
      exact eE
    · rw [eE] at s1
      exact absurd s1 r1
  · have e82 : ∀ k i f, 8 ≤ k → σ2 k i f = σ k i f := fun k i f hk => by rw [hag k i f (by omega) (by omega), xOrdNew, xOrdIni_o (Or.inl (by omega)), gFre_o (Or.inl (by omega))]
    have hun : Un σ2 (xMo σ2) := Un.mo (Un.rf σ2)
    have e8 : ∀ k i f, 8 ≤ k → xMo σ2 k i f = σ k i f := fun k i f hk => (hun k i f (by omega) (by omega) (fun z => by omega)).trans (e82 k i f hk)
    obtain ⟨p1, p2, p3⟩ := h.pre e8
    have eO := h.1.eO
    have hmO : mO (gst (xMo σ2) 8 0 0 0) = nO σ := p1.eo.symm
    rw [← eO] at hag c7 r3
    have hF2 : Mf g2 (xMo σ2) := (h.2.1.cong (fun i f => e8 8 i f (by decide)) (fun i f => e8 9 i f (by decide))).gro hgro
    have hc9 : gcn g2 9 = gcn g 9 := (hgro.2 9 (by decide) (by decide) (by decide) (by decide)).2.1
    obtain ⟨-, c10, l10⟩ := hgro.2 10 (by decide) (by decide) (by decide) (by decide)
    refine ⟨g2, 0, xMo σ2, _, gSame.gro hgro, r2, r3, hF2, by omega, fun v2 H2 hP => ?_⟩
    have eE := (p1.s_order p2.1 a b c d).1
    obtain ⟨o1, o2, o3⟩ := (p1.s_order p2.1 a b c d).2 r1
    rcases hP with ⟨s1, -⟩ | ⟨s1, s2, q, g3, σ4, rfl, hM4, hmg, s3⟩
    · rw [eE] at s1
      exact absurd r1 s1
    · rw [hmO] at s2 hmg
      have m8 : ∀ f, f ≠ 15 → σ4 8 0 f = gst (xMo σ2) 8 0 0 0 8 0 f := fun f hf => by rw [hmg 8 0 f (Or.inl (by decide)), mOrdNew, gst_nf hf, ordT_o (by decide)]
      have m9 : ∀ i j, i ≠ 9 → i < 12 → σ4 9 i j = gst (xMo σ2) 8 0 0 0 9 i j := fun i j hi h12 => by rw [hmg 9 i j (Or.inr h12), mOrdNew, gst_nk (by decide), ordT_o (fun z => hi z.2)]
      have mk : ∀ k i f, k < 8 → σ4 k i f = xMo σ2 k i f := fun k i f hk => by rw [hmg k i f (Or.inl (by omega)), mOrdNew, gst_nk (by omega), ordT_o (fun z => by omega), gst_nk (by omega)]
      have hr1 := p1.addO (n := nO σ) (σ2 := σ2) (μ2 := σ4) rfl o1 o2 o3 (by rw [hX2.eO, c7]) hag hmg
      have hr2 := hr1.mo (by omega) hM4
      have hF4 : Mf (gAdd g2 9 q 8) σ4 := by
        refine ⟨hM4, fun c hc => ?_, fun c hc hh => ?_⟩
        · rw [m9 4 c (by decide) (by decide), gst_nk (by decide)]; exact hF2.2.1 c hc
        · rw [m9 3 c (by decide) (by decide), gst_nk (by decide)] at hh
          rw [m9 4 c (by decide) (by decide), gst_nk (by decide)]; exact hF2.2.2 c hc hh
      have hum : Um σ4 (mOA σ4) := Um.oa (Um.rf σ4)
      have e : ∀ k i f, k < 8 → mOA σ4 k i f = xMo σ2 k i f := fun k i f hk => (hum k i f (by omega) (by omega)).trans (mk k i f hk)
      have eO4 : nO (mOA σ4) = nO σ + 1 := by
        have k1 : nO (xMo σ2) = nO σ + 1 := by rw [hX2.mo.eO, c7]
        rw [← k1]
        unfold nO
        rw [e 3 0 2 (by decide)]
      refine ⟨gAdd g2 9 q 8, _, mOA σ4, gSame.add9 g2 q 8, s2, s3, ?_, fun _ => rfl, hX2.mo.add9.cong e, hF4.oa, ?_, ⟨?_, ?_⟩, ?_⟩
      · have k1 : mOA σ4 8 0 0 = σ4 8 0 0 := Ut.oa (Ut.rf σ4)
        rw [k1, m8 0 (by decide), gst_eq]
      · exact (hr2.congr (fun f => e 0 0 f (by decide)) (fun j => e 1 0 j (by decide)) (e 2 0 2 (by decide)) (e 3 0 2 (by decide)) (fun i f => e 6 i f (by decide)) (fun i f => e 7 i f (by decide)) (fun _ _ => rfl) (fun _ _ _ => rfl)).mono (by omega)
      · rw [gAdd_cn, if_neg (by decide), c10]; exact h.2.2.2.1.1
      · rw [gAdd_ln, if_neg (fun z => absurd z.1 (by decide)), l10]; exact h.2.2.2.1.2
      · rw [gAdd_cn, if_pos rfl, hc9, eO4]; omega
end ZGROW
