section STEPS2
variable {t : Nat} {ag : Nat → Nat} {hs : Nat → Nat × Bool} {B : Nat} {σ ρ : Mem}
theorem xMx_le {a b t : Int32} : xMx a b ≤ t ↔ (a ≤ t ∧ b ≤ t) := by
  unfold xMx
  by_cases c : a < b
  · rw [if_pos c]
    exact ⟨fun h => ⟨Int32.le_trans (Int32.le_of_lt c) h, h⟩, fun h => h.2⟩
  · rw [if_neg c]
    exact ⟨fun h => ⟨h, Int32.le_trans (Int32.not_lt.mp c) h⟩, fun h => h.1⟩
/-- a ride begins -/
theorem pR.begin (h : pR t ag hs B σ ρ) {c o : Nat} (hc : c < nC σ) (eo : σ 6 c 6 = nI o) (ho : o < nO σ) (h2 : σ 6 c 3 = 2) (ht : σ 6 c 5 ≤ σ 0 0 3) : pR t ag hs B (xBegin σ c o) (rRide ρ c o) := by
  have h60 := h.o60
  have h10 := h.c10
  obtain ⟨-, lk⟩ := h.lc hc (by omega) eo
  obtain ⟨s1, r, r1, r2⟩ := lk.s2 h2
  obtain ⟨a0, a1, a2, a3, a6, az⟩ := h.cab hc
  obtain ⟨⟨b0, b1, b2, b3, b4, b5, b6⟩, ⟨a, ha, ea⟩, ⟨b, hb, eb⟩⟩ := h.ord ho
  obtain ⟨d, d1, d2, d3, d4⟩ := h.tim ho
  obtain ⟨n, n1, n2, ew, er⟩ := h.way ha hb
  have h9 := h.t9
  have hd : d ≤ t := by
    rw [s1, xMx_le, h.now, d2] at ht
    exact le_of_nIle ht.2 (by omega) (by omega)
  have hxw : xWay σ (σ 7 o 1) (σ 7 o 2) = nI n := by rw [ea, eb]; exact ew
  have hrw : rWy ρ o = nI n := by unfold rWy; rw [← b1, ← b2, ea, eb, ix_nI (by omega), ix_nI (by omega)]; exact er
  have hσ : ∀ k i f, ¬ (k = 7 ∧ 11 ≤ f) → xBegin σ c o k i f = gst (gst (gst (gst (gst σ 6 c 3 3) 6 c 2 (nI a)) 6 c 5 (nI (t + n))) 7 o 5 3) 7 o 9 (nI t) k i f := fun k i f hk => by
    unfold xBegin xMeter
    rw [hxw, ea, h.now, nI_add]
    have q : ∀ j, 11 ≤ j → ¬ (k = 7 ∧ i = o ∧ f = j) := fun j hj z => hk ⟨z.1, by omega⟩
    rw [gst_app, if_neg (q 14 (by decide)), gst_app, if_neg (q 13 (by decide)), gst_app, if_neg (q 12 (by decide)), gst_app, if_neg (q 11 (by decide))]
  have hρ : ∀ k i f, ¬ (k = 17 ∧ f = 9) → rRide ρ c o k i f = gst (gst (gst (gst (gst ρ 17 o 4 3) 17 o 6 (nI t)) 16 c 2 3) 16 c 1 (nI a)) 16 c 4 (nI (t + n)) k i f := fun k i f hk => by
    have q : ¬ (k = 17 ∧ i = o ∧ f = 9) := fun z => hk ⟨z.1, z.2.2⟩
    unfold rRide
    rw [hrw, h.rnow, ← b1, ea, nI_add]
    simp only [gst_app, if_neg q]
  obtain ⟨σ', eσ⟩ : ∃ y, y = xBegin σ c o := ⟨_, rfl⟩
  obtain ⟨ρ', eρ⟩ : ∃ y, y = rRide ρ c o := ⟨_, rfl⟩
  rw [← eσ] at hσ ⊢
  rw [← eρ] at hρ ⊢
  have s6 : ∀ i f, σ' 6 i f = gst (gst (gst σ 6 c 3 3) 6 c 2 (nI a)) 6 c 5 (nI (t + n)) 6 i f := fun i f => by rw [hσ 6 i f (by omega)]; simp [gst_app]
  have s7 : ∀ i f, f < 11 → σ' 7 i f = gst (gst σ 7 o 5 3) 7 o 9 (nI t) 7 i f := fun i f hf => by rw [hσ 7 i f (by omega)]; simp [gst_app]
  have sk : ∀ k i f, k ≠ 6 → k ≠ 7 → σ' k i f = σ k i f := fun k i f h6 h7 => by rw [hσ k i f (fun z => h7 z.1)]; simp [gst_app, h6, h7]
  have s7o : ∀ i f, i ≠ o → σ' 7 i f = σ 7 i f := fun i f hi => by
    rw [eσ]; unfold xBegin xMeter; simp [gst_app, hi]
  have t6 : ∀ i f, ρ' 16 i f = gst (gst (gst ρ 16 c 2 3) 16 c 1 (nI a)) 16 c 4 (nI (t + n)) 16 i f := fun i f => by rw [hρ 16 i f (by omega)]; simp [gst_app]
  have t7 : ∀ i f, f ≠ 9 → ρ' 17 i f = gst (gst ρ 17 o 4 3) 17 o 6 (nI t) 17 i f := fun i f hf => by rw [hρ 17 i f (by omega)]; simp [gst_app]
  have t7o : ∀ i f, i ≠ o → ρ' 17 i f = ρ 17 i f := fun i f hi => by
    rw [eρ]; unfold rRide; simp [gst_app, hi]
  have tk : ∀ k i f, k ≠ 16 → k ≠ 17 → ρ' k i f = ρ k i f := fun k i f h6 h7 => by rw [hρ k i f (fun z => h7 z.1)]; simp [gst_app, h6, h7]
  clear eσ eρ hσ hρ
  have eC : nC σ' = nC σ := by unfold nC; rw [sk 2 0 2 (by decide) (by decide)]
  have eO : nO σ' = nO σ := by unfold nO; rw [sk 3 0 2 (by decide) (by decide)]
  refine h.upd hc ho (Or.inl eo) (Or.inl lk.1) eC eO (h.1.of (sk _ _ _ (by decide) (by decide)) (fun j => sk _ _ _ (by decide) (by decide)) (sk _ _ _ (by decide) (by decide)) (sk _ _ _ (by decide) (by decide)) (tk _ _ _ (by decide) (by decide)) (tk _ _ _ (by decide) (by decide)) (tk _ _ _ (by decide) (by decide)) (fun a b => tk _ _ _ (by decide) (by decide)) (fun _ _ _ => tk _ _ _ (by decide) (by decide))) (fun _ _ => Nat.le_refl _) ?_ s7o ?_ t7o (fun i f _ => tk _ _ _ (by decide) (by decide)) ?_ ⟨?_, ?_, ?_⟩ (h.tq.of h10 eC (sk _ _ _ (by decide) (by decide)) (fun z j => tk _ _ _ (by decide) (by decide)) (fun i hi => ?_)) (Or.inr ⟨?_, ?_, ?_, Or.inr (Or.inr ⟨?_, ?_, t, t + n, ?_, ?_, by omega, by omega⟩)⟩)
  · intro i f hi; rw [s6]; simp [gst_app, hi]
  · intro i f hi; rw [t6]; simp [gst_app, hi]
  · exact ⟨by rw [s6]; simpa [gst_app] using a0, by rw [s6, t6]; simpa [gst_app] using a1, by rw [s6, t6]; simp [gst_app], by rw [s6, t6]; simp [gst_app], by rw [s6, t6]; simpa [gst_app] using a6, ⟨a, ha, by rw [s6]; simp [gst_app]⟩⟩
  · refine ⟨⟨?_, ?_, ?_, ?_, ?_, ?_, ?_⟩, ⟨a, ha, ?_⟩, ⟨b, hb, ?_⟩⟩
    · rw [s7 o 0 (by decide)]; simpa [gst_app] using b0
    · rw [s7 o 1 (by decide), t7 o 0 (by decide)]; simpa [gst_app] using b1
    · rw [s7 o 2 (by decide), t7 o 1 (by decide)]; simpa [gst_app] using b2
    · rw [s7 o 3 (by decide), t7 o 2 (by decide)]; simpa [gst_app] using b3
    · rw [s7 o 4 (by decide), t7 o 3 (by decide)]; simpa [gst_app] using b4
    · rw [s7 o 5 (by decide), t7 o 4 (by decide)]; simp [gst_app]
    · rw [s7 o 6 (by decide), t7 o 5 (by decide)]; simpa [gst_app] using b6
    · rw [s7 o 1 (by decide)]; simpa [gst_app] using ea
    · rw [s7 o 2 (by decide)]; simpa [gst_app] using eb
  · obtain ⟨e1, e2, e3⟩ := h.bit ho
    refine ⟨?_, fun x hx => ?_, fun q => ?_⟩
    · rw [s7 o 8 (by decide)]; simpa [gst_app] using e1
    · rw [s7 o 8 (by decide), tk 19 o x (by decide) (by decide)]; simpa [gst_app] using e2 x hx
    · rw [s7 o 5 (by decide)]; exact Or.inl (by simp [gst_app])
  · refine ⟨d, d1, ?_, Or.inr ⟨t, ?_, hd, Nat.le_refl _⟩, fun q => ?_⟩
    · rw [s7 o 4 (by decide)]; simpa [gst_app] using d2
    · rw [s7 o 9 (by decide)]; simp [gst_app]
    · rw [s7 o 5 (by decide)] at q
      exact absurd (show (3 : Int32) = 4 by simpa [gst_app] using q) (by decide)
  · rw [s6, s6, s6]
    by_cases e : i = c
    · subst e; simp [gst_app, h2]
    · simp [gst_app, e]
  · rw [s6]; simpa [gst_app] using eo
  · rw [s7 o 6 (by decide)]; simpa [gst_app] using lk.1
  · rw [s7 o 5 (by decide), s6]; simp [gst_app]
  · rw [s6]; simp [gst_app]
  · rw [s6, t6]; simp [gst_app]
  · rw [s7 o 9 (by decide)]; simp [gst_app]
  · rw [s6]; simp [gst_app]
/-- a ride is over -/
theorem pR.fin (h : pR t ag hs B σ ρ) {c o : Nat} (hc : c < nC σ) (eo : σ 6 c 6 = nI o) (ho : o < nO σ) (h3 : σ 6 c 3 = 3) (ht : σ 6 c 5 ≤ σ 0 0 3) : pR t ag hs (B + 1) (xEnd σ c o) (rDone ρ c o) := by
  have h60 := h.o60
  have h10 := h.c10
  obtain ⟨-, lk⟩ := h.lc hc (by omega) eo
  obtain ⟨s1, bb, ee, r1, r2, r3, r4⟩ := lk.s3 h3
  obtain ⟨a0, a1, a2, a3, a6, az⟩ := h.cab hc
  obtain ⟨⟨b0, b1, b2, b3, b4, b5, b6⟩, ⟨a, ha, ea⟩, ⟨b, hb, eb⟩⟩ := h.ord ho
  obtain ⟨d, d1, d2, d3, d4⟩ := h.tim ho
  have h9 := h.t9
  have het : ee ≤ t := by
    rw [r2, h.now] at ht
    exact le_of_nIle ht (by omega) (by omega)
  have hixb : ix (ρ 17 o 1) = b := by rw [← b2, eb]; exact ix_nI (by omega)
  obtain ⟨σ', eσ⟩ : ∃ y, y = xEnd σ c o := ⟨_, rfl⟩
  obtain ⟨ρ', eρ⟩ : ∃ y, y = rDone ρ c o := ⟨_, rfl⟩
  have s6 : ∀ i f, f ≠ 7 → f ≠ 8 → σ' 6 i f = gst (gst (gst (gst σ 6 c 2 (nI b)) 6 c 6 (-1)) 6 c 3 1) 6 c 4 (σ 0 0 6) 6 i f := fun i f h7 h8 => by
    rw [eσ]; unfold xEnd xJoin; simp [gst_app, h7, h8, eb]
  have s6o : ∀ i f, i ≠ c → σ' 6 i f = σ 6 i f := fun i f hi => by rw [eσ]; unfold xEnd xJoin; simp [gst_app, hi]
  have s7 : ∀ i f, σ' 7 i f = gst (gst σ 7 o 5 4) 7 o 10 (nI t) 7 i f := fun i f => by
    rw [eσ]; unfold xEnd xJoin; simp [gst_app, h.now]
  have s0 : σ' 0 0 6 = σ 0 0 6 + 1 := by rw [eσ]; unfold xEnd xJoin; simp [gst_app]
  have sk : ∀ k i f, k ≠ 6 → k ≠ 7 → ¬ (k = 0 ∧ f = 6) → σ' k i f = σ k i f := fun k i f h6 h7 h0 => by
    have q : ¬ (k = 0 ∧ i = 0 ∧ f = 6) := fun z => h0 ⟨z.1, z.2.2⟩
    rw [eσ]; unfold xEnd xJoin; simp [gst_app, h6, h7]
    intro z1 z2 z3; exact absurd ⟨z1, z2, z3⟩ q
  have hρ : ∀ k i f, k ≠ 18 → k ≠ 20 → ρ' k i f = gst (gst (gst (gst (gst ρ 17 o 4 4) 17 o 7 (nI t)) 16 c 2 1) 16 c 1 (nI b)) 16 c 3 (-1) k i f := fun k i f hk h20 => by
    rw [eρ]; unfold rDone rFree; rw [hixb, rJoin_o (fun z => hk z.1), h.rnow]; simp [gst_app, h20]
  have h18 : ∀ z j, ρ' 18 z j = rJoin ρ b c 18 z j := fun z j => by
    rw [eρ]; unfold rDone rFree; rw [hixb]; exact rJoin_18 (fun z j => by simp [gst_app]) z j
  have t6 : ∀ i f, ρ' 16 i f = gst (gst (gst ρ 16 c 2 1) 16 c 1 (nI b)) 16 c 3 (-1) 16 i f := fun i f => by rw [hρ 16 i f (by decide) (by decide)]; simp [gst_app]
  have t7 : ∀ i f, ρ' 17 i f = gst (gst ρ 17 o 4 4) 17 o 7 (nI t) 17 i f := fun i f => by rw [hρ 17 i f (by decide) (by decide)]; simp [gst_app]
  have tk : ∀ k i f, k ≠ 16 → k ≠ 17 → k ≠ 18 → k ≠ 20 → ρ' k i f = ρ k i f := fun k i f h6 h7 h8 h20 => by rw [hρ k i f h8 h20]; simp [gst_app, h6, h7]
  rw [← eσ, ← eρ]
  clear eσ eρ hρ
  have eC : nC σ' = nC σ := by unfold nC; rw [sk 2 0 2 (by decide) (by decide) (by decide)]
  have eO : nO σ' = nO σ := by unfold nO; rw [sk 3 0 2 (by decide) (by decide) (by decide)]
  have tb : ∀ i f, ρ' 19 i f = ρ 19 i f := fun i f => tk _ _ _ (by decide) (by decide) (by decide) (by decide)
  refine h.upd hc ho (Or.inl eo) (Or.inl lk.1) eC eO (h.1.of (sk _ _ _ (by decide) (by decide) (by decide)) (fun j => sk _ _ _ (by decide) (by decide) (by omega)) (sk _ _ _ (by decide) (by decide) (by decide)) (sk _ _ _ (by decide) (by decide) (by decide)) (tk _ _ _ (by decide) (by decide) (by decide) (by decide)) (tk _ _ _ (by decide) (by decide) (by decide) (by decide)) (tk _ _ _ (by decide) (by decide) (by decide) (by decide)) (fun a b => tk _ _ _ (by decide) (by decide) (by decide) (by decide)) (fun i f _ => tb i f)) (fun _ _ => Nat.le_refl _) s6o ?_ ?_ ?_ (fun i f _ => tb i f) ?_ ⟨?_, ?_, ?_⟩ (h.tq.join h10 (c := c) (z := b) hc (by rw [h3]; decide) hb eC s0 h18 ?_ ?_ ?_ ?_) (Or.inl ⟨Or.inr ?_, ?_, Or.inr (Or.inl ?_)⟩)
  · intro i f hi; rw [s7]; simp [gst_app, hi]
  · intro i f hi; rw [t6]; simp [gst_app, hi]
  · intro i f hi; rw [t7]; simp [gst_app, hi]
  · refine ⟨?_, ?_, ?_, ?_, ?_, ?_⟩
    · rw [s6 c 0 (by decide) (by decide)]; simpa [gst_app] using a0
    · rw [s6 c 1 (by decide) (by decide), t6]; simpa [gst_app] using a1
    · rw [s6 c 2 (by decide) (by decide), t6]; simp [gst_app]
    · rw [s6 c 3 (by decide) (by decide), t6]; simp [gst_app]
    · rw [s6 c 6 (by decide) (by decide), t6]; simp [gst_app]
    · exact ⟨b, hb, by rw [s6 c 2 (by decide) (by decide)]; simp [gst_app]⟩
  · refine ⟨⟨?_, ?_, ?_, ?_, ?_, ?_, ?_⟩, ⟨a, ha, ?_⟩, ⟨b, hb, ?_⟩⟩
    · rw [s7]; simpa [gst_app] using b0
    · rw [s7, t7]; simpa [gst_app] using b1
    · rw [s7, t7]; simpa [gst_app] using b2
    · rw [s7, t7]; simpa [gst_app] using b3
    · rw [s7, t7]; simpa [gst_app] using b4
    · rw [s7, t7]; simp [gst_app]
    · rw [s7, t7]; simpa [gst_app] using b6
    · rw [s7]; simpa [gst_app] using ea
    · rw [s7]; simpa [gst_app] using eb
  · obtain ⟨e1, e2, e3⟩ := h.bit ho
    refine ⟨?_, fun x hx => ?_, fun q => ?_⟩
    · rw [s7]; simpa [gst_app] using e1
    · rw [s7, tb]; simpa [gst_app] using e2 x hx
    · rw [s7]; exact Or.inr (Or.inl (by simp [gst_app]))
  · refine ⟨d, d1, ?_, ?_, fun _ => ⟨bb, t, ?_, ?_, by omega, Nat.le_refl _⟩⟩
    · rw [s7]; simpa [gst_app] using d2
    · rw [s7]; simpa [gst_app] using d3
    · rw [s7]; simpa [gst_app] using r1
    · rw [s7]; simp [gst_app]
  · rw [s6 c 3 (by decide) (by decide)]; simp [gst_app]
  · rw [s6 c 4 (by decide) (by decide)]; simp [gst_app]
  · rw [s6 c 2 (by decide) (by decide)]; simp [gst_app]
  · intro i _ hi; exact ⟨s6o i 3 hi, s6o i 4 hi, s6o i 2 hi⟩
  · rw [s6 c 3 (by decide) (by decide)]; simp [gst_app]
  · rw [s6 c 6 (by decide) (by decide)]; simp [gst_app]
  · rw [s7]; simp [gst_app]
/-- a minute passes on the clock -/
theorem pR.time (h : pR t ag hs B σ ρ) (ht : t < 9999) : pR (t + 1) (fun c => ag c + 1) hs B (gst σ 0 0 3 (σ 0 0 3 + 1)) (gst ρ 8 0 8 (ρ 8 0 8 + 1)) := by
  have h10 := h.c10
  have eC : nC (gst σ 0 0 3 (σ 0 0 3 + 1)) = nC σ := nC_g (by decide)
  have eO : nO (gst σ 0 0 3 (σ 0 0 3 + 1)) = nO σ := nO_g (by decide)
  have s6 : ∀ i f, gst σ 0 0 3 (σ 0 0 3 + 1) 6 i f = σ 6 i f := fun i f => gst_nk (by decide)
  have s7 : ∀ i f, gst σ 0 0 3 (σ 0 0 3 + 1) 7 i f = σ 7 i f := fun i f => gst_nk (by decide)
  have t6 : ∀ i f, gst ρ 8 0 8 (ρ 8 0 8 + 1) 16 i f = ρ 16 i f := fun i f => gst_nk (by decide)
  have t7 : ∀ i f, gst ρ 8 0 8 (ρ 8 0 8 + 1) 17 i f = ρ 17 i f := fun i f => gst_nk (by decide)
  have t9 : ∀ i f, gst ρ 8 0 8 (ρ 8 0 8 + 1) 19 i f = ρ 19 i f := fun i f => gst_nk (by decide)
  refine ⟨?_, fun i hi => ?_, fun i hi => ?_, ⟨fun i hi => ?_, fun i hi => ?_⟩, h.tq.of h10 eC (gst_nf (by decide)) (fun z j => gst_nk (by decide)) (fun i hi => ?_)⟩
  · unfold pA
    rw [eC, eO]
    refine ⟨⟨by simpa [gst_app] using h.1.1.1, by simpa [gst_app] using h.1.1.2.1, h.1.1.2.2⟩, ⟨by simpa [gst_app] using h.1.2.1.1, by simpa [gst_app] using h.1.2.1.2.1, fun o f ho => by rw [t9]; exact h.1.2.1.2.2 o f ho⟩, ⟨by rw [gst_eq, h.now]; exact nI_1 t, by rw [gst_eq, h.rnow]; exact nI_1 t, by omega⟩, fun a b ha hb => ?_⟩
    obtain ⟨n, q⟩ := h.1.2.2.2 a b ha hb
    exact ⟨n, by simpa [gst_app] using q⟩
  · rw [eC] at hi; exact (h.cab hi).of (s6 i) (t6 i)
  · rw [eO] at hi
    rw [eC]
    exact ⟨(h.ord hi).of (s7 i) (t7 i), (h.bit hi).of (s7 i 8) (s7 i 5) (t9 i), (h.tim hi).of (by omega) (s7 i 4) (s7 i 5) (s7 i 9) (s7 i 10)⟩
  · rw [eC] at hi
    unfold pL1
    rw [eO, s6, s6]
    rcases h.l1 hi with q | ⟨o, ho, q1, lk⟩
    · exact Or.inl q
    · refine Or.inr ⟨o, ho, q1, ?_⟩
      have lk2 : pLk t (ag i) (gst σ 0 0 3 (σ 0 0 3 + 1)) (gst ρ 8 0 8 (ρ 8 0 8 + 1)) i o := lk.of (s6 i) (s7 o) (t6 i 4) (t9 o i)
      obtain ⟨k1, k2, k3⟩ := lk2
      refine ⟨k1, k2, ?_⟩
      rcases k3 with ⟨q, a, d, x1, x2, x3, x4, x5, x6, x7⟩ | q | q
      · exact Or.inl ⟨q, a, d, x1, by omega, (show t + 1 ≤ a + (ag i + 1) by omega), x4, x5, by omega, x7⟩
      · exact Or.inr (Or.inl q)
      · exact Or.inr (Or.inr q)
  · rw [eO] at hi
    unfold pL2
    rw [eC, s7, s7]
    rcases h.l2 hi with q | ⟨j, hj, q1, q2⟩ | q | q
    · exact Or.inl q
    · exact Or.inr (Or.inl ⟨j, hj, by rw [s6]; exact q1, q2⟩)
    · exact Or.inr (Or.inr (Or.inl q))
    · exact Or.inr (Or.inr (Or.inr q))
  · rw [s6, s6, s6]; exact ⟨Iff.rfl, fun _ => ⟨rfl, rfl⟩⟩
/-- ways: neither cabs nor orders nor queues are others -/
theorem pR.glob (h : pR t ag hs B σ ρ) {σ' ρ' : Mem} (hA : pA t σ' ρ') (s2 : σ' 2 0 2 = σ 2 0 2) (s3 : σ' 3 0 2 = σ 3 0 2) (s06 : σ' 0 0 6 = σ 0 0 6) (s6 : ∀ i f, σ' 6 i f = σ 6 i f) (s7 : ∀ i f, σ' 7 i f = σ 7 i f) (t6 : ∀ i f, ρ' 16 i f = ρ 16 i f) (t7 : ∀ i f, ρ' 17 i f = ρ 17 i f) (t8 : ∀ i f, ρ' 18 i f = ρ 18 i f) (t9 : ∀ i f, ρ' 19 i f = ρ 19 i f) : pR t ag hs B σ' ρ' := by
  have h10 := h.c10
  have eC : nC σ' = nC σ := by unfold nC; rw [s2]
  have eO : nO σ' = nO σ := by unfold nO; rw [s3]
  refine ⟨hA, fun i hi => ?_, fun i hi => ?_, ⟨fun i hi => ?_, fun i hi => ?_⟩, h.tq.of h10 eC s06 t8 (fun i hi => ?_)⟩
  · rw [eC] at hi; exact (h.cab hi).of (s6 i) (t6 i)
  · rw [eO] at hi
    rw [eC]
    exact ⟨(h.ord hi).of (s7 i) (t7 i), (h.bit hi).of (s7 i 8) (s7 i 5) (t9 i), (h.tim hi).of (Nat.le_refl _) (s7 i 4) (s7 i 5) (s7 i 9) (s7 i 10)⟩
  · rw [eC] at hi
    unfold pL1
    rw [eO, s6, s6]
    rcases h.l1 hi with q | ⟨o, ho, q1, lk⟩
    · exact Or.inl q
    · exact Or.inr ⟨o, ho, q1, lk.of (s6 i) (s7 o) (t6 i 4) (t9 o i)⟩
  · rw [eO] at hi
    unfold pL2
    rw [eC, s7, s7]
    rcases h.l2 hi with q | ⟨j, hj, q1, q2⟩ | q | q
    · exact Or.inl q
    · exact Or.inr (Or.inl ⟨j, hj, by rw [s6]; exact q1, q2⟩)
    · exact Or.inr (Or.inr (Or.inl q))
    · exact Or.inr (Or.inr (Or.inr q))
  · rw [s6, s6, s6]; exact ⟨Iff.rfl, fun _ => ⟨rfl, rfl⟩⟩
/-- the relation looks at these places alone -/
theorem pR.congr (h : pR t ag hs B σ ρ) {σ' ρ' : Mem} (e : ∀ k i f, k < 8 → σ' k i f = σ k i f) (e' : ∀ k i f, 8 ≤ k → k ≤ 20 → ρ' k i f = ρ k i f) : pR t ag hs B σ' ρ' :=
  h.glob (h.1.of (e _ _ _ (by decide)) (fun j => e _ _ _ (by decide)) (e _ _ _ (by decide)) (e _ _ _ (by decide)) (e' _ _ _ (by decide) (by decide)) (e' _ _ _ (by decide) (by decide)) (e' _ _ _ (by decide) (by decide)) (fun _ _ => e' _ _ _ (by decide) (by decide)) (fun _ _ _ => e' _ _ _ (by decide) (by decide))) (e _ _ _ (by decide)) (e _ _ _ (by decide)) (e _ _ _ (by decide)) (fun i f => e _ _ _ (by decide)) (fun i f => e _ _ _ (by decide)) (fun i f => e' _ _ _ (by decide) (by decide)) (fun i f => e' _ _ _ (by decide) (by decide)) (fun i f => e' _ _ _ (by decide) (by decide)) (fun i f => e' _ _ _ (by decide) (by decide))
theorem pR.setWay (h : pR t ag hs B σ ρ) {a b n : Nat} (ha : a < 6) (hb : b < 6) (h1 : 1 ≤ n) (h2 : n ≤ 120) : pR t ag hs B (xSetWay σ (nI a) (nI b) (nI n)) (gst (gst ρ 15 a b (nI n)) 15 b a (nI n)) := by
  have ep : ∀ (τ : Mem) (x y : Nat), x < 6 → y < 6 → xPutWay τ (nI x) (nI y) (nI n) = gst τ 1 0 (6 * x + y) (nI n) := fun τ x y hx hy => by
    have e : nI x * 6 + nI y = nI (6 * x + y) := by rw [show (6 : Int32) = nI 6 from rfl, pk_mul, nI_add, Nat.mul_comm]
    unfold xPutWay
    rw [e, if_neg (nI_pos (by omega)), if_neg (fun z => by have := le_of_nIle (n := 36) z (by omega) (by omega); omega : ¬ (36 : Int32) ≤ nI (6 * x + y)), ix_nI (by omega)]
  have e : xSetWay σ (nI a) (nI b) (nI n) = gst (gst σ 1 0 (6 * a + b) (nI n)) 1 0 (6 * b + a) (nI n) := by unfold xSetWay; rw [ep _ a b ha hb, ep _ b a hb ha]
  rw [e]
  refine h.glob ?_ ?_ ?_ ?_ ?_ ?_ ?_ ?_ ?_ ?_
  · have eC : nC (gst (gst σ 1 0 (6 * a + b) (nI n)) 1 0 (6 * b + a) (nI n)) = nC σ := by simp [nC, gst_app]
    have eO : nO (gst (gst σ 1 0 (6 * a + b) (nI n)) 1 0 (6 * b + a) (nI n)) = nO σ := by simp [nO, gst_app]
    unfold pA
    rw [eC, eO]
    refine ⟨⟨by simpa [gst_app] using h.1.1.1, by simpa [gst_app] using h.1.1.2.1, h.1.1.2.2⟩, ⟨by simpa [gst_app] using h.1.2.1.1, by simpa [gst_app] using h.1.2.1.2.1, fun o f ho => by simpa [gst_app] using h.1.2.1.2.2 o f ho⟩, ⟨by simpa [gst_app] using h.now, by simpa [gst_app] using h.rnow, h.t9⟩, fun x y hx hy => ?_⟩
    by_cases c1 : x = b ∧ y = a
    · obtain ⟨rfl, rfl⟩ := c1
      exact ⟨n, h1, h2, by rw [gst_eq], by rw [gst_eq]⟩
    · have q1 : 6 * x + y ≠ 6 * b + a := fun z => c1 ⟨by omega, by omega⟩
      by_cases c2 : x = a ∧ y = b
      · obtain ⟨rfl, rfl⟩ := c2
        refine ⟨n, h1, h2, by rw [gst_nf q1, gst_eq], ?_⟩
        simp only [gst_app]
        rw [if_neg (fun z => c1 z.2), if_pos ⟨trivial, trivial, trivial⟩]
      · have q2 : 6 * x + y ≠ 6 * a + b := fun z => c2 ⟨by omega, by omega⟩
        obtain ⟨m, m1, m2, m3, m4⟩ := h.1.2.2.2 x y hx hy
        refine ⟨m, m1, m2, by rw [gst_nf q1, gst_nf q2]; exact m3, ?_⟩
        simp only [gst_app]
        rw [if_neg (fun z => c1 z.2), if_neg (fun z => c2 z.2)]
        exact m4
  · simp [gst_app]
  · simp [gst_app]
  · simp [gst_app]
  · intro i f; simp [gst_app]
  · intro i f; simp [gst_app]
  · intro i f; simp [gst_app]
  · intro i f; simp [gst_app]
  · intro i f; simp [gst_app]
  · intro i f; simp [gst_app]
end STEPS2
