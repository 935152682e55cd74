section STEPS3
variable {t : Nat} {ag : Nat → Nat} {hs : Nat → Nat × Bool} {B : Nat} {σ ρ : Mem}
theorem pR.wait (h : pR t ag hs B σ ρ) {o : Nat} (ho : o < nO σ) (hs0 : σ 7 o 5 = 0) : σ 7 o 6 = -1 := by
  have h60 := h.o60
  rcases h.l2 ho with q | ⟨c, hc, q1, q2⟩ | q | q
  · exact q.2
  · obtain ⟨-, -, l2, l3⟩ := h.lc hc (by omega) q1
    rw [hs0] at l2
    rw [← l2] at l3
    rcases l3 with ⟨q, -⟩ | ⟨q, -⟩ | ⟨q, -⟩ <;> exact absurd q (by decide)
  · rw [hs0] at q; exact absurd q (by decide)
  · rw [hs0] at q; exact absurd q (by decide)
theorem pR.linked (h : pR t ag hs B σ ρ) {o : Nat} (ho : o < nO σ) (hs0 : σ 7 o 5 = 1 ∨ σ 7 o 5 = 2 ∨ σ 7 o 5 = 3) : ∃ c, c < nC σ ∧ σ 6 c 6 = nI o ∧ σ 7 o 6 = nI c ∧ σ 6 c 3 = σ 7 o 5 := by
  have h60 := h.o60
  rcases h.l2 ho with q | ⟨c, hc, q1, q2⟩ | q | q
  · rw [q.1] at hs0; exact absurd hs0 (by decide)
  · obtain ⟨-, -, l2, l3⟩ := h.lc hc (by omega) q1
    exact ⟨c, hc, q1, q2, l2.symm⟩
  · rw [q] at hs0; exact absurd hs0 (by decide)
  · rw [q] at hs0; exact absurd hs0 (by decide)
/-- what Rank.cancel needs -/
theorem pR.canPre (h : pR t ag hs B σ ρ) {o : Nat} (ho : o < nO σ) : (ρ 17 o 4 = 1 → inN (nC σ) (ρ 17 o 5)) ∧ (ρ 17 o 4 = 2 → ∃ c z, c < nC σ ∧ ρ 17 o 5 = nI c ∧ z < 6 ∧ ρ 16 c 1 = nI z ∧ ρ 18 z 0 = nI (rQn ρ z) ∧ rQn ρ z ≤ 9) := by
  have h10 := h.c10
  obtain ⟨⟨b0, b1, b2, b3, b4, b5, b6⟩, -⟩ := h.ord ho
  rw [← b5, ← b6]
  refine ⟨fun q => ?_, fun q => ?_⟩
  · obtain ⟨c, hc, -, e, -⟩ := h.linked ho (Or.inl q)
    exact ⟨c, hc, e⟩
  · obtain ⟨c, hc, e1, e, e2⟩ := h.linked ho (Or.inr (Or.inl q))
    obtain ⟨a0, a1, a2, a3, a6, z, hz, ez⟩ := h.cab hc
    exact ⟨c, z, hc, e, hz, by rw [← a2, ez], (h.tq.q hz).1, h.tq.room h10 hc (by rw [e2, q]; decide) hz⟩
theorem pR.cancel0 (h : pR t ag hs B σ ρ) {o : Nat} (ho : o < nO σ) (hs0 : σ 7 o 5 = 0) : pR t ag hs B (gst (xRel σ o) 7 o 5 5) (rCan ρ o) := by
  have h60 := h.o60
  have h10 := h.c10
  have h6 := h.wait ho hs0
  obtain ⟨⟨b0, b1, b2, b3, b4, b5, b6⟩, bz1, bz2⟩ := h.ord ho
  obtain ⟨d, d1, d2, d3, d4⟩ := h.tim ho
  have eσ : xRel σ o = σ := by unfold xRel; rw [if_pos h6]
  have eρ : rCan ρ o = gst (gst ρ 17 o 4 5) 17 o 5 (-1) := by
    unfold rCan rCan2 rCan1
    rw [← b5, hs0, if_neg (by decide), if_neg (by decide)]
  rw [eσ, eρ]
  refine h.updO ho h6 (nC_g (by decide)) (nO_g (by decide)) (h.1.of ?_ ?_ ?_ ?_ ?_ ?_ ?_ ?_ ?_) ?_ ?_ ?_ ?_ ?_ ⟨?_, ?_, ?_⟩ (h.tq.of h10 (nC_g (by decide)) ?_ ?_ ?_) (Or.inr ?_)
  · simp [gst_app]
  · intro j; simp [gst_app]
  · simp [gst_app]
  · simp [gst_app]
  · simp [gst_app]
  · simp [gst_app]
  · simp [gst_app]
  · intro a b; simp [gst_app]
  · intro i f hi; simp [gst_app]
  · intro i f; simp [gst_app]
  · intro i f hi; simp [gst_app, hi]
  · intro i f; simp [gst_app]
  · intro i f hi; simp [gst_app, hi]
  · intro i f hi; simp [gst_app]
  · exact ⟨⟨by simpa [gst_app] using b0, by simpa [gst_app] using b1, by simpa [gst_app] using b2, by simpa [gst_app] using b3, by simpa [gst_app] using b4, by simp [gst_app], by simpa [gst_app] using h6⟩, by simpa [gst_app] using bz1, by simpa [gst_app] using bz2⟩
  · obtain ⟨e1, e2, e3⟩ := h.bit ho
    exact ⟨by simpa [gst_app] using e1, fun x hx => by simpa [gst_app] using e2 x hx, fun _ => Or.inr (Or.inr (by simp [gst_app]))⟩
  · exact ⟨d, d1, by simpa [gst_app] using d2, by simpa [gst_app] using d3, fun q => absurd (show (5 : Int32) = 4 by simpa [gst_app] using q) (by decide)⟩
  · simp [gst_app]
  · intro z j; simp [gst_app]
  · intro i hi; simp [gst_app]
  · simp [gst_app]
theorem pR.cancel1 (h : pR t ag hs B σ ρ) {o : Nat} (ho : o < nO σ) (hs1 : σ 7 o 5 = 1) : pR t ag hs B (gst (xRel σ o) 7 o 5 5) (rCan ρ o) := by
  have h60 := h.o60
  have h10 := h.c10
  obtain ⟨c, hc, eo, ec, e3⟩ := h.linked ho (Or.inl hs1)
  rw [hs1] at e3
  obtain ⟨-, lk⟩ := h.lc hc (by omega) eo
  obtain ⟨a0, a1, a2, a3, a6, az⟩ := h.cab hc
  obtain ⟨⟨b0, b1, b2, b3, b4, b5, b6⟩, bz1, bz2⟩ := h.ord ho
  obtain ⟨d, d1, d2, d3, d4⟩ := h.tim ho
  have hix : ix (σ 7 o 6) = c := by rw [ec]; exact ix_nI (by omega)
  have eσ : xRel σ o = gst (gst σ 7 o 6 (-1)) 6 c 6 (-1) := by
    unfold xRel; rw [if_neg (by rw [ec]; exact nI_nm (by omega)), hix, if_neg (by rw [e3]; decide)]
  have eρ : rCan ρ o = gst (gst (gst ρ 16 c 3 (-1)) 17 o 4 5) 17 o 5 (-1) := by
    unfold rCan rCan2 rCan1
    rw [← b5, hs1, if_neg (by decide), if_pos rfl, ← b6, hix]
  rw [eσ, eρ]
  refine h.upd hc ho (Or.inl eo) (Or.inl ec) ?_ ?_ (h.1.of ?_ ?_ ?_ ?_ ?_ ?_ ?_ ?_ ?_) (fun _ _ => Nat.le_refl _) ?_ ?_ ?_ ?_ ?_ ?_ ⟨?_, ?_, ?_⟩ (h.tq.of h10 ?_ ?_ ?_ ?_) (Or.inl ⟨Or.inr ?_, ?_, Or.inr (Or.inr ?_)⟩)
  · simp [nC, gst_app]
  · simp [nO, gst_app]
  · simp [gst_app]
  · intro j; simp [gst_app]
  · simp [gst_app]
  · simp [gst_app]
  · simp [gst_app]
  · simp [gst_app]
  · simp [gst_app]
  · intro a b; simp [gst_app]
  · intro i f hi; simp [gst_app]
  · intro i f hi; simp [gst_app, hi]
  · intro i f hi; simp [gst_app, hi]
  · intro i f hi; simp [gst_app, hi]
  · intro i f hi; simp [gst_app, hi]
  · intro i f hi; simp [gst_app]
  · exact ⟨by simpa [gst_app] using a0, by simpa [gst_app] using a1, by simpa [gst_app] using a2, by simpa [gst_app] using a3, by simp [gst_app], by simpa [gst_app] using az⟩
  · exact ⟨⟨by simpa [gst_app] using b0, by simpa [gst_app] using b1, by simpa [gst_app] using b2, by simpa [gst_app] using b3, by simpa [gst_app] using b4, by simp [gst_app], by simp [gst_app]⟩, by simpa [gst_app] using bz1, by simpa [gst_app] using bz2⟩
  · obtain ⟨e1, e2, e3⟩ := h.bit ho
    exact ⟨by simpa [gst_app] using e1, fun x hx => by simpa [gst_app] using e2 x hx, fun _ => Or.inr (Or.inr (by simp [gst_app]))⟩
  · exact ⟨d, d1, by simpa [gst_app] using d2, by simpa [gst_app] using d3, fun q => absurd (show (5 : Int32) = 4 by simpa [gst_app] using q) (by decide)⟩
  · simp [nC, gst_app]
  · simp [gst_app]
  · intro z j; simp [gst_app]
  · intro i hi; simp [gst_app]
  · simpa [gst_app] using e3
  · simp [gst_app]
  · simp [gst_app]
theorem pR.cancel2 (h : pR t ag hs B σ ρ) {o : Nat} (ho : o < nO σ) (hs2 : σ 7 o 5 = 2) : pR t ag hs (B + 1) (gst (xRel σ o) 7 o 5 5) (rCan ρ o) := by
  have h60 := h.o60
  have h10 := h.c10
  obtain ⟨c, hc, eo, ec, e3⟩ := h.linked ho (Or.inr (Or.inl hs2))
  rw [hs2] at e3
  obtain ⟨-, lk⟩ := h.lc hc (by omega) eo
  obtain ⟨a0, a1, a2, a3, a6, z, hz, ez⟩ := h.cab hc
  obtain ⟨⟨b0, b1, b2, b3, b4, b5, b6⟩, bz1, bz2⟩ := h.ord ho
  obtain ⟨d, d1, d2, d3, d4⟩ := h.tim ho
  have hix : ix (σ 7 o 6) = c := by rw [ec]; exact ix_nI (by omega)
  have hixz : ix (ρ 16 c 1) = z := by rw [← a2, ez]; exact ix_nI (by omega)
  obtain ⟨σ', eσ'⟩ : ∃ y, y = gst (xRel σ o) 7 o 5 5 := ⟨_, rfl⟩
  obtain ⟨ρ', eρ'⟩ : ∃ y, y = rCan ρ o := ⟨_, rfl⟩
  have eσ : σ' = gst (gst (gst (gst (gst (gst σ 7 o 6 (-1)) 6 c 6 (-1)) 6 c 3 1) 6 c 4 (σ 0 0 6)) 0 0 6 (σ 0 0 6 + 1)) 7 o 5 5 := by
    rw [eσ']; unfold xRel xJoin; rw [if_neg (by rw [ec]; exact nI_nm (by omega)), hix, if_pos e3]; simp [gst_app]
  have eρ : ρ' = gst (gst (rFree ρ c z) 17 o 4 5) 17 o 5 (-1) := by
    rw [eρ']; unfold rCan rCan2 rCan1
    rw [← b5, hs2, if_pos rfl, if_neg (by decide), ← b6, hix, hixz]
  have eo' : ∀ k i f, k ≠ 18 → ρ' k i f = gst (gst (gst (gst (gst ρ 16 c 2 1) 16 c 1 (nI z)) 16 c 3 (-1)) 17 o 4 5) 17 o 5 (-1) k i f := fun k i f hk => by
    rw [eρ]; unfold rFree; simp only [gst_app, rJoin_o (fun q => hk q.1)]
  have e18 : ∀ z' j, ρ' 18 z' j = rJoin ρ z c 18 z' j := fun z' j => by
    rw [eρ]; unfold rFree; rw [gst_nk (by decide), gst_nk (by decide)]; exact rJoin_18 (fun z j => by simp [gst_app]) z' j
  rw [← eσ', ← eρ']
  clear eσ' eρ' eρ
  refine h.upd hc ho (Or.inl eo) (Or.inl ec) ?_ ?_ (h.1.of ?_ ?_ ?_ ?_ ?_ ?_ ?_ ?_ ?_) (fun _ _ => Nat.le_refl _) ?_ ?_ ?_ ?_ ?_ ?_ ⟨?_, ?_, ?_⟩ (h.tq.join h10 (c := c) (z := z) hc (by rw [e3]; decide) hz ?_ ?_ e18 ?_ ?_ ?_ ?_) (Or.inl ⟨Or.inr ?_, ?_, Or.inr (Or.inr ?_)⟩)
  · simp [eσ, nC, gst_app]
  · simp [eσ, nO, gst_app]
  · simp [eσ, gst_app]
  · intro j; simp [eσ, gst_app]
  · simp [eσ, gst_app]
  · simp [eσ, gst_app]
  · simp [eo', gst_app]
  · simp [eo', gst_app]
  · simp [eo', gst_app]
  · intro a b; simp [eo', gst_app]
  · intro i f hi; simp [eo', gst_app]
  · intro i f hi; simp [eσ, gst_app, hi]
  · intro i f hi; simp [eσ, gst_app, hi]
  · intro i f hi; simp [eo', gst_app, hi]
  · intro i f hi; simp [eo', gst_app, hi]
  · intro i f hi; simp [eo', gst_app]
  · exact ⟨by simpa [eσ, gst_app] using a0, by simpa [eσ, eo', gst_app] using a1, by simp [eσ, eo', gst_app, ez], by simp [eσ, eo', gst_app], by simp [eσ, eo', gst_app], ⟨z, hz, by simp [eσ, gst_app, ez]⟩⟩
  · exact ⟨⟨by simpa [eσ, eo', gst_app] using b0, by simpa [eσ, eo', gst_app] using b1, by simpa [eσ, eo', gst_app] using b2, by simpa [eσ, eo', gst_app] using b3, by simpa [eσ, eo', gst_app] using b4, by simp [eσ, eo', gst_app], by simp [eσ, eo', gst_app]⟩, by simpa [eσ, gst_app] using bz1, by simpa [eσ, gst_app] using bz2⟩
  · obtain ⟨e1, e2, e3⟩ := h.bit ho
    exact ⟨by simpa [eσ, gst_app] using e1, fun x hx => by simpa [eσ, eo', gst_app] using e2 x hx, fun _ => Or.inr (Or.inr (by simp [eσ, gst_app]))⟩
  · exact ⟨d, d1, by simpa [eσ, gst_app] using d2, by simpa [eσ, gst_app] using d3, fun q => absurd (show (5 : Int32) = 4 by simpa [eσ, gst_app] using q) (by decide)⟩
  · simp [eσ, nC, gst_app]
  · simp [eσ, gst_app]
  · simp [eσ, gst_app]
  · simp [eσ, gst_app]
  · simp [eσ, gst_app, ez]
  · intro i _ hi; simp [eσ, gst_app, hi]
  · simp [eσ, gst_app]
  · simp [eσ, gst_app]
  · simp [eσ, gst_app]
theorem qq.grow {u : Nat → Nat} {F F' : Nat → Prop} {N z : Nat} {ρ ρ' : Mem} (h : qq u F N ρ z) (hN : N < 10) (er : ∀ j, ρ' 18 z j = ρ 18 z j) (eF : ∀ c, c < N → (F c ↔ F' c)) (hn : ¬ F' N) : qq u F' (N + 1) ρ' z := by
  obtain ⟨h1, h2, h3, h4, h5⟩ := h
  have en : rQn ρ' z = rQn ρ z := by unfold rQn; rw [er]
  unfold qq
  rw [en, er 0]
  refine ⟨h1, h2, fun j a b => ?_, fun c hc hF => ?_, fun i j a b c1 c2 c3 c4 c5 c6 c7 => ?_⟩
  · obtain ⟨c, q1, q2, q3⟩ := h3 j a b
    exact ⟨c, by rw [er]; exact q1, by omega, (eF c q2).mp q3⟩
  · have hne : c ≠ N := by rintro rfl; exact hn hF
    obtain ⟨j, q1, q2, q3⟩ := h4 c (by omega) ((eF c (by omega)).mpr hF)
    exact ⟨j, q1, q2, by rw [er]; exact q3⟩
  · rw [er] at c6 c7
    obtain ⟨x, x1, x2, -⟩ := h3 i c1 (by omega)
    obtain ⟨y, y1, y2, -⟩ := h3 j (by omega) c3
    obtain rfl : x = a := nI_inj (by omega) (by omega) (by rw [← x1, c6])
    obtain rfl : y = b := nI_inj (by omega) (by omega) (by rw [← y1, c7])
    exact h5 i j x y c1 c2 c3 x2 y2 c6 c7
/-- a new cab -/
theorem pR.addCab (h : pR t ag hs B σ ρ) {σ' ρ' : Mem} {n z : Nat} {s : Int32} (hn : nC σ = n) (hn10 : n < 10) (hz : z < 6) (e0 : ∀ k i f, k < 8 → k ≠ 2 → k ≠ 4 → ¬ (k = 6 ∧ i = n) → σ' k i f = σ k i f) (c2 : σ' 2 0 2 = nI (n + 1))
    (row : σ' 6 n 0 = nI n ∧ σ' 6 n 1 = s ∧ σ' 6 n 2 = nI z ∧ σ' 6 n 3 = 0 ∧ σ' 6 n 6 = -1) (e1 : ∀ k i f, 8 ≤ k → k ≤ 20 → k ≠ 10 → ¬ (k = 16 ∧ i = n) → ¬ (k = 8 ∧ f = 6) → ρ' k i f = ρ k i f) (c8 : ρ' 8 0 6 = nI (n + 1))
    (rrow : ρ' 16 n 0 = s ∧ ρ' 16 n 1 = nI z ∧ ρ' 16 n 2 = 0 ∧ ρ' 16 n 3 = -1) : pR t ag hs B σ' ρ' := by
  have h60 := h.o60
  subst hn
  have eC : nC σ' = nC σ + 1 := by unfold nC at c2 ⊢; rw [c2]; exact ix_nI (by unfold nC at hn10; omega)
  have eO : nO σ' = nO σ := by unfold nO; rw [e0 3 0 2 (by decide) (by decide) (by decide) (by omega)]
  have s6 : ∀ i f, i < nC σ → σ' 6 i f = σ 6 i f := fun i f hi => e0 6 i f (by decide) (by decide) (by decide) (by omega)
  have s7 : ∀ i f, σ' 7 i f = σ 7 i f := fun i f => e0 7 i f (by decide) (by decide) (by decide) (by omega)
  have t6 : ∀ i f, i < nC σ → ρ' 16 i f = ρ 16 i f := fun i f hi => e1 16 i f (by decide) (by decide) (by decide) (by omega) (by omega)
  have tk : ∀ k i f, 8 < k → k ≤ 20 → k ≠ 10 → k ≠ 16 → ρ' k i f = ρ k i f := fun k i f a b c d => e1 k i f (by omega) b c (by omega) (by omega)
  refine ⟨?_, fun i hi => ?_, fun i hi => ?_, ⟨fun i hi => ?_, fun i hi => ?_⟩, ?_⟩
  · unfold pA
    rw [eC, eO, c2, e0 3 0 2 (by decide) (by decide) (by decide) (by omega), c8, e1 8 0 7 (by decide) (by decide) (by decide) (by omega) (by omega), e1 8 0 8 (by decide) (by decide) (by decide) (by omega) (by omega), e0 0 0 3 (by decide) (by decide) (by decide) (by omega)]
    refine ⟨⟨rfl, h.1.1.2.1, by omega, h60⟩, ⟨rfl, h.1.2.1.2.1, fun o f ho => ?_⟩, h.1.2.2.1, fun a b ha hb => ?_⟩
    · rw [tk 19 o f (by decide) (by decide) (by decide) (by decide)]; exact h.1.2.1.2.2 o f ho
    · rw [e0 1 0 _ (by decide) (by decide) (by decide) (by omega), tk 15 a b (by decide) (by decide) (by decide) (by decide)]; exact h.1.2.2.2 a b ha hb
  · rw [eC] at hi
    by_cases e : i = nC σ
    · subst e
      obtain ⟨r0, r1, r2, r3, r6⟩ := row
      obtain ⟨k0, k1, k2, k3⟩ := rrow
      exact ⟨r0, r1.trans k0.symm, r2.trans k1.symm, r3.trans k2.symm, r6.trans k3.symm, ⟨z, hz, r2⟩⟩
    · exact (h.cab (by omega)).of (fun f => s6 i f (by omega)) (fun f => t6 i f (by omega))
  · rw [eO] at hi
    obtain ⟨x1, ⟨⟨x, k1, k2, k3⟩, b2, b3⟩, x3⟩ := h.2.2.1 i hi
    rw [eC]
    have b' : pOb (nC σ + 1) (hs i) σ ρ i := ⟨⟨x, k1, Nat.lt_of_lt_of_le k2 (Nat.pow_le_pow_right (by decide) (by omega)), k3⟩, b2, b3⟩
    exact ⟨x1.of (s7 i) (fun f => tk 17 i f (by decide) (by decide) (by decide) (by decide)), b'.of (s7 i 8) (s7 i 5) (fun f => tk 19 i f (by decide) (by decide) (by decide) (by decide)), x3.of (Nat.le_refl _) (s7 i 4) (s7 i 5) (s7 i 9) (s7 i 10)⟩
  · rw [eC] at hi
    unfold pL1
    rw [eO]
    by_cases e : i = nC σ
    · subst e
      exact Or.inl ⟨Or.inl row.2.2.2.1, row.2.2.2.2⟩
    · rw [s6 i 3 (by omega), s6 i 6 (by omega)]
      rcases h.l1 (c := i) (by omega) with q | ⟨o, ho, q1, lk⟩
      · exact Or.inl q
      · exact Or.inr ⟨o, ho, q1, lk.of (fun f => s6 i f (by omega)) (s7 o) (t6 i 4 (by omega)) (tk 19 o i (by decide) (by decide) (by decide) (by decide))⟩
  · rw [eO] at hi
    unfold pL2
    rw [eC, s7, s7]
    rcases h.l2 hi with q | ⟨j, hj, q1, q2⟩ | q | q
    · exact Or.inl q
    · exact Or.inr (Or.inl ⟨j, by omega, by rw [s6 j 6 hj]; exact q1, q2⟩)
    · exact Or.inr (Or.inr (Or.inl q))
    · exact Or.inr (Or.inr (Or.inr q))
  · obtain ⟨u, U, a1, a2, a3, a4⟩ := h.tq
    refine ⟨u, U, (e0 0 0 6 (by decide) (by decide) (by decide) (by omega)).trans a1, a2, fun c hc h3 => ?_, fun y hy => pQ_qq.mpr ?_⟩
    · rw [eC] at hc
      have e : c ≠ nC σ := by rintro rfl; rw [row.2.2.2.1] at h3; exact absurd h3 (by decide)
      rw [s6 c 3 (by omega)] at h3
      rw [s6 c 4 (by omega)]
      exact a3 c (by omega) h3
    · rw [eC]
      refine (pQ_qq.mp (a4 y hy)).grow hn10 (fun j => tk 18 y j (by decide) (by decide) (by decide) (by decide)) (fun c hc => ?_) (fun q => ?_)
      · rw [s6 c 3 hc, s6 c 2 hc]
      · have q1 := q.1
        rw [row.2.2.2.1] at q1
        exact absurd q1 (by decide)
/-- a new order -/
theorem pR.addOrd (h : pR t ag hs B σ ρ) {σ' ρ' : Mem} {m a b d : Nat} {p : Int32} (hm : nO σ = m) (hm60 : m < 60) (ha : a < 6) (hb : b < 6) (hd : d ≤ 9999) (hhs : hs m = (0, false)) (e0 : ∀ k i f, k < 8 → k ≠ 3 → k ≠ 5 → ¬ (k = 7 ∧ i = m) → σ' k i f = σ k i f) (c3 : σ' 3 0 2 = nI (m + 1))
    (row : (σ' 7 m 0 = nI m ∧ σ' 7 m 1 = nI a ∧ σ' 7 m 2 = nI b ∧ σ' 7 m 3 = p ∧ σ' 7 m 4 = nI d ∧ σ' 7 m 5 = 0 ∧ σ' 7 m 6 = -1) ∧ σ' 7 m 8 = 0 ∧ σ' 7 m 9 = -1) (e1 : ∀ k i f, 8 ≤ k → k ≤ 20 → k ≠ 11 → ¬ (k = 17 ∧ i = m) → ¬ (k = 8 ∧ f = 7) → ρ' k i f = ρ k i f) (c8 : ρ' 8 0 7 = nI (m + 1))
    (rrow : ρ' 17 m 0 = nI a ∧ ρ' 17 m 1 = nI b ∧ ρ' 17 m 2 = p ∧ ρ' 17 m 3 = nI d ∧ ρ' 17 m 4 = 0 ∧ ρ' 17 m 5 = -1) : pR t ag hs B σ' ρ' := by
  have h10 := h.c10
  have h60 := h.o60
  subst hm
  have eO : nO σ' = nO σ + 1 := by unfold nO at c3 ⊢; rw [c3]; exact ix_nI (by unfold nO at hm60; omega)
  have eC : nC σ' = nC σ := by unfold nC; rw [e0 2 0 2 (by decide) (by decide) (by decide) (by omega)]
  have s7 : ∀ i f, i < nO σ → σ' 7 i f = σ 7 i f := fun i f hi => e0 7 i f (by decide) (by decide) (by decide) (by omega)
  have s6 : ∀ i f, σ' 6 i f = σ 6 i f := fun i f => e0 6 i f (by decide) (by decide) (by decide) (by omega)
  have t7 : ∀ i f, i < nO σ → ρ' 17 i f = ρ 17 i f := fun i f hi => e1 17 i f (by decide) (by decide) (by decide) (by omega) (by omega)
  have tk : ∀ k i f, 8 < k → k ≤ 20 → k ≠ 11 → k ≠ 17 → ρ' k i f = ρ k i f := fun k i f a b c d => e1 k i f (by omega) b c (by omega) (by omega)
  refine ⟨?_, fun i hi => ?_, fun i hi => ?_, ⟨fun i hi => ?_, fun i hi => ?_⟩, h.tq.of h10 eC (e0 0 0 6 (by decide) (by decide) (by decide) (by omega)) (fun z j => tk 18 z j (by decide) (by decide) (by decide) (by decide)) (fun i hi => ?_)⟩
  · unfold pA
    rw [eC, eO, c3, e0 2 0 2 (by decide) (by decide) (by decide) (by omega), c8, e1 8 0 6 (by decide) (by decide) (by decide) (by omega) (by omega), e1 8 0 8 (by decide) (by decide) (by decide) (by omega) (by omega), e0 0 0 3 (by decide) (by decide) (by decide) (by omega)]
    refine ⟨⟨h.1.1.1, rfl, h10, by omega⟩, ⟨h.1.2.1.1, rfl, fun o f ho => ?_⟩, h.1.2.2.1, fun a b ha hb => ?_⟩
    · rw [tk 19 o f (by decide) (by decide) (by decide) (by decide)]; exact h.1.2.1.2.2 o f (by omega)
    · rw [e0 1 0 _ (by decide) (by decide) (by decide) (by omega), tk 15 a b (by decide) (by decide) (by decide) (by decide)]; exact h.1.2.2.2 a b ha hb
  · rw [eC] at hi
    exact (h.cab hi).of (s6 i) (fun f => tk 16 i f (by decide) (by decide) (by decide) (by decide))
  · rw [eO] at hi
    rw [eC]
    by_cases e : i = nO σ
    · subst e
      obtain ⟨⟨r0, r1, r2, r3, r4, r5, r6⟩, r8, r9⟩ := row
      obtain ⟨k0, k1, k2, k3, k4, k5⟩ := rrow
      refine ⟨⟨⟨r0, r1.trans k0.symm, r2.trans k1.symm, r3.trans k2.symm, r4.trans k3.symm, r5.trans k4.symm, r6.trans k5.symm⟩, ⟨a, ha, r1⟩, ⟨b, hb, r2⟩⟩, ⟨⟨0, r8, Nat.two_pow_pos _, by rw [hhs]; rfl⟩, fun x hx => ?_, fun q => ?_⟩, ⟨d, hd, r4, Or.inl r9, fun q => ?_⟩⟩
      · rw [r8, tk 19 _ x (by decide) (by decide) (by decide) (by decide), h.1.2.1.2.2 _ x (Nat.le_refl _), Int32.zero_and]
      · rw [hhs] at q; cases q
      · rw [r5] at q; exact absurd q (by decide)
    · exact ⟨(h.ord (o := i) (by omega)).of (fun f => s7 i f (by omega)) (fun f => t7 i f (by omega)), (h.bit (o := i) (by omega)).of (s7 i 8 (by omega)) (s7 i 5 (by omega)) (fun f => tk 19 i f (by decide) (by decide) (by decide) (by decide)), (h.tim (o := i) (by omega)).of (Nat.le_refl _) (s7 i 4 (by omega)) (s7 i 5 (by omega)) (s7 i 9 (by omega)) (s7 i 10 (by omega))⟩
  · rw [eC] at hi
    unfold pL1
    rw [eO, s6, s6]
    rcases h.l1 hi with q | ⟨o, ho, q1, lk⟩
    · exact Or.inl q
    · exact Or.inr ⟨o, by omega, q1, lk.of (s6 i) (fun f => s7 o f ho) (tk 16 i 4 (by decide) (by decide) (by decide) (by decide)) (tk 19 o i (by decide) (by decide) (by decide) (by decide))⟩
  · rw [eO] at hi
    unfold pL2
    rw [eC]
    by_cases e : i = nO σ
    · subst e
      exact Or.inl ⟨row.1.2.2.2.2.2.1, row.1.2.2.2.2.2.2⟩
    · rw [s7 i 5 (by omega), s7 i 6 (by omega)]
      rcases h.l2 (o := i) (by omega) with q | ⟨j, hj, q1, q2⟩ | q | q
      · exact Or.inl q
      · exact Or.inr (Or.inl ⟨j, hj, by rw [s6]; exact q1, q2⟩)
      · exact Or.inr (Or.inr (Or.inl q))
      · exact Or.inr (Or.inr (Or.inr q))
  · rw [s6, s6, s6]; exact ⟨Iff.rfl, fun _ => ⟨rfl, rfl⟩⟩
end STEPS3
