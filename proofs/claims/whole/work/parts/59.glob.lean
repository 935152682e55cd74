section GLOB
variable {B : Nat} {σ μ σ' μ' : Mem}
/-- neither cabs nor orders are others -/
theorem rlR.glob (h : rlR B σ μ) (eC : nC σ' = nC σ) (eO : nO σ' = nO σ) (hA : rlA σ' μ') (s6 : ∀ i f, σ' 6 i f = σ 6 i f) (s7 : ∀ i f, σ' 7 i f = σ 7 i f) (s06 : σ' 0 0 6 = σ 0 0 6) (t9 : ∀ i j, i ≠ 0 → i < 12 → μ' 9 i j = μ 9 i j) (t12 : μ' 8 0 12 = μ 8 0 12) : rlR B σ' μ' := by
  have tT : ∀ o k, mT μ' o k = mT μ o k := fun o k => t9 9 _ (by decide) (by decide)
  obtain ⟨-, hC, hO, hT, hL, hM, hN⟩ := h
  refine ⟨hA, fun i hi => ?_, fun i hi => ?_, hT.of eC s06 t12 (fun i hi q => ⟨by rw [← s6]; exact q, s6 i 4, t9 6 i (by decide) (by decide)⟩), ⟨fun i hi => ?_, fun i hi => ?_⟩, fun i j hi hj hl => ?_, ⟨fun i hi hi2 => ?_, fun i hi hi2 => ?_⟩⟩
  · rw [eC] at hi
    exact rlCr.of (hC i hi) (fun f => s6 i f) (fun k a b => t9 k i (by omega) (by omega))
  · rw [eO] at hi
    exact rlOr.of (hO i hi) (fun f => s7 i f) (fun k _ => tT i k) (t9 10 i (by decide) (by decide)) (fun j _ => t9 11 _ (by decide) (by decide))
  · rw [eC] at hi
    rw [s6, s6, eO]
    rcases hL.1 i hi with q | q | ⟨j, hj, r1, r2, r3, r4⟩
    · exact Or.inl q
    · exact Or.inr (Or.inl q)
    · exact Or.inr (Or.inr ⟨j, hj, r1, by rw [s7]; exact r2, r3, by rw [s7]; exact r4⟩)
  · rw [eO] at hi
    rw [s7, s7, eC]
    rcases hL.2 i hi with q | ⟨j, hj, r1, r2, r3, r4⟩ | q | q
    · exact Or.inl q
    · exact Or.inr (Or.inl ⟨j, hj, r1, by rw [s6]; exact r2, r3, by rw [s6]; exact r4⟩)
    · exact Or.inr (Or.inr (Or.inl q))
    · exact Or.inr (Or.inr (Or.inr q))
  · rw [eC] at hi
    rw [eO] at hj
    rw [s6] at hl
    rw [s6, s6, s7, s7, t9 5 i (by decide) (by decide)]
    exact hM i j hi hj hl
  · rw [eC] at hi
    rw [t9 3 i (by decide) (by decide), t9 4 i (by decide) (by decide), t9 7 i (by decide) (by decide), t9 8 i (by decide) (by decide)]
    exact hN.1 i hi hi2
  · rw [eO] at hi
    rw [t9 10 i (by decide) (by decide), t9 11 _ (by decide) (by decide), t9 11 _ (by decide) (by decide), t9 11 _ (by decide) (by decide), t9 11 _ (by decide) (by decide)]
    exact hN.2 i hi hi2
/-- the relation looks at these places alone -/
theorem rlR.congr (h : rlR B σ μ) (s0 : ∀ f, σ' 0 0 f = σ 0 0 f) (s1 : ∀ j, σ' 1 0 j = σ 1 0 j) (s2 : σ' 2 0 2 = σ 2 0 2) (s3 : σ' 3 0 2 = σ 3 0 2) (s6 : ∀ i f, σ' 6 i f = σ 6 i f) (s7 : ∀ i f, σ' 7 i f = σ 7 i f) (t8 : ∀ f, f ≠ 0 → μ' 8 0 f = μ 8 0 f) (t9 : ∀ i j, i < 12 → μ' 9 i j = μ 9 i j) : rlR B σ' μ' := by
  refine h.glob (by unfold nC; rw [s2]) (by unfold nO; rw [s3]) ?_ s6 s7 (s0 6) (fun i j _ q => t9 i j q) (t8 12 (by decide))
  have eC : nC σ' = nC σ := by unfold nC; rw [s2]
  have eO : nO σ' = nO σ := by unfold nO; rw [s3]
  have fC : mC μ' = mC μ := by unfold mC; rw [t8 5 (by decide)]
  have fO : mO μ' = mO μ := by unfold mO; rw [t8 15 (by decide)]
  obtain ⟨⟨a1, a2, a3, a4⟩, ⟨b1, b2, b3⟩, c1, d1⟩ := h.1
  exact ⟨⟨by rw [eC, fC]; exact a1, by rw [eO, fO]; exact a2, by rw [eC]; exact a3, by rw [eO]; exact a4⟩, ⟨by rw [s0, t8 1 (by decide)]; exact b1, by rw [s0, t8 3 (by decide)]; exact b2, by rw [s0, t8 4 (by decide)]; exact b3⟩, fun j hj => by rw [s1, t9 0 j (by decide)]; exact c1 j hj, by rw [s0]; exact d1⟩
/-- a minute passes on the clock -/
theorem rlR.time (h : rlR B σ μ) {t : Nat} (ht : σ 0 0 3 = nI t) (hlt : t < 9999) : rlR B (gst σ 0 0 3 (σ 0 0 3 + 1)) (gst μ 8 0 1 (μ 8 0 1 + 1)) := by
  obtain ⟨⟨a1, a2, a3, a4⟩, ⟨b1, b2, b3⟩, c1, d1⟩ := h.1
  refine h.glob (nC_g (by decide)) (nO_g (by decide)) ⟨⟨?_, ?_, ?_, ?_⟩, ⟨?_, ?_, ?_⟩, fun j hj => ?_, ⟨t + 1, by omega, ?_⟩⟩ (fun i f => gst_nk (by decide)) (fun i f => gst_nk (by decide)) (gst_nf (by decide)) (fun i j _ _ => gst_nk (by decide)) (gst_nf (by decide))
  · rw [nC_g (by decide), mC_1]; exact a1
  · rw [nO_g (by decide)]; rw [show mO (gst μ 8 0 1 (μ 8 0 1 + 1)) = mO μ from by unfold mO; rw [gst_nf (by decide)]]; exact a2
  · rw [nC_g (by decide)]; exact a3
  · rw [nO_g (by decide)]; exact a4
  · rw [gst_eq, gst_eq, b1]
  · rw [gst_nf (by decide), gst_nf (by decide)]; exact b2
  · rw [gst_nf (by decide), gst_nf (by decide)]; exact b3
  · rw [gst_nk (by decide), gst_nk (by decide)]; exact c1 j hj
  · rw [gst_eq, ht]; exact nI_1 t
theorem rlR.rates (h : rlR B σ μ) {a b : Int32} : rlR B (gst (gst σ 0 0 4 a) 0 0 5 b) (gst (gst μ 8 0 3 a) 8 0 4 b) := by
  obtain ⟨⟨a1, a2, a3, a4⟩, ⟨b1, b2, b3⟩, c1, d1⟩ := h.1
  refine h.glob (by simp [nC, gst_app]) (by simp [nO, gst_app]) ⟨⟨?_, ?_, ?_, ?_⟩, ⟨?_, ?_, ?_⟩, fun j hj => ?_, ?_⟩ (fun i f => by simp [gst_app]) (fun i f => by simp [gst_app]) (by simp [gst_app]) (fun i j _ _ => by simp [gst_app]) (by simp [gst_app])
  · simpa [nC, mC, gst_app] using a1
  · simpa [nO, mO, gst_app] using a2
  · simpa [nC, gst_app] using a3
  · simpa [nO, gst_app] using a4
  · simpa [gst_app] using b1
  · simp [gst_app]
  · simp [gst_app]
  · simpa [gst_app] using c1 j hj
  · simpa [gst_app] using d1
/-- a way -/
theorem rlR.putWay (h : rlR B σ μ) {j n : Nat} (hj : j < 36) (h1 : 1 ≤ n) (h2 : n ≤ 120) : rlR B (gst σ 1 0 j (nI n)) (gst μ 9 0 j (nI n)) := by
  obtain ⟨⟨a1, a2, a3, a4⟩, ⟨b1, b2, b3⟩, c1, d1⟩ := h.1
  refine h.glob (by simp [nC, gst_app]) (by simp [nO, gst_app]) ⟨⟨?_, ?_, ?_, ?_⟩, ⟨?_, ?_, ?_⟩, fun i hi => ?_, ?_⟩ (fun i f => by simp [gst_app]) (fun i f => by simp [gst_app]) (by simp [gst_app]) (fun i j hi _ => by simp [gst_app, hi]) (by simp [gst_app])
  · simpa [nC, mC, gst_app] using a1
  · simpa [nO, mO, gst_app] using a2
  · simpa [nC, gst_app] using a3
  · simpa [nO, gst_app] using a4
  · simpa [gst_app] using b1
  · simpa [gst_app] using b2
  · simpa [gst_app] using b3
  · by_cases e : i = j
    · subst e
      rw [gst_eq, gst_eq]
      exact ⟨rfl, n, h1, h2, rfl⟩
    · rw [gst_nf e, gst_nf e]
      exact c1 i hi
  · simpa [gst_app] using d1
/-- an order that waits is cancelled -/
theorem rlR.cancel0 (h : rlR B σ μ) {o : Nat} (ho : o < nO σ) (hs : σ 7 o 5 = 0) : rlR B (gst σ 7 o 5 5) (gst (gst μ 9 9 (8 * o + 4) 5) 9 9 (8 * o + 5) (-1)) := by
  have h60 := h.o60
  have h10 := h.c10
  have hcab : σ 7 o 6 = -1 := by
    rcases h.2.2.2.2.1.2 o ho with ⟨-, q⟩ | ⟨c, hc, -, -, r3, -⟩ | q | q
    · exact q
    · rw [hs] at r3; exact absurd r3 (by decide)
    · rw [hs] at q; exact absurd q (by decide)
    · rw [hs] at q; exact absurd q (by decide)
  have d1 : ∀ i j, i < nC σ → j < nO σ → σ 6 i 6 = nI j → j ≠ o := by
    rintro i j hi hj e rfl
    obtain ⟨-, -, r3, r4⟩ := h.lc hi (by omega) e
    rw [hs] at r4; rw [← r4] at r3; exact absurd r3 (by decide)
  have eC : nC (gst σ 7 o 5 5) = nC σ := nC_g (by decide)
  have eO : nO (gst σ 7 o 5 5) = nO σ := nO_g (by decide)
  have s6 : ∀ i f, gst σ 7 o 5 5 6 i f = σ 6 i f := fun i f => gst_nk (by decide)
  have s7 : ∀ i f, i ≠ o → gst σ 7 o 5 5 7 i f = σ 7 i f := fun i f hi => gst_ni hi
  obtain ⟨⟨a0, a1, a2, a3, a4, a5, a6, a9, a10⟩, b8, ⟨b11, b12, b13, b14⟩, z1, z2⟩ := h.ord ho
  have tT : ∀ i k, k < 8 → i ≠ o → mT (gst (gst μ 9 9 (8 * o + 4) 5) 9 9 (8 * o + 5) (-1)) i k = mT μ i k := fun i k hk hi => by simp [mT_t, hk, hi]
  refine ⟨h.1.of (fun f _ => gst_nk (by decide)) (fun j => gst_nk (by decide)) (gst_nk (by decide)) (gst_nk (by decide)) (fun f _ => by simp [gst_app]) (fun j => by simp [gst_app]), fun i hi => ?_, fun i hi => ?_, h.2.2.2.1.of eC (gst_nk (by decide)) (by simp [gst_app]) (fun i hi q => ⟨by rw [← s6]; exact q, s6 i 4, by simp [gst_app]⟩), ⟨fun i hi => ?_, fun i hi => ?_⟩, fun i j hi hj hl => ?_, ⟨fun i hi hi2 => ?_, fun i hi hi2 => ?_⟩⟩
  · rw [eC] at hi
    exact rlCr.of (h.2.1 i hi) (fun f => s6 i f) (fun k a b => gst_ni (by omega) |>.trans (gst_ni (by omega)))
  · rw [eO] at hi
    by_cases e : i = o
    · subst e
      exact ⟨⟨by simpa [gst_app] using a0, by simpa [gst_app, mT_t] using a1, by simpa [gst_app, mT_t] using a2, by simpa [gst_app, mT_t] using a3, by simpa [gst_app, mT_t] using a4, by simp [gst_app, mT_t], by simpa [gst_app, mT_t] using hcab, by simpa [gst_app, mT_t] using a9, by simpa [gst_app, mT_t] using a10⟩, by simpa [gst_app] using b8, ⟨by simpa [gst_app] using b11, by simpa [gst_app] using b12, by simpa [gst_app] using b13, by simpa [gst_app] using b14⟩, by simpa [gst_app] using z1, by simpa [gst_app] using z2⟩
    · exact rlOr.of (h.2.2.1 i hi) (fun f => s7 i f e) (fun k hk => tT i k hk e) (by simp [gst_app]) (fun j hj => by simp [gst_app])
  · rw [eC] at hi
    rw [s6, s6, eO]
    rcases h.2.2.2.2.1.1 i hi with q | q | ⟨j, hj, r1, r2, r3, r4⟩
    · exact Or.inl q
    · exact Or.inr (Or.inl q)
    · have hne := d1 i j hi hj r1
      exact Or.inr (Or.inr ⟨j, hj, r1, by rw [s7 j 6 hne]; exact r2, r3, by rw [s7 j 5 hne]; exact r4⟩)
  · rw [eO] at hi
    rw [eC]
    by_cases e : i = o
    · subst e
      exact Or.inr (Or.inr (Or.inr (gst_eq _ _ _ _ _)))
    · rw [s7 i 5 e, s7 i 6 e]
      rcases h.2.2.2.2.1.2 i hi with q | ⟨j, hj, r1, r2, r3, r4⟩ | q | q
      · exact Or.inl q
      · exact Or.inr (Or.inl ⟨j, hj, r1, by rw [s6]; exact r2, r3, by rw [s6]; exact r4⟩)
      · exact Or.inr (Or.inr (Or.inl q))
      · exact Or.inr (Or.inr (Or.inr q))
  · rw [eC] at hi
    rw [eO] at hj
    rw [s6] at hl
    have hne := d1 i j hi hj hl
    rw [s6, s6, s7 j 7 hne, s7 j 4 hne, show gst (gst μ 9 9 (8 * o + 4) 5) 9 9 (8 * o + 5) (-1) 9 5 i = μ 9 5 i from by simp [gst_app]]
    exact h.2.2.2.2.2.1 i j hi hj hl
  · rw [eC] at hi
    have := h.2.2.2.2.2.2.1 i hi hi2
    simpa [gst_app] using this
  · rw [eO] at hi
    have := h.2.2.2.2.2.2.2 i hi hi2
    simpa [gst_app] using this
end GLOB
