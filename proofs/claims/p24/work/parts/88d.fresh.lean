theorem Xok.wld {g g' : gG} {σ : Mem} (h : Xok g σ) (c : ∀ k, k < 8 → gcn g' k = gcn g k) (l : ∀ k, k < 8 → gln g' k = gln g k) : Xok g' σ := by
  obtain ⟨⟨⟨a0, a1, a2, a3⟩, a4, a5, a6⟩, b1, b2, b3, b4, b5, b6, b7, b8⟩ := h
  refine ⟨⟨⟨?_, ?_, ?_, ?_⟩, ?_, ?_, ?_⟩, b1, ?_, ?_, ?_, ?_, ?_, ?_, ?_⟩
  · rw [c 0 (by decide)]; exact a0
  · rw [c 1 (by decide)]; exact a1
  · rw [c 2 (by decide)]; exact a2
  · rw [c 3 (by decide)]; exact a3
  · rw [l 1 (by decide)]; exact a4
  · rw [c 6 (by decide)]; exact a5
  · rw [c 7 (by decide)]; exact a6
  · rw [c 6 (by decide), c 7 (by decide)]; exact b2
  · rw [c 6 (by decide), c 4 (by decide), l 4 (by decide)]; exact b3
  · rw [c 7 (by decide), c 5 (by decide), l 5 (by decide)]; exact b4
  · rw [c 6 (by decide)]; exact b5
  · rw [c 7 (by decide)]; exact b6
  · rw [c 6 (by decide)]; exact b7
  · rw [c 7 (by decide)]; exact b8
theorem xWv_n (j : Nat) : ∃ n, 1 ≤ n ∧ n ≤ 120 ∧ xWv j = nI n := by
  unfold xWv
  split
  · exact ⟨5, by decide, by decide, rfl⟩
  · exact ⟨10, by decide, by decide, rfl⟩
theorem xrWv : ∀ a, a < 6 → ∀ b, b < 6 → xWv (6 * a + b) = rWv a b := by decide +kernel
theorem Rr.wld {g g' : gG} {σ : Mem} (h : Rr g σ) (c : ∀ k, 8 ≤ k → k ≤ 20 → gcn g' k = gcn g k) (l : ∀ k, 8 ≤ k → k ≤ 20 → gln g' k = gln g k) : Rr g' σ := by
  obtain ⟨⟨⟨g8, gK⟩, ⟨b15, b16, b17, b18, b19, b20⟩, bl⟩, d1, d2, d3, d4⟩ := h
  refine ⟨⟨⟨(c 8 (by decide) (by decide)).trans g8, fun K h9 h14 => ⟨(c K (by omega) (by omega)).trans (gK K h9 h14).1, (congrFun (l K (by omega) (by omega)) 0).trans (gK K h9 h14).2⟩⟩, ⟨(c 15 (by decide) (by decide)).trans b15, by rw [c 16 (by decide) (by decide)]; exact b16, by rw [c 17 (by decide) (by decide)]; exact b17, (c 18 (by decide) (by decide)).trans b18, (c 19 (by decide) (by decide)).trans b19, (c 20 (by decide) (by decide)).trans b20⟩, fun K h15 h20 i hi => (congrFun (l K (by omega) (by omega)) i).trans (bl K h15 h20 i (by rw [← c K (by omega) h20]; exact hi))⟩, d1, fun K h9 h14 j hj => d2 K h9 h14 j ?_, by rw [c 16 (by decide) (by decide)]; exact d3, by rw [c 17 (by decide) (by decide)]; exact d4⟩
  have e : rTn g' K = rTn g K := by
    rcases r_K h9 h14 with rfl | rfl | rfl | rfl | rfl | rfl
    · rfl
    · exact c 16 (by decide) (by decide)
    · exact c 17 (by decide) (by decide)
    · rfl
    · rfl
    · rfl
  rw [← e]; exact hj
/-- two fresh objects -/
theorem LI.fresh {g : gG} {σ : Mem} (hX : Xok g σ) (hR : Rr g σ) (hA : LA g) (h6 : gcn g 6 = 0) (h7 : gcn g 7 = 0) (h16 : gcn g 16 = 0) (h17 : gcn g 17 = 0) (hw : ∀ j, j < 36 → σ 1 0 j = xWv j) (hw2 : ∀ a b, a < 6 → b < 6 → σ 15 a b = rWv a b) (t3 : σ 0 0 3 = 0) (t6 : σ 0 0 6 = 0) (t8 : σ 8 0 8 = 0) (h18 : ∀ z j, σ 18 z j = 0) (h19 : ∀ o c, σ 19 o c = 0) (h21 : ∀ j, σ 21 0 j = 0) (h22 : ∀ j, σ 22 0 j = 0) :
    LI g (fun _ => (0, false)) 0 0 σ ∧ IA (fun _ => (0, false)) 0 σ := by
  have eC : nC σ = 0 := by rw [hX.eC, h6]
  have eO : nO σ = 0 := by rw [hX.eO, h7]
  have e18 : ∀ z, rQn σ z = 0 := fun z => by unfold rQn; rw [h18]; rfl
  refine ⟨⟨hX, hR, ⟨⟨⟨by rw [hX.z2, hX.eC], by rw [hX.z3, hX.eO], by omega, by omega⟩, ⟨by rw [hR.nm, h16, eC], by rw [hR.na, h17, eO], fun o f _ => h19 o f⟩, ⟨by rw [t3, nI_0], by rw [t8, nI_0], by decide⟩, fun a b ha hb => ?_⟩, fun c hc => absurd hc (by omega), fun o ho => absurd ho (by omega), ⟨fun c hc => absurd hc (by omega), fun o ho => absurd ho (by omega)⟩, fun _ => 0, 0, by rw [t6, nI_0], Nat.le_refl _, fun c hc => absurd hc (by omega), fun z hz => ⟨by rw [h18, e18, nI_0], by rw [e18]; decide, fun j h1 h2 => ?_, fun c hc => absurd hc (by omega), fun i j a b h1 h2 h3 => ?_⟩⟩, fun o ho => absurd ho (by omega), hA, fun _ _ => rfl⟩, fun j hj => ⟨fun q => absurd q (Nat.not_lt_zero _), fun _ => ⟨?_, fun q => ?_⟩⟩⟩
  · obtain ⟨n, n1, n2, e⟩ := xWv_n (6 * a + b)
    exact ⟨n, n1, n2, (hw _ (by omega)).trans e, by rw [hw2 a b ha hb, ← xrWv a ha b hb]; exact e⟩
  · rw [e18] at h2; omega
  · rw [e18] at h3; omega
  · rw [h21]; exact (show (0 : Int32) = bcnt (nI 0) by decide +kernel)
  · rw [h22] at q; exact absurd (by decide) q
