theorem Xok.wld {g g' : gG} {σ : Mem} (h : Xok g σ) (c : ∀ k, k < 8 → gcn g' k = gcn g k) (l : ∀ k, k < 8 → gln g' k = gln g k) : Xok g' σ := by
  obtain ⟨⟨⟨a0, a1, a2, a3⟩, a4, a5, a6⟩, b1, b2, b3, b4, b5, b6, b7, b8⟩ := h
  refine ⟨⟨⟨?_, ?_, ?_, ?_⟩, ?_, ?_, ?_⟩, b1, ?_, ?_, ?_, ?_, ?_, ?_, ?_⟩
  · rw [c 0 (by decide)]; exact a0
  · rw [c 1 (by decide)]; exact a1
  · rw [c 2 (by decide)]; exact a2
  · rw [c 3 (by decide)]; exact a3
  · rw [l 1 (by decide)]; exact a4
  · rw [c 6 (by decide)]; exact a5
  · rw [c 7 (by decide)]; exact a6
  · rw [c 6 (by decide), c 7 (by decide)]; exact b2
  · rw [c 6 (by decide), c 4 (by decide), l 4 (by decide)]; exact b3
  · rw [c 7 (by decide), c 5 (by decide), l 5 (by decide)]; exact b4
  · rw [c 6 (by decide)]; exact b5
  · rw [c 7 (by decide)]; exact b6
  · rw [c 6 (by decide)]; exact b7
  · rw [c 7 (by decide)]; exact b8
theorem Mok.wld {g g' : gG} {σ : Mem} (h : Mok g σ) (c8 : gcn g' 8 = gcn g 8) (c9 : gcn g' 9 = gcn g 9) (l9 : gln g' 9 = gln g 9) : Mok g' σ := by
  obtain ⟨⟨a1, a2, a3, a4, a5, a6, a7⟩, h2, h3, h4, h5, h6⟩ := h
  refine ⟨⟨?_, ?_, ?_, fun i h1 h8 => ?_, ?_, ?_, ?_⟩, h2, h3, h4, ?_, h6⟩
  · rw [c8]; exact a1
  · rw [c9]; exact a2
  · rw [l9]; exact a3
  · rw [l9]; exact a4 i h1 h8
  · rw [l9]; exact a5
  · rw [l9]; exact a6
  · rw [l9]; exact a7
  · rw [c9]; exact h5
theorem xWv_n (j : Nat) : ∃ n, 1 ≤ n ∧ n ≤ 120 ∧ xWv j = nI n := by
  unfold xWv
  split
  · exact ⟨5, by decide, by decide, rfl⟩
  · exact ⟨10, by decide, by decide, rfl⟩
/-- two fresh objects -/
theorem LI.fresh {g : gG} {σ : Mem} (hX : Xok g σ) (hM : Mok g σ) (h6 : gcn g 6 = 0) (h7 : gcn g 7 = 0) (h9 : gcn g 9 = 12) (h10 : gcn g 10 = 1 ∧ gln g 10 0 = 1) (hw : ∀ j, j < 36 → σ 1 0 j = xWv j) (ht : σ 0 0 3 = 0 ∧ σ 0 0 4 = 4 ∧ σ 0 0 5 = 2 ∧ σ 0 0 6 = 0) (hn : mNew σ) : LI g σ 0 := by
  obtain ⟨⟨n1, n3, n4, n5, n12, n15⟩, nw, n9, nz⟩ := hn
  obtain ⟨t3, t4, t5, t6⟩ := ht
  have eC : nC σ = 0 := by rw [hX.eC, h6]
  have eO : nO σ = 0 := by rw [hX.eO, h7]
  have mC0 : mC σ = 0 := by unfold mC; rw [n5]; rfl
  have mO0 : mO σ = 0 := by unfold mO; rw [n15]; rfl
  refine ⟨hX, ⟨hM, fun c hc => Or.inl (n9 c hc), fun c hc hh => ?_⟩, ⟨⟨⟨by rw [eC, mC0], by rw [eO, mO0], by omega, by omega⟩, ⟨by rw [t3, n1], by rw [t4, n3], by rw [t5, n4]⟩, fun j hj => ⟨by rw [hw j hj, nw j hj], by rw [hw j hj]; exact xWv_n j⟩, 0, by omega, t3⟩, fun c hc => absurd hc (by omega), fun o ho => absurd ho (by omega), ⟨fun _ => 0, fun _ => 0, 0, 0, t6, n12, Nat.le_refl _, Nat.le_refl _, fun c hc => absurd hc (by omega), fun c d hc => absurd hc (by omega)⟩, ⟨fun c hc => absurd hc (by omega), fun o ho => absurd ho (by omega)⟩, fun c o hc => absurd hc (by omega), ⟨fun c _ hc => ?_, fun o _ ho => ?_⟩⟩, h10, by rw [eO]; exact h9⟩
  · rw [nz 3 c (by decide) (by decide) (by decide)] at hh
    rcases hh with q | q <;> exact absurd q (by decide)
  · exact ⟨nz 3 c (by decide) (by decide) (by decide), n9 c hc, nz 7 c (by decide) (by decide) (by decide), nz 8 c (by decide) (by decide) (by decide)⟩
  · exact ⟨nz 10 o (by decide) (by decide) (by decide), nz 11 _ (by decide) (by decide) (by decide), nz 11 _ (by decide) (by decide) (by decide), nz 11 _ (by decide) (by decide) (by decide), nz 11 _ (by decide) (by decide) (by decide)⟩
theorem gtg8 : ∀ (f : Nat), mRef f = none → gtg 8 f = 0
  | 0, _ => rfl
  | 1, _ => rfl
  | 2, h => absurd h (by decide)
  | 3, _ => rfl
  | 4, _ => rfl
  | 5, _ => rfl
  | 6, h => absurd h (by decide)
  | 7, h => absurd h (by decide)
  | 8, h => absurd h (by decide)
  | 9, h => absurd h (by decide)
  | 10, h => absurd h (by decide)
  | 11, h => absurd h (by decide)
  | 12, _ => rfl
  | 13, h => absurd h (by decide)
  | 14, h => absurd h (by decide)
  | 15, _ => rfl
  | 16, h => absurd h (by decide)
  | 17, h => absurd h (by decide)
  | 18, h => absurd h (by decide)
  | n + 19, _ => rfl
theorem gDef8 (f : Nat) (h : mRef f = none) : gDef 8 f = 0 := by
  have e : gtg 8 f = 0 := gtg8 f h
  unfold gDef
  exact if_pos e
