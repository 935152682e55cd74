/-- a cab's row, an order's row -/
def rlCr (σ μ : Mem) (c : Nat) : Prop := σ 6 c 0 = nI c ∧ σ 6 c 1 = μ 9 1 c ∧ σ 6 c 2 = μ 9 2 c ∧ σ 6 c 3 = μ 9 3 c ∧ σ 6 c 6 = μ 9 4 c ∧ σ 6 c 7 = μ 9 7 c ∧ σ 6 c 8 = μ 9 8 c ∧ mZ (σ 6 c 2)
def rlOr (σ μ : Mem) (o : Nat) : Prop := (σ 7 o 0 = nI o ∧ σ 7 o 1 = mT μ o 0 ∧ σ 7 o 2 = mT μ o 1 ∧ σ 7 o 3 = mT μ o 2 ∧ σ 7 o 4 = mT μ o 3 ∧ σ 7 o 5 = mT μ o 4 ∧ σ 7 o 6 = mT μ o 5 ∧ σ 7 o 9 = mT μ o 6 ∧ σ 7 o 10 = mT μ o 7) ∧
  σ 7 o 8 = μ 9 10 o ∧ (σ 7 o 11 = μ 9 11 (4 * o) ∧ σ 7 o 12 = μ 9 11 (4 * o + 1) ∧ σ 7 o 13 = μ 9 11 (4 * o + 2) ∧ σ 7 o 14 = μ 9 11 (4 * o + 3)) ∧ mZ (σ 7 o 1) ∧ mZ (σ 7 o 2)
theorem rlCr.of {σ μ σ' μ' : Mem} {c : Nat} (h : rlCr σ μ c) (s : ∀ f, σ' 6 c f = σ 6 c f) (t : ∀ i, 1 ≤ i → i ≤ 8 → μ' 9 i c = μ 9 i c) : rlCr σ' μ' c := by
  unfold rlCr
  rw [s, s, s, s, s, s, s, t 1 (by decide) (by decide), t 2 (by decide) (by decide), t 3 (by decide) (by decide), t 4 (by decide) (by decide), t 7 (by decide) (by decide), t 8 (by decide) (by decide)]
  exact h
theorem rlOr.of {σ μ σ' μ' : Mem} {o : Nat} (h : rlOr σ μ o) (s : ∀ f, σ' 7 o f = σ 7 o f) (tT : ∀ k, k < 8 → mT μ' o k = mT μ o k) (t10 : μ' 9 10 o = μ 9 10 o) (t11 : ∀ j, j < 4 → μ' 9 11 (4 * o + j) = μ 9 11 (4 * o + j)) : rlOr σ' μ' o := by
  have e0 : μ' 9 11 (4 * o) = μ 9 11 (4 * o) := t11 0 (by decide)
  unfold rlOr
  rw [s, s, s, s, s, s, s, s, s, s, s, s, s, s, tT 0 (by decide), tT 1 (by decide), tT 2 (by decide), tT 3 (by decide), tT 4 (by decide), tT 5 (by decide), tT 6 (by decide), tT 7 (by decide), t10, e0, t11 1 (by decide), t11 2 (by decide), t11 3 (by decide)]
  exact h
section UPD
variable {B B' : Nat} {σ μ σ' μ' : Mem}
/-- a cab and an order that have to do with each other, or are to -/
theorem rlR.upd (h : rlR B σ μ) {c o : Nat} (hc : c < nC σ) (ho : o < nO σ) (w6 : σ 6 c 6 = nI o ∨ σ 6 c 6 = -1) (w7 : σ 7 o 6 = nI c ∨ ¬ (σ 7 o 5 = 1 ∨ σ 7 o 5 = 2 ∨ σ 7 o 5 = 3))
    (eC : nC σ' = nC σ) (eO : nO σ' = nO σ) (hA : rlA σ' μ')
    (s6 : ∀ i f, i ≠ c → σ' 6 i f = σ 6 i f) (s7 : ∀ i f, i ≠ o → σ' 7 i f = σ 7 i f) (t9 : ∀ i k, 1 ≤ i → i ≤ 8 → k ≠ c → μ' 9 i k = μ 9 i k) (tT : ∀ i k, k < 8 → i ≠ o → mT μ' i k = mT μ i k) (t10 : ∀ i, i ≠ o → μ' 9 10 i = μ 9 10 i) (t11 : ∀ i j, j < 4 → i ≠ o → μ' 9 11 (4 * i + j) = μ 9 11 (4 * i + j))
    (hCc : rlCr σ' μ' c) (hOo : rlOr σ' μ' o) (hT : rlT B' σ' μ')
    (hL : (σ' 6 c 6 = -1 ∧ (σ' 6 c 3 = 0 ∨ σ' 6 c 3 = 1) ∧ ((σ' 7 o 5 = 0 ∧ σ' 7 o 6 = -1) ∨ σ' 7 o 5 = 4 ∨ σ' 7 o 5 = 5)) ∨ (σ' 6 c 6 = nI o ∧ σ' 7 o 6 = nI c ∧ (σ' 6 c 3 = 1 ∨ σ' 6 c 3 = 2 ∨ σ' 6 c 3 = 3) ∧ σ' 7 o 5 = σ' 6 c 3))
    (hM : σ' 6 c 6 = nI o → (σ' 6 c 3 = 1 → μ' 9 5 c = σ' 7 o 7) ∧ (σ' 6 c 3 = 2 → σ' 6 c 5 = xMx (μ' 9 5 c) (σ' 7 o 4)) ∧ (σ' 6 c 3 = 3 → σ' 6 c 5 = μ' 9 5 c)) : rlR B' σ' μ' := by
  have h60 := h.o60
  have h10 := h.c10
  -- another cab's order is another order
  have d1 : ∀ i j, i < nC σ → i ≠ c → j < nO σ → σ 6 i 6 = nI j → j ≠ o := by
    rintro i j hi hne hj e rfl
    obtain ⟨-, r2, r3, r4⟩ := h.lc hi (by omega) e
    rcases w7 with q | q
    · exact hne (nI_inj (by omega) (by omega) (by rw [← r2, q]))
    · rw [← r4] at r3; exact q r3
  have d2 : ∀ i j, i < nO σ → i ≠ o → j < nC σ → σ 6 j 6 = nI i → j ≠ c := by
    rintro i j hi hne hj e rfl
    rcases w6 with q | q
    · exact hne (nI_inj (by omega) (by omega) (by rw [← e, q]))
    · rw [q] at e; exact absurd e.symm (nI_nm (by omega))
  refine ⟨hA, fun i hi => ?_, fun i hi => ?_, hT, ⟨fun i hi => ?_, fun i hi => ?_⟩, fun i j hi hj hl => ?_, ⟨fun i hi hi2 => ?_, fun i hi hi2 => ?_⟩⟩
  · rw [eC] at hi
    by_cases e : i = c
    · subst e; exact hCc
    · exact rlCr.of (h.2.1 i hi) (fun f => s6 i f e) (fun k a b => t9 k i a b e)
  · rw [eO] at hi
    by_cases e : i = o
    · subst e; exact hOo
    · exact rlOr.of (h.2.2.1 i hi) (fun f => s7 i f e) (fun k hk => tT i k hk e) (t10 i e) (fun j hj => t11 i j hj e)
  · rw [eC] at hi
    rw [eO]
    by_cases e : i = c
    · subst e
      rcases hL with ⟨q1, q2, -⟩ | ⟨q1, q2, q3, q4⟩
      · rcases q2 with q2 | q2
        · exact Or.inl ⟨q2, q1⟩
        · exact Or.inr (Or.inl ⟨q2, q1⟩)
      · exact Or.inr (Or.inr ⟨o, ho, q1, q2, q3, q4⟩)
    · rw [s6 i 3 e, s6 i 6 e]
      rcases h.2.2.2.2.1.1 i hi with q | q | ⟨j, hj, r1, r2, r3, r4⟩
      · exact Or.inl q
      · exact Or.inr (Or.inl q)
      · have hne := d1 i j hi e hj r1
        exact Or.inr (Or.inr ⟨j, hj, r1, by rw [s7 j 6 hne]; exact r2, r3, by rw [s7 j 5 hne]; exact r4⟩)
  · rw [eO] at hi
    rw [eC]
    by_cases e : i = o
    · subst e
      rcases hL with ⟨q1, q2, q3⟩ | ⟨q1, q2, q3, q4⟩
      · rcases q3 with q3 | q3 | q3
        · exact Or.inl q3
        · exact Or.inr (Or.inr (Or.inl q3))
        · exact Or.inr (Or.inr (Or.inr q3))
      · exact Or.inr (Or.inl ⟨c, hc, q2, q1, by rw [q4]; exact q3, q4⟩)
    · rw [s7 i 5 e, s7 i 6 e]
      rcases h.2.2.2.2.1.2 i hi with q | ⟨j, hj, r1, r2, r3, r4⟩ | q | q
      · exact Or.inl q
      · have hne := d2 i j hi e hj r2
        exact Or.inr (Or.inl ⟨j, hj, r1, by rw [s6 j 6 hne]; exact r2, r3, by rw [s6 j 3 hne]; exact r4⟩)
      · exact Or.inr (Or.inr (Or.inl q))
      · exact Or.inr (Or.inr (Or.inr q))
  · rw [eC] at hi
    rw [eO] at hj
    by_cases e : i = c
    · subst e
      have ej : j = o := by
        rcases hL with ⟨q1, -⟩ | ⟨q1, -⟩
        · rw [q1] at hl; exact absurd hl.symm (nI_nm (by omega))
        · exact nI_inj (by omega) (by omega) (by rw [← hl, q1])
      subst ej
      exact hM hl
    · rw [s6 i 6 e] at hl
      have hne := d1 i j hi e hj hl
      rw [s6 i 3 e, s6 i 5 e, s7 j 7 hne, s7 j 4 hne, t9 5 i (by decide) (by decide) e]
      exact h.2.2.2.2.2.1 i j hi hj hl
  · rw [eC] at hi
    have e : i ≠ c := by omega
    rw [t9 3 i (by decide) (by decide) e, t9 4 i (by decide) (by decide) e, t9 7 i (by decide) (by decide) e, t9 8 i (by decide) (by decide) e]
    exact h.2.2.2.2.2.2.1 i hi hi2
  · rw [eO] at hi
    have e : i ≠ o := by omega
    have e0 : μ' 9 11 (4 * i) = μ 9 11 (4 * i) := t11 i 0 (by decide) e
    rw [t10 i e, e0, t11 i 1 (by decide) e, t11 i 2 (by decide) e, t11 i 3 (by decide) e]
    exact h.2.2.2.2.2.2.2 i hi hi2
/-- a cab that has to do with no order -/
theorem rlR.updC (h : rlR B σ μ) {c : Nat} (hc : c < nC σ) (w6 : σ 6 c 6 = -1)
    (eC : nC σ' = nC σ) (eO : nO σ' = nO σ) (hA : rlA σ' μ')
    (s6 : ∀ i f, i ≠ c → σ' 6 i f = σ 6 i f) (s7 : ∀ i f, σ' 7 i f = σ 7 i f) (t9 : ∀ i k, 1 ≤ i → i ≤ 8 → k ≠ c → μ' 9 i k = μ 9 i k) (tT : ∀ i k, k < 8 → mT μ' i k = mT μ i k) (t10 : ∀ i, μ' 9 10 i = μ 9 10 i) (t11 : ∀ j, μ' 9 11 j = μ 9 11 j)
    (hCc : rlCr σ' μ' c) (hT : rlT B' σ' μ') (hL : σ' 6 c 6 = -1 ∧ (σ' 6 c 3 = 0 ∨ σ' 6 c 3 = 1)) : rlR B' σ' μ' := by
  have h60 := h.o60
  have h10 := h.c10
  have d2 : ∀ i j, i < nO σ → j < nC σ → σ 6 j 6 = nI i → j ≠ c := by
    rintro i j hi hj e rfl
    rw [w6] at e; exact absurd e.symm (nI_nm (by omega))
  refine ⟨hA, fun i hi => ?_, fun i hi => ?_, hT, ⟨fun i hi => ?_, fun i hi => ?_⟩, fun i j hi hj hl => ?_, ⟨fun i hi hi2 => ?_, fun i hi hi2 => ?_⟩⟩
  · rw [eC] at hi
    by_cases e : i = c
    · subst e; exact hCc
    · exact rlCr.of (h.2.1 i hi) (fun f => s6 i f e) (fun k a b => t9 k i a b e)
  · rw [eO] at hi
    exact rlOr.of (h.2.2.1 i hi) (fun f => s7 i f) (fun k hk => tT i k hk) (t10 i) (fun j hj => t11 _)
  · rw [eC] at hi
    rw [eO]
    by_cases e : i = c
    · subst e
      rcases hL with ⟨q1, q2 | q2⟩
      · exact Or.inl ⟨q2, q1⟩
      · exact Or.inr (Or.inl ⟨q2, q1⟩)
    · rw [s6 i 3 e, s6 i 6 e]
      rcases h.2.2.2.2.1.1 i hi with q | q | ⟨j, hj, r1, r2, r3, r4⟩
      · exact Or.inl q
      · exact Or.inr (Or.inl q)
      · exact Or.inr (Or.inr ⟨j, hj, r1, by rw [s7 j 6]; exact r2, r3, by rw [s7 j 5]; exact r4⟩)
  · rw [eO] at hi
    rw [eC, s7 i 5, s7 i 6]
    rcases h.2.2.2.2.1.2 i hi with q | ⟨j, hj, r1, r2, r3, r4⟩ | q | q
    · exact Or.inl q
    · have hne := d2 i j hi hj r2
      exact Or.inr (Or.inl ⟨j, hj, r1, by rw [s6 j 6 hne]; exact r2, r3, by rw [s6 j 3 hne]; exact r4⟩)
    · exact Or.inr (Or.inr (Or.inl q))
    · exact Or.inr (Or.inr (Or.inr q))
  · rw [eC] at hi
    rw [eO] at hj
    by_cases e : i = c
    · subst e
      rw [hL.1] at hl; exact absurd hl.symm (nI_nm (by omega))
    · rw [s6 i 6 e] at hl
      rw [s6 i 3 e, s6 i 5 e, s7 j 7, s7 j 4, t9 5 i (by decide) (by decide) e]
      exact h.2.2.2.2.2.1 i j hi hj hl
  · rw [eC] at hi
    have e : i ≠ c := by omega
    rw [t9 3 i (by decide) (by decide) e, t9 4 i (by decide) (by decide) e, t9 7 i (by decide) (by decide) e, t9 8 i (by decide) (by decide) e]
    exact h.2.2.2.2.2.2.1 i hi hi2
  · rw [eO] at hi
    rw [t10, t11, t11, t11, t11]
    exact h.2.2.2.2.2.2.2 i hi hi2
end UPD
