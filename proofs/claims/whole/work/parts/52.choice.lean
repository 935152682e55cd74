section CHOICE
variable {B : Nat} {σ μ : Mem}
theorem xCan_1 {o c : Nat} (h : xCan σ o c = true) : σ 6 c 3 = 1 ∧ σ 6 c 6 = -1 := by
  unfold xCan at h
  split at h
  · next hi =>
    unfold xIdle at hi
    split at hi
    · next h1 =>
      split at hi
      · next h2 => exact ⟨h1, h2⟩
      · cases hi
    · cases hi
  · cases h
theorem rlR.cf (h : rlR B σ μ) (hB : B < 2 ^ 31) {o : Nat} (ho : o < nO σ) : xCabFor σ o = mCf μ o := by
  obtain ⟨⟨-, f1, -⟩, -, -, ma, -⟩ := h.ord ho
  have h10 := h.c10
  unfold xCabFor mCf
  rw [← h.ec]
  have go : ∀ (r k : Nat) (best rk : Int32), k + r = nC σ → (best = -1 ∨ ∃ b, b < k ∧ best = nI b ∧ σ 6 b 3 = 1 ∧ rk = xRank σ (σ 6 b 2) (σ 7 o 1)) → xCfGo σ o r k best rk = mCfGo μ o r k best := by
    intro r
    induction r with
    | zero => intro k best rk _ _; rfl
    | succ r ih =>
      intro k best rk hk hb
      have hkc : k < nC σ := by omega
      have hb1 : best = -1 ∨ ∃ b, b < k + 1 ∧ best = nI b ∧ σ 6 b 3 = 1 ∧ rk = xRank σ (σ 6 b 2) (σ 7 o 1) := hb.imp id (fun ⟨b, x, y⟩ => ⟨b, by omega, y⟩)
      simp only [xCfGo, mCfGo]
      rw [← h.can ho hkc, ← f1]
      by_cases c1 : xCan σ o k = true
      · have hk1 := (xCan_1 c1).1
        rw [if_pos c1, if_pos c1]
        have htake : xCfGo σ o r (k + 1) (nI k) (xRank σ (σ 6 k 2) (σ 7 o 1)) = mCfGo μ o r (k + 1) (nI k) := ih (k + 1) _ _ (by omega) (Or.inr ⟨k, by omega, rfl, hk1, rfl⟩)
        have hkeep := ih (k + 1) best rk (by omega) hb1
        by_cases c2 : best = -1
        · rw [if_pos c2, if_pos c2]; exact htake
        · obtain ⟨b, hb2, eb, hb3, erk⟩ := hb.resolve_left c2
          have hix : ix best = b := by rw [eb, ix_nI (by omega)]
          have hn := h.near hB hkc (b := b) (by omega) hk1 hb3 ma
          rw [if_neg c2, if_neg c2, hix]
          by_cases c3 : xRank σ (σ 6 k 2) (σ 7 o 1) < rk
          · rw [if_pos c3, if_pos (hn.mpr (Or.inl (by rw [← erk]; exact c3)))]; exact htake
          · rw [if_neg c3]
            by_cases c4 : xRank σ (σ 6 k 2) (σ 7 o 1) = rk
            · rw [if_pos c4]
              by_cases c5 : σ 6 b 4 ≤ σ 6 k 4
              · rw [if_pos c5, if_neg (fun z => (hn.mp z).elim (fun q => c3 (by rw [erk]; exact q)) (fun q => q.2 c5))]; exact hkeep
              · rw [if_neg c5, if_pos (hn.mpr (Or.inr ⟨c4.trans erk, c5⟩))]; exact htake
            · rw [if_neg c4, if_neg (fun z => (hn.mp z).elim (fun q => c3 (by rw [erk]; exact q)) (fun q => c4 (by rw [erk]; exact q.1)))]; exact hkeep
      · rw [if_neg c1, if_neg c1]
        exact ih (k + 1) best rk (by omega) hb1
  exact go (nC σ) 0 (-1) 0 (by omega) (Or.inl rfl)
theorem rlR.best (h : rlR B σ μ) (hB : B < 2 ^ 31) : (xNx σ).1 = mBest μ ∧ ((xNx σ).1 = -1 ∨ ∃ o, o < nO σ ∧ (xNx σ).1 = nI o ∧ (xNx σ).2 = xCabFor σ o ∧ ¬ xCabFor σ o = -1) := by
  have h60 := h.o60
  unfold xNx mBest
  rw [← h.eo]
  have go : ∀ (r k : Nat) (nx ch : Int32), k + r = nO σ → (nx = -1 ∨ ∃ o, o < k ∧ nx = nI o ∧ ch = xCabFor σ o ∧ ¬ xCabFor σ o = -1) →
      (xNxGo σ r k nx ch).1 = mBeGo μ r k nx ∧ ((xNxGo σ r k nx ch).1 = -1 ∨ ∃ o, o < k + r ∧ (xNxGo σ r k nx ch).1 = nI o ∧ (xNxGo σ r k nx ch).2 = xCabFor σ o ∧ ¬ xCabFor σ o = -1) := by
    intro r
    induction r with
    | zero => intro k nx ch _ hb; exact ⟨rfl, hb⟩
    | succ r ih =>
      intro k nx ch hk hb
      have hko : k < nO σ := by omega
      obtain ⟨⟨-, -, -, -, f4, f5, -⟩, -⟩ := h.ord hko
      have hb1 : nx = -1 ∨ ∃ o, o < k + 1 ∧ nx = nI o ∧ ch = xCabFor σ o ∧ ¬ xCabFor σ o = -1 := hb.imp id (fun ⟨o, x, y⟩ => ⟨o, by omega, y⟩)
      have ek : k + (r + 1) = k + 1 + r := by omega
      rw [ek]
      have hkeep := ih (k + 1) nx ch (by omega) hb1
      simp only [xNxGo, mBeGo, xLook]
      rw [← f5, ← f4, ← h.now, ← h.cf hB hko]
      by_cases c1 : σ 7 k 5 = 0
      · by_cases c2 : σ 0 0 3 < σ 7 k 4 - 15
        · simp only [c1, if_true, if_pos c2, Bool.false_eq_true, if_false]; exact hkeep
        · simp only [c1, if_true, if_neg c2]
          by_cases c3 : xCabFor σ k = -1
          · simp only [if_pos c3]
            split
            · exact hkeep
            · split
              · exact hkeep
              · exact hkeep
          · have htake := ih (k + 1) (nI k) (xCabFor σ k) (by omega) (Or.inr ⟨k, by omega, rfl, rfl, c3⟩)
            simp only [if_neg c3]
            by_cases c4 : nx = -1
            · rw [if_pos c4, if_pos c4]; exact htake
            · obtain ⟨o, ho, eo, -⟩ := hb.resolve_left c4
              have hix : ix nx = o := by rw [eo, ix_nI (by omega)]
              obtain ⟨⟨-, -, -, -, g4, -⟩, -⟩ := h.ord (o := o) (by omega)
              rw [if_neg c4, if_neg c4, hix, ← g4]
              by_cases c5 : σ 7 o 4 ≤ σ 7 k 4
              · rw [if_pos c5, if_pos c5]; exact hkeep
              · rw [if_neg c5, if_neg c5]; exact htake
      · simp only [if_neg c1, Bool.false_eq_true, if_false]; exact hkeep
  have := go (nO σ) 0 (-1) (-1) (by omega) (Or.inl rfl)
  rw [Nat.zero_add] at this
  exact this
end CHOICE
