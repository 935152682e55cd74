section QUEUES
variable {B : Nat} {σ μ : Mem} {g : gG}
/-- who stands at a place: p is no -1 -/
theorem rlR.ciq (h : rlR B σ μ) (hB : B < 2 ^ 31) {z p : Int32} (hp : ¬ p = -1) : xCiq σ z p = mQd μ z p := by
  unfold xCiq mQd
  rw [← h.ec]
  have go : ∀ (r k : Nat), k + r = nC σ → xCiGo σ z p r k = mQdGo μ z p r k := by
    intro r
    induction r with
    | zero => intro k _; rfl
    | succ r ih =>
      intro k hk
      have hkc : k < nC σ := by omega
      obtain ⟨-, -, k2, k3, -⟩ := h.cab hkc
      have hpl := h.pl hB hkc
      simp only [xCiGo, mQdGo, xInQ]
      rw [← k2, ← hpl, ih _ (by omega)]
      by_cases h1 : σ 6 k 3 = 1
      · by_cases h2 : σ 6 k 2 = z
        · simp only [h1, h2, if_true]
        · simp only [h1, if_true, if_neg h2, Bool.false_eq_true, if_false]
      · have hno : ¬ xPlace σ k = p := by
          unfold xPlace
          rw [if_neg h1]
          exact fun q => hp q.symm
        simp only [if_neg h1, Bool.false_eq_true, if_false, if_neg hno]
        split <;> rfl
  exact go (nC σ) 0 (by omega)
theorem rlR.near2 (h : rlR B σ μ) {z n : Int32} (hz : mZ z) : xNear σ z n = mNeGo μ z n (mC μ) 0 (-1) := by
  unfold xNear
  rw [← h.ec]
  have go : ∀ (r k : Nat) (best : Int32), k + r = nC σ → xNeGo σ z n r k best = mNeGo μ z n r k best := by
    intro r
    induction r with
    | zero => intro k best _; rfl
    | succ r ih =>
      intro k best hk
      obtain ⟨-, k1, k2, k3, k6, -, -, kz⟩ := h.cab (c := k) (by omega)
      have ew := h.xway kz hz
      simp only [xNeGo, mNeGo, xIdle]
      rw [← k3, ← k6, ← k1, ← k2, ← ew, ih _ _ (by omega), ih _ _ (by omega), ih _ _ (by omega)]
      unfold xMin
      by_cases h1 : σ 6 k 3 = 1
      · by_cases h2 : σ 6 k 6 = -1
        · by_cases h3 : σ 6 k 1 < n
          · simp only [h1, h2, if_true, if_pos h3]
          · by_cases h4 : best = -1
            · simp only [h1, h2, if_true, if_neg h3, if_pos h4]
            · by_cases h5 : best ≤ xWay σ (σ 6 k 2) z
              · simp only [h1, h2, if_true, if_neg h3, if_neg h4, if_pos h5, if_neg (Int32.not_lt.mpr h5)]
              · simp only [h1, h2, if_true, if_neg h3, if_neg h4, if_neg h5, if_pos (Int32.not_le.mp h5)]
        · simp only [h1, if_true, if_neg h2, Bool.false_eq_true, if_false]
      · simp only [if_neg h1, Bool.false_eq_true, if_false]
  exact go (nC σ) 0 (-1) (by omega)
end QUEUES
