section SIMS9
variable {B : Nat} {σ μ : Mem} {g : gG}
theorem rlR.s_tick (h : rlR B σ μ) (hB : B + 6000 < 2 ^ 31) (hF : Mf g μ) (n : Int32) :
    (xTickE σ n = 0 → (mTick μ n).1 = (xTick σ n).1 ∧ rlR (B + 20 * ix n) (xTick σ n).2 (mTick μ n).2 ∧ Mf g (mTick μ n).2 ∧ ∃ t, σ 0 0 3 = nI t ∧ (xTick σ n).2 0 0 3 = nI (t + ix n)) ∧ (¬ xTickE σ n = 0 → (mTick μ n).2 = gst μ 8 0 0 (xTickE σ n)) := by
  unfold mTick xTickE mFl
  obtain ⟨t, ht, et⟩ := h.1.2.2.2
  rw [in_low n 1 300 1]
  by_cases c : mIn n 1 300 = true
  · rw [if_pos c, if_pos c]
    obtain ⟨q1, q2⟩ := mIn_300 c
    have e1 : (n ≤ 9999 - σ 0 0 3) ↔ t + ix n ≤ 9999 := by
      have e2 : (9999 : Int32) - nI t = nI (9999 - t) := pk_sub (a := 9999) (by omega)
      rw [et, e2, q1, nI_leI (by omega) (by omega), ix_nI (by omega)]
      omega
    have e3 : (μ 8 0 1 + n ≤ 9999) ↔ t + ix n ≤ 9999 := by
      rw [← h.now, et]
      have e4 : nI t + n = nI (t + ix n) := by rw [← nI_add, ← q1]
      rw [e4]
      exact nI_leI (b := 9999) (by omega) (by decide)
    by_cases d : t + ix n ≤ 9999
    · rw [if_pos (e1.mpr d), if_pos (e3.mpr d)]
      obtain ⟨r1, r2, r3, r4⟩ := h.tick (ix n) 0 (by omega) hF et d
      exact ⟨fun _ => ⟨r1.symm, r2, r3, t, et, r4⟩, fun q => absurd rfl q⟩
    · rw [if_neg (fun q => d (e1.mp q)), if_neg (fun q => d (e3.mp q))]
      exact ⟨fun q => absurd q (by decide), fun _ => rfl⟩
  · rw [if_neg c, if_neg c]
    exact ⟨fun q => absurd q (by decide), fun _ => rfl⟩
end SIMS9
