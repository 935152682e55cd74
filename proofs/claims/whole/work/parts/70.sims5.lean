section SIMS6
variable {B : Nat} {σ μ : Mem} {g : gG}
theorem in_low (x : Int32) (lo hi : Int32) (a b : Int32) : (if x < lo then a else if x ≤ hi then b else a) = if mIn x lo hi = true then b else a := by
  unfold mIn
  by_cases c : x < lo
  · simp [c]
  · by_cases d : hi < x
    · simp [c, d, Int32.not_le.mpr d]
    · simp [c, d, Int32.not_lt.mp d]
theorem rlR.s_rates (h : rlR B σ μ) (hF : Mf g μ) (a b : Int32) :
    (xSetRatesE a b = 0 → (mSetRates μ a b).1 = σ 0 0 4 ∧ rlR B (gst (gst σ 0 0 4 a) 0 0 5 b) (mSetRates μ a b).2 ∧ Mf g (mSetRates μ a b).2) ∧ (¬ xSetRatesE a b = 0 → (mSetRates μ a b).2 = gst μ 8 0 0 (xSetRatesE a b)) := by
  unfold mSetRates xSetRatesE mFl
  rw [in_low b 0 20 1 0, in_low a 0 100]
  by_cases c : mIn a 0 100 = true
  · rw [if_pos c, if_pos c]
    by_cases d : mIn b 0 20 = true
    · rw [if_pos d, if_pos d]
      exact ⟨fun _ => ⟨h.base.symm, h.rates, hF.of ((hF.1.st8 rfl).st8 rfl) (fun k _ => Or.inl ⟨by simp [gst_app], Or.inl (by simp [gst_app])⟩)⟩, fun q => absurd rfl q⟩
    · rw [if_neg d, if_neg d]
      exact ⟨fun q => absurd q (by decide), fun _ => rfl⟩
  · rw [if_neg c, if_neg c]
    exact ⟨fun q => absurd q (by decide), fun _ => rfl⟩
end SIMS6
