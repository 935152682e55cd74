section SIMS5
variable {B : Nat} {σ μ : Mem} {g : gG}
theorem rlR.s_settle (h : rlR B σ μ) (hF : Mf g μ) (h0 : μ 8 0 0 = 0) (n : Int32) :
    (xMoneyE σ n = 0 → (mSettle μ n).1 = σ 6 (ix n) 8 ∧ rlR B (gst σ 6 (ix n) 8 0) (mSettle μ n).2 ∧ Mf g (mSettle μ n).2) ∧ (¬ xMoneyE σ n = 0 → (mSettle μ n).2 = gst μ 8 0 0 (xMoneyE σ n)) := by
  unfold mSettle xMoneyE mFl
  rw [h.okC hF.1]
  by_cases c : mIsC μ n = true
  · rw [if_pos c, if_pos c]
    have hc : ix n < nC σ := by rw [h.ec]; exact (hF.1.isC c).1
    obtain ⟨-, -, -, -, -, -, k8, -⟩ := h.cab hc
    refine ⟨fun _ => ⟨k8.symm, ?_, hF.of (hF.1.st9 (by decide)) (fun k _ => Or.inl ⟨by simp [gst_app], Or.inl (by simp [gst_app])⟩)⟩, fun q => absurd rfl q⟩
    by_cases d : σ 6 (ix n) 6 = -1
    · exact h.settle hc d
    · obtain ⟨o, ho, eo, -⟩ := h.of6 hc d
      exact h.settleO hc ho eo
  · rw [if_neg c, if_neg c]
    exact ⟨fun q => absurd q (by decide), fun _ => rfl⟩
end SIMS5
