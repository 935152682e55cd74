section SIMS3
variable {B : Nat} {σ μ : Mem} {g : gG}
/-- at its own place -/
theorem rlR.s_refuse (h : rlR B σ μ) (hB : B + 1 < 2 ^ 31) (hF : Mf g μ) (h0 : μ 8 0 0 = 0) (n : Int32) :
    (xAcceptE σ n = 0 → (mRefuse μ n).1 = σ 6 (ix n) 6 ∧ rlR (B + 1) (xRefuse σ n) (mRefuse μ n).2 ∧ Mf g (mRefuse μ n).2) ∧ (¬ xAcceptE σ n = 0 → (mRefuse μ n).2 = gst μ 8 0 0 (xAcceptE σ n)) := by
  unfold mRefuse xAcceptE mFl
  rw [h.okC hF.1]
  by_cases c : mIsC μ n = true
  · rw [if_pos c, if_pos c]
    have hc : ix n < nC σ := by rw [h.ec]; exact (hF.1.isC c).1
    have hi := h.isOff hc
    obtain ⟨-, -, -, k3, k6, -⟩ := h.cab hc
    by_cases d : xOff σ (ix n) = -1
    · rw [if_pos d, if_neg (fun q => hi.mp q d)]
      exact ⟨fun q => absurd q (by decide), fun _ => rfl⟩
    · rw [if_neg d, if_pos (hi.mpr d)]
      have hd := xOff_iff.mp d
      have hm : Mf g (mQup (mRfd μ (ix n)) (ix n)) := (hF.rfd (by rw [← k3]; exact hd.1)).qup
      exact ⟨fun _ => ⟨k6.symm, (h.refuse hc d).mo hB hm.1, hm.oa⟩, fun q => absurd rfl q⟩
  · rw [if_neg c, if_neg c]
    exact ⟨fun q => absurd q (by decide), fun _ => rfl⟩
theorem rlR.s_start (h : rlR B σ μ) (hB : B + 1 < 2 ^ 31) (hF : Mf g μ) (h0 : μ 8 0 0 = 0) (n : Int32) :
    (xStartE σ n = 0 → (mStart μ n).1 = xPlace (xStart σ n) (ix n) ∧ rlR (B + 1) (xStart σ n) (mStart μ n).2 ∧ Mf g (mStart μ n).2) ∧ (¬ xStartE σ n = 0 → (mStart μ n).2 = gst μ 8 0 0 (xStartE σ n)) := by
  unfold mStart xStartE mFl
  rw [h.okC hF.1]
  by_cases c : mIsC μ n = true
  · rw [if_pos c, if_pos c]
    have hc : ix n < nC σ := by rw [h.ec]; exact (hF.1.isC c).1
    have h10 := h.c10
    obtain ⟨-, -, -, k3, k6, -⟩ := h.cab hc
    rw [← k3]
    by_cases d : σ 6 (ix n) 3 = 0
    · rw [if_pos d, if_pos d]
      have h6 : σ 6 (ix n) 6 = -1 := by
        rcases h.2.2.2.2.1.1 (ix n) hc with q | q | ⟨o, ho, -, -, r3, -⟩
        · exact q.2
        · exact q.2
        · rw [d] at r3; exact absurd r3 (by decide)
      have hj := h.join hc h6
      have hm : Mf g (mFree μ (ix n) (μ 9 2 (ix n))) := hF.free (hF.1.z (by omega))
      refine ⟨fun _ => ⟨?_, hj.mo hB hm.1, hm.oa⟩, fun q => absurd rfl q⟩
      unfold xStart
      rw [xPlace_mo]
      exact (hj.pl hB (by simpa [xJoin, nC, gst_app] using hc)).symm
    · rw [if_neg d, if_neg d]
      exact ⟨fun q => absurd q (by decide), fun _ => rfl⟩
  · rw [if_neg c, if_neg c]
    exact ⟨fun q => absurd q (by decide), fun _ => rfl⟩
end SIMS3
