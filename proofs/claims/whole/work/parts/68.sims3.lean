section SIMS4
variable {B : Nat} {σ μ : Mem} {g : gG}
theorem rlR.s_accept (h : rlR B σ μ) (hB : B < 2 ^ 31) (hF : Mf g μ) (h0 : μ 8 0 0 = 0) (n : Int32) :
    (xAcceptE σ n = 0 → (mAccept μ n).1 = xWay σ (σ 6 (ix n) 2) (σ 7 (ix (xOff σ (ix n))) 1) ∧ rlR B (xAccept σ n) (mAccept μ n).2 ∧ Mf g (mAccept μ n).2) ∧ (¬ xAcceptE σ n = 0 → (mAccept μ n).2 = gst μ 8 0 0 (xAcceptE σ n)) := by
  unfold mAccept xAcceptE mFl
  rw [h.okC hF.1]
  by_cases c : mIsC μ n = true
  · rw [if_pos c, if_pos c]
    have hc : ix n < nC σ := by rw [h.ec]; exact (hF.1.isC c).1
    have hi := h.isOff hc
    obtain ⟨-, -, k2, k3, k6, -, -, kz⟩ := h.cab hc
    by_cases d : xOff σ (ix n) = -1
    · rw [if_pos d, if_neg (fun q => hi.mp q d)]
      exact ⟨fun q => absurd q (by decide), fun _ => rfl⟩
    · rw [if_neg d, if_pos (hi.mpr d)]
      obtain ⟨d1, d6⟩ := xOff_iff.mp d
      obtain ⟨o, ho, eo, eo2, -⟩ := h.of6 hc d6
      obtain ⟨⟨-, a1, -, -, a4, -⟩, -, -, z1, -⟩ := h.ord ho
      have ex : xOff σ (ix n) = σ 6 (ix n) 6 := by unfold xOff; rw [if_pos d1]
      have ew : mAccWay μ (ix n) = xWay σ (σ 6 (ix n) 2) (σ 7 o 1) := by
        unfold mAccWay
        rw [← k6, eo2, ← k2, ← a1]
        exact (h.xway kz z1).symm
      rw [ex, eo2, ← k6, eo2, ew, ← h.now]
      have hs := h.accept (t := σ 0 0 3 + xWay σ (σ 6 (ix n) 2) (σ 7 o 1)) hc ho eo
      have hm : Mf g (gst (gst (gst μ 9 3 (ix n) 2) 9 5 (ix n) (σ 0 0 3 + xWay σ (σ 6 (ix n) 2) (σ 7 o 1))) 9 9 (8 * o + 4) 2) := by
        refine hF.of (((hF.1.st9 (by decide)).st9 (by decide)).stT (by decide)) (fun k _ => Or.inl ⟨by simp [gst_app], ?_⟩)
        by_cases e : k = ix n
        · exact Or.inr (by rw [e, ← k6]; exact d6)
        · exact Or.inl (by simp [gst_app, e])
      refine ⟨fun _ => ⟨rfl, ?_, hm.oa⟩, fun q => absurd rfl q⟩
      have hx : xAccept σ n = xMo (gst (gst (gst σ 6 (ix n) 3 2) 6 (ix n) 5 (xMax (σ 0 0 3 + xWay σ (σ 6 (ix n) 2) (σ 7 o 1)) (σ 7 o 4))) 7 o 5 2) := by
        unfold xAccept xAcc
        rw [ex, eo2]
      rw [hx]
      exact hs.mo hB hm.1
  · rw [if_neg c, if_neg c]
    exact ⟨fun q => absurd q (by decide), fun _ => rfl⟩
end SIMS4
