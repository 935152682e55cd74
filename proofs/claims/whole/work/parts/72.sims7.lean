section SIMS8
variable {B : Nat} {σ μ : Mem} {g : gG}
theorem rlR.s_stop (h : rlR B σ μ) (hB : B + 1 < 2 ^ 31) (hF : Mf g μ) (h0 : μ 8 0 0 = 0) (n : Int32) :
    (xStopE σ n = 0 → (mStop μ n).1 = xStop σ n 6 (ix n) 2 ∧ rlR (B + 1) (xStop σ n) (mStop μ n).2 ∧ Mf g (mStop μ n).2) ∧ (¬ xStopE σ n = 0 → (mStop μ n).2 = gst μ 8 0 0 (xStopE σ n)) := by
  unfold mStop xStopE mFl
  rw [h.okC hF.1]
  by_cases c : mIsC μ n = true
  · rw [if_pos c, if_pos c]
    have hc : ix n < nC σ := by rw [h.ec]; exact (hF.1.isC c).1
    obtain ⟨-, -, -, k3, k6, -⟩ := h.cab hc
    rw [← k3]
    by_cases d : σ 6 (ix n) 3 = 1
    · rw [if_pos d, if_pos d]
      have hm : Mf g (gst (mRfd μ (ix n)) 9 3 (ix n) 0) := by
        have h1 := hF.rfd (c := ix n) (by rw [← k3]; exact d)
        refine h1.of (h1.1.st9 (by decide)) (fun k _ => ?_)
        by_cases e : k = ix n
        · subst e
          exact Or.inr (Or.inr ⟨by rw [gst_ni (by decide), mRfd_4, if_pos rfl], by rw [gst_eq]; decide, by rw [gst_eq]; decide⟩)
        · exact Or.inl ⟨gst_ni (by decide), Or.inl (gst_nf e)⟩
      have hr : rlR (B + 1) (gst (xTurn σ (ix n)) 6 (ix n) 3 0) (gst (mRfd μ (ix n)) 9 3 (ix n) 0) := by
        by_cases q : xOff σ (ix n) = -1
        · have h6 : σ 6 (ix n) 6 = -1 := by unfold xOff at q; rw [if_pos d] at q; exact q
          have e1 : xTurn σ (ix n) = σ := by unfold xTurn; rw [if_pos q]
          have e2 : mRfd μ (ix n) = μ := by unfold mRfd; rw [← k6, if_pos h6]
          rw [e1, e2]
          exact (h.off hc h6).mono (by omega)
        · obtain ⟨σ1, e1, h', eC, -, h6, -, -⟩ := h.rfd1 hc q
          rw [e1]
          have h2 := h'.off (by rw [eC]; exact hc) h6
          have h3 := h2.joinOff (c := ix n) (x := σ1 0 0 6) (by rw [nC_g (by decide), eC]; exact hc) (by rw [gst_nf (by decide)]; exact h6) (gst_eq _ _ _ _ _)
          refine h3.congr ?_ ?_ ?_ ?_ ?_ ?_ (fun f _ => rfl) (fun i j _ => rfl)
          · intro f; simp [xJoin, gst_app]
          · intro j; simp [xJoin, gst_app]
          · simp [xJoin, gst_app]
          · simp [xJoin, gst_app]
          · intro i f
            unfold xJoin
            by_cases hi : i = ix n
            · by_cases h3 : f = 3
              · simp [gst_app, hi, h3]
              · simp [gst_app, hi, h3]
            · simp [gst_app, hi]
          · intro i f; simp [xJoin, gst_app]
      have hmo := hr.mo hB hm.1
      refine ⟨fun _ => ⟨?_, hmo, hm.oa⟩, fun q => absurd rfl q⟩
      exact (hmo.cab (c := ix n) (by rw [show nC (xMo (gst (xTurn σ (ix n)) 6 (ix n) 3 0)) = nC σ from by unfold nC; rw [(Un.mo (Un.g6 (Un.turn (Un.rf σ)))) 2 0 2 (by decide) (by decide) (by decide)]]; exact hc)).2.2.1.symm
    · rw [if_neg d, if_neg d]
      exact ⟨fun q => absurd q (by decide), fun _ => rfl⟩
  · rw [if_neg c, if_neg c]
    exact ⟨fun q => absurd q (by decide), fun _ => rfl⟩
end SIMS8
