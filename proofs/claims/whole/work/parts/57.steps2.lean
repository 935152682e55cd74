section STEPS2
variable {B : Nat} {σ μ : Mem}
theorem rlR.join (h : rlR B σ μ) {c : Nat} (hc : c < nC σ) (h6 : σ 6 c 6 = -1) : rlR (B + 1) (xJoin σ c) (mFree μ c (μ 9 2 c)) := by
  have h60 := h.o60
  have h10 := h.c10
  obtain ⟨k0, k1, k2, k3, k6, k7, k8, kz⟩ := h.cab hc
  refine h.updC hc h6 ?_ ?_ (h.1.of ?_ ?_ ?_ ?_ ?_ ?_) ?_ ?_ ?_ ?_ ?_ ?_ ?_ (h.2.2.2.1.join (c := c) ?_ ?_ ?_ ?_ ?_ ?_) ?_
  · simp [nC, gst_app, xJoin, mFree, mQup]
  · simp [nO, gst_app, xJoin, mFree, mQup]
  · intro f hf; simp [gst_app, xJoin, mFree, mQup, hf]
  · intro j; simp [gst_app, xJoin, mFree, mQup]
  · simp [gst_app, xJoin, mFree, mQup]
  · simp [gst_app, xJoin, mFree, mQup]
  · intro f hf; simp [gst_app, xJoin, mFree, mQup, hf]
  · intro j; simp [gst_app, xJoin, mFree, mQup]
  · intro i f hi; simp [gst_app, xJoin, mFree, mQup, hi]
  · intro i f; simp [gst_app, xJoin, mFree, mQup]
  · intro i k q1 q8 hk
    have n9 : i ≠ 9 := by omega
    have n10 : i ≠ 10 := by omega
    have n11 : i ≠ 11 := by omega
    simp [gst_app, xJoin, mFree, mQup, hk, n9, n10, n11]
  · intro i k hk; simp [gst_app, xJoin, mFree, mQup, mT_i, mT_t, mT_8, hk]
  · intro i; simp [gst_app, xJoin, mFree, mQup]
  · intro j; simp [gst_app, xJoin, mFree, mQup]
  · exact ⟨by simpa [gst_app, xJoin, mFree, mQup] using k0, by simpa [gst_app, xJoin, mFree, mQup] using k1, by simpa [gst_app, xJoin, mFree, mQup] using k2, by simp [gst_app, xJoin, mFree, mQup], by simp [gst_app, xJoin, mFree, mQup, h6], by simpa [gst_app, xJoin, mFree, mQup] using k7, by simpa [gst_app, xJoin, mFree, mQup] using k8, by simpa [gst_app, xJoin, mFree, mQup] using kz⟩
  · simp [nC, gst_app, xJoin, mFree, mQup]
  · simp [gst_app, xJoin, mFree, mQup]
  · simp [gst_app, xJoin, mFree, mQup]
  · simp [gst_app, xJoin, mFree, mQup]
  · simp [gst_app, xJoin, mFree, mQup]
  · intro i hi e q; exact ⟨by simpa [gst_app, xJoin, mFree, mQup, e] using q, by simp [gst_app, xJoin, mFree, mQup, e], by simp [gst_app, xJoin, mFree, mQup, e]⟩
  · exact ⟨by simp [gst_app, xJoin, mFree, mQup, h6], Or.inr (by simp [gst_app, xJoin, mFree, mQup])⟩
theorem rlR.off (h : rlR B σ μ) {c : Nat} (hc : c < nC σ) (h6 : σ 6 c 6 = -1) : rlR B (gst σ 6 c 3 0) (gst μ 9 3 c 0) := by
  have h60 := h.o60
  have h10 := h.c10
  obtain ⟨k0, k1, k2, k3, k6, k7, k8, kz⟩ := h.cab hc
  refine h.updC hc h6 ?_ ?_ (h.1.of ?_ ?_ ?_ ?_ ?_ ?_) ?_ ?_ ?_ ?_ ?_ ?_ ?_ (h.2.2.2.1.of ?_ ?_ ?_ ?_) ?_
  · simp [nC, gst_app]
  · simp [nO, gst_app]
  · intro f hf; simp [gst_app, hf]
  · intro j; simp [gst_app]
  · simp [gst_app]
  · simp [gst_app]
  · intro f hf; simp [gst_app, hf]
  · intro j; simp [gst_app]
  · intro i f hi; simp [gst_app, hi]
  · intro i f; simp [gst_app]
  · intro i k q1 q8 hk
    have n9 : i ≠ 9 := by omega
    have n10 : i ≠ 10 := by omega
    have n11 : i ≠ 11 := by omega
    simp [gst_app, hk, n9, n10, n11]
  · intro i k hk; simp [gst_app, mT_i, mT_t, mT_8, hk]
  · intro i; simp [gst_app]
  · intro j; simp [gst_app]
  · exact ⟨by simpa [gst_app] using k0, by simpa [gst_app] using k1, by simpa [gst_app] using k2, by simp [gst_app], by simpa [gst_app] using k6, by simpa [gst_app] using k7, by simpa [gst_app] using k8, by simpa [gst_app] using kz⟩
  · simp [nC, gst_app]
  · simp [gst_app]
  · simp [gst_app]
  · intro i hi q
    by_cases e : i = c
    · subst e; exfalso; have q2 : (0 : Int32) = 1 := by simpa [gst_app] using q
      exact absurd q2 (by decide)
    · exact ⟨by simpa [gst_app, e] using q, by simp [gst_app], by simp [gst_app]⟩
  · exact ⟨by simp [gst_app, h6], Or.inl (by simp [gst_app])⟩
theorem rlR.settle (h : rlR B σ μ) {c : Nat} {v : Int32} (hc : c < nC σ) (h6 : σ 6 c 6 = -1) : rlR B (gst σ 6 c 8 v) (gst μ 9 8 c v) := by
  have h60 := h.o60
  have h10 := h.c10
  obtain ⟨k0, k1, k2, k3, k6, k7, k8, kz⟩ := h.cab hc
  have hst : σ 6 c 3 = 0 ∨ σ 6 c 3 = 1 := by rcases h.2.2.2.2.1.1 c hc with q | q | ⟨o, ho, q, -⟩; exact Or.inl q.1; exact Or.inr q.1; rw [h6] at q; exact absurd q.symm (nI_nm (by omega))
  refine h.updC hc h6 ?_ ?_ (h.1.of ?_ ?_ ?_ ?_ ?_ ?_) ?_ ?_ ?_ ?_ ?_ ?_ ?_ (h.2.2.2.1.of ?_ ?_ ?_ ?_) ?_
  · simp [nC, gst_app]
  · simp [nO, gst_app]
  · intro f hf; simp [gst_app, hf]
  · intro j; simp [gst_app]
  · simp [gst_app]
  · simp [gst_app]
  · intro f hf; simp [gst_app, hf]
  · intro j; simp [gst_app]
  · intro i f hi; simp [gst_app, hi]
  · intro i f; simp [gst_app]
  · intro i k q1 q8 hk
    have n9 : i ≠ 9 := by omega
    have n10 : i ≠ 10 := by omega
    have n11 : i ≠ 11 := by omega
    simp [gst_app, hk, n9, n10, n11]
  · intro i k hk; simp [gst_app, mT_i, mT_t, mT_8, hk]
  · intro i; simp [gst_app]
  · intro j; simp [gst_app]
  · exact ⟨by simpa [gst_app] using k0, by simpa [gst_app] using k1, by simpa [gst_app] using k2, by simpa [gst_app] using k3, by simpa [gst_app] using k6, by simpa [gst_app] using k7, by simp [gst_app], by simpa [gst_app] using kz⟩
  · simp [nC, gst_app]
  · simp [gst_app]
  · simp [gst_app]
  · intro i hi q; exact ⟨by simpa [gst_app] using q, by simp [gst_app], by simp [gst_app]⟩
  · exact ⟨by simp [gst_app, h6], by simpa [gst_app] using hst⟩
theorem rlR.joinOff (h : rlR B σ μ) {c : Nat} (hc : c < nC σ) (h6 : σ 6 c 6 = -1) (h3 : σ 6 c 3 = 0) {x : Int32} : rlR (B + 1) (gst (gst σ 6 c 4 x) 0 0 6 (σ 0 0 6 + 1)) μ := by
  have h60 := h.o60
  have h10 := h.c10
  obtain ⟨k0, k1, k2, k3, k6, k7, k8, kz⟩ := h.cab hc
  refine h.updC hc h6 ?_ ?_ (h.1.of ?_ ?_ ?_ ?_ ?_ ?_) ?_ ?_ ?_ ?_ ?_ ?_ ?_ ?_ ?_
  · simp [nC, gst_app]
  · simp [nO, gst_app]
  · intro f hf; simp [gst_app, hf]
  · intro j; simp [gst_app]
  · simp [gst_app]
  · simp [gst_app]
  · intro f hf; rfl
  · intro j; rfl
  · intro i f hi; simp [gst_app, hi]
  · intro i f; simp [gst_app]
  · intro i k _ _ _; rfl
  · intro i k _; rfl
  · intro i; rfl
  · intro j; rfl
  · exact ⟨by simpa [gst_app] using k0, by simpa [gst_app] using k1, by simpa [gst_app] using k2, by simpa [gst_app] using k3, by simpa [gst_app] using k6, by simpa [gst_app] using k7, by simpa [gst_app] using k8, by simpa [gst_app] using kz⟩
  · obtain ⟨u, v, U, V, b1, b2, b3, b4, b5, b6⟩ := h.2.2.2.1
    have eC : nC (gst (gst σ 6 c 4 x) 0 0 6 (σ 0 0 6 + 1)) = nC σ := by simp [nC, gst_app]
    have st : ∀ i, gst (gst σ 6 c 4 x) 0 0 6 (σ 0 0 6 + 1) 6 i 3 = σ 6 i 3 := fun i => by simp [gst_app]
    refine ⟨u, v, U + 1, V, by simp only [gst_app, b1]; exact nI_1 U, b2, by omega, by omega, fun i hi q => ?_, fun i j hi hj q q' hne => ?_⟩
    · rw [eC] at hi
      rw [st] at q
      have e : i ≠ c := by rintro rfl; rw [h3] at q; exact absurd q (by decide)
      obtain ⟨p1, p2, p3, p4⟩ := b5 i hi q
      exact ⟨by simpa [gst_app, e] using p1, by omega, p3, p4⟩
    · rw [eC] at hi hj
      rw [st] at q q'
      exact b6 i j hi hj q q' hne
  · exact ⟨by simpa [gst_app] using h6, Or.inl (by simpa [gst_app] using h3)⟩
end STEPS2
