section SIMSB
variable {B : Nat} {σ μ : Mem} {g : gG}
theorem mCan1_3 {o k : Nat} : mCan1 μ o 9 3 k = μ 9 3 k := by
  unfold mCan1
  split
  · exact gst_ni (by decide)
  · rfl
theorem le2 {x : Int32} (h : x = 0 ∨ x = 1 ∨ x = 2) : x ≤ 2 := by rcases h with q | q | q <;> rw [q] <;> decide
theorem rlR.s_cancel (h : rlR B σ μ) (hB : B + 1 < 2 ^ 31) (hF : Mf g μ) (n : Int32) :
    (xCancelE σ n = 0 → (mCancel μ n).1 = σ 7 (ix n) 5 ∧ rlR (B + 1) (xCancel σ n) (mCancel μ n).2 ∧ Mf g (mCancel μ n).2) ∧ (¬ xCancelE σ n = 0 → (mCancel μ n).2 = gst μ 8 0 0 (xCancelE σ n)) := by
  have h60 := h.o60
  have h10 := h.c10
  unfold mCancel xCancelE mFl
  rw [h.okO hF.1]
  by_cases c : mIsO μ n = true
  · rw [if_pos c, if_pos c]
    have ho : ix n < nO σ := by rw [h.eo]; exact (hF.1.isO c).1
    obtain ⟨⟨-, -, -, -, -, a5, a6, -, -⟩, -⟩ := h.ord ho
    rw [← a5]
    have key : ∀ μ2, rlR (B + 1) (gst (xRel σ (ix n)) 7 (ix n) 5 5) μ2 → Mf g μ2 → rlR (B + 1) (xCancel σ n) (mOA μ2) ∧ Mf g (mOA μ2) := fun μ2 q1 q2 => ⟨q1.mo hB q2.1, q2.oa⟩
    rcases h.2.2.2.2.1.2 (ix n) ho with ⟨s0, s6⟩ | ⟨k, hk, s6, k6, s5, s3⟩ | s | s
    · have e1 : xRel σ (ix n) = σ := by unfold xRel; rw [if_pos s6]
      have e2 : mCan2 μ (ix n) = μ := by unfold mCan2 mCan1; rw [← a5, s0, if_neg (by decide), if_neg (by decide)]
      rw [if_pos (le2 (Or.inl s0)), if_pos s0, e2]
      have hm : Mf g (gst (gst μ 9 9 (8 * ix n + 4) 5) 9 9 (8 * ix n + 5) (-1)) := hF.of ((hF.1.stT (by decide)).stT (by decide)) (fun k _ => Or.inl ⟨by simp [gst_app], Or.inl (by simp [gst_app])⟩)
      obtain ⟨r1, r2⟩ := key _ (by rw [e1]; exact (h.cancel0 ho s0).mono (by omega)) hm
      exact ⟨fun _ => ⟨rfl, r1, r2⟩, fun q => absurd rfl q⟩
    · obtain ⟨-, -, -, k3, -⟩ := h.cab hk
      have hix : ix (σ 7 (ix n) 6) = k := by rw [s6, ix_nI (by omega)]
      rcases s5 with s5 | s5 | s5
      · -- offered
        have hs3 : σ 6 k 3 = 1 := by rw [← s3, s5]
        have e1 : xRel σ (ix n) = gst (gst σ 7 (ix n) 6 (-1)) 6 k 6 (-1) := by
          unfold xRel
          rw [hix, if_neg (by rw [s6]; exact nI_nm (by omega)), if_neg (by rw [hs3]; decide)]
        have e2 : mCan2 μ (ix n) = gst μ 9 4 k (-1) := by
          unfold mCan2 mCan1
          rw [← a5, s5, if_pos rfl, if_neg (by decide), ← a6, hix]
        rw [if_pos (le2 (Or.inr (Or.inl s5))), s5, if_neg (by decide), if_pos rfl, e2]
        have hm : Mf g (gst (gst (gst μ 9 4 k (-1)) 9 9 (8 * ix n + 4) 5) 9 9 (8 * ix n + 5) (-1)) := hF.of (((hF.1.st9 (by decide)).stT (by decide)).stT (by decide)) (fun i _ => by
          by_cases e : i = k
          · subst e
            exact Or.inr (Or.inr ⟨by simp [gst_app], by simp [gst_app, ← k3, hs3], by simp [gst_app, ← k3, hs3]⟩)
          · exact Or.inl ⟨by simp [gst_app, e], Or.inl (by simp [gst_app])⟩)
        obtain ⟨r1, r2⟩ := key _ (by rw [e1]; exact (h.relO hk ho k6 hs3).mono (by omega)) hm
        exact ⟨fun _ => ⟨rfl, r1, r2⟩, fun q => absurd rfl q⟩
      · -- accepted
        have hs3 : σ 6 k 3 = 2 := by rw [← s3, s5]
        have e1 : xRel σ (ix n) = xJoin (gst (gst σ 7 (ix n) 6 (-1)) 6 k 6 (-1)) k := by
          unfold xRel
          rw [hix, if_neg (by rw [s6]; exact nI_nm (by omega)), if_pos hs3]
        have e2 : mCan2 μ (ix n) = mFree μ k (μ 9 2 k) := by
          unfold mCan2 mCan1
          rw [← a5, s5, if_pos rfl, if_neg (by decide), ← a6, hix]
        rw [if_pos (le2 (Or.inr (Or.inr s5))), s5, if_neg (by decide), if_neg (by decide), if_pos rfl, e2]
        have hm : Mf g (gst (gst (mFree μ k (μ 9 2 k)) 9 9 (8 * ix n + 4) 5) 9 9 (8 * ix n + 5) (-1)) := by
          have hf := hF.free (c := k) (hF.1.z (c := k) (by omega))
          exact hf.of ((hf.1.stT (by decide)).stT (by decide)) (fun i _ => Or.inl ⟨by rw [gst_ni (by decide), gst_ni (by decide)], Or.inl (by rw [gst_ni (by decide), gst_ni (by decide)])⟩)
        have h2 := (h.relA hk ho k6).join (c := k) (by simpa [nC, gst_app] using hk) (by simp [gst_app])
        obtain ⟨r1, r2⟩ := key _ (by
          rw [e1]
          refine h2.congr ?_ ?_ ?_ ?_ ?_ ?_ ?_ ?_
          · intro f; simp [xJoin, gst_app]
          · intro j; simp [xJoin, gst_app]
          · simp [xJoin, gst_app]
          · simp [xJoin, gst_app]
          · intro i f
            unfold xJoin
            by_cases hi : i = k
            · by_cases h3 : f = 3
              · simp [gst_app, hi, h3]
              · simp [gst_app, hi, h3]
            · simp [gst_app, hi]
          · intro i f; simp [xJoin, gst_app]
          · intro f hf; simp [mFree, mQup, gst_app]
          · intro i j hi
            unfold mFree mQup
            by_cases hj : j = k
            · by_cases i2 : i = 2
              · subst i2; simp [gst_app, hj]
              · by_cases i3 : i = 3
                · subst i3; simp [gst_app, hj]
                · by_cases i4 : i = 4
                  · subst i4; simp [gst_app, hj]
                  · by_cases i6 : i = 6
                    · subst i6; simp [gst_app, hj]
                    · simp [gst_app, i2, i3, i4, i6]
            · simp [gst_app, hj]) hm
        exact ⟨fun _ => ⟨rfl, r1, r2⟩, fun q => absurd rfl q⟩
      · rw [if_neg (by rw [s5]; decide), s5, if_neg (by decide), if_neg (by decide), if_neg (by decide)]
        exact ⟨fun q => absurd q (by decide), fun _ => rfl⟩
    · rw [if_neg (by rw [s]; decide), s, if_neg (by decide), if_neg (by decide), if_neg (by decide)]
      exact ⟨fun q => absurd q (by decide), fun _ => rfl⟩
    · rw [if_neg (by rw [s]; decide), s, if_neg (by decide), if_neg (by decide), if_neg (by decide)]
      exact ⟨fun q => absurd q (by decide), fun _ => rfl⟩
  · rw [if_neg c, if_neg c]
    exact ⟨fun q => absurd q (by decide), fun _ => rfl⟩
end SIMSB
