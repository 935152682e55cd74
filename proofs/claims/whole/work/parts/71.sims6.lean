section SIMS7
variable {B : Nat} {σ μ : Mem} {g : gG}
theorem rlR.s_nearest (h : rlR B σ μ) (h0 : μ 8 0 0 = 0) (z n : Int32) : (mNearest μ z n).2 = gst μ 8 0 0 (xNearE z n) ∧ (xNearE z n = 0 → (mNearest μ z n).1 = xNear σ z n) := by
  unfold mNearest xNearE mFl
  rw [xz_mz, in_low n 1 8]
  by_cases c : mZo z = true
  · rw [if_pos c, if_pos c]
    by_cases d : mIn n 1 8 = true
    · rw [if_pos d, if_pos d]
      exact ⟨(gst_self h0).symm, fun _ => (h.near2 (mZo_z c)).symm⟩
    · rw [if_neg d, if_neg d]
      exact ⟨rfl, fun q => absurd q (by decide)⟩
  · rw [if_neg c, if_neg c]
    exact ⟨rfl, fun q => absurd q (by decide)⟩
theorem rlR.s_count (h : rlR B σ μ) (hM : Mok g μ) (h0 : μ 8 0 0 = 0) (x : Int32) : (mCount μ x).2 = gst μ 8 0 0 (xCountE x) ∧ (xCountE x = 0 → (mCount μ x).1 = xCount σ x) := by
  unfold mCount xCountE xCount mFl
  rw [in_low x 0 7]
  by_cases c : mIn x 0 7 = true
  · rw [if_pos c, if_pos c]
    by_cases d0 : x = 0
    · have n2 : ¬ (2 ≤ x) := by rw [d0]; decide
      rw [if_neg n2, if_pos d0, if_pos d0]
      exact ⟨(gst_self h0).symm, fun _ => by rw [h.ec]; exact hM.eC⟩
    · by_cases d1 : x = 1
      · have n2 : ¬ (2 ≤ x) := by rw [d1]; decide
        rw [if_neg n2, if_neg d0, if_neg d0, if_pos d1]
        exact ⟨(gst_self h0).symm, fun _ => by rw [h.eo]; exact hM.eO⟩
      · have n2 : 2 ≤ x := by
          obtain ⟨q1, q2⟩ := mIn_n (n := x) (m := 8) (by decide) (by rw [show nI 8 - 1 = 7 from by decide]; exact c)
          rw [q2]
          refine nI_le (a := 2) ?_ (by omega)
          have e0 : ix x ≠ 0 := fun z => d0 (by rw [q2, z]; rfl)
          have e1 : ix x ≠ 1 := fun z => d1 (by rw [q2, z]; rfl)
          omega
        rw [if_pos n2, if_neg d0, if_neg d1]
        exact ⟨(gst_self h0).symm, fun _ => (h.cnt x).symm⟩
  · rw [if_neg c, if_neg c]
    exact ⟨rfl, fun q => absurd q (by decide)⟩
end SIMS7
