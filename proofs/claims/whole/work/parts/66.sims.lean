section SIMS
variable {B : Nat} {σ μ : Mem} {g : gG}
theorem lt5 (x : Int32) : (x < 5) ↔ ¬ (4 < x) := by
  rw [Int32.lt_iff_toInt_lt, Int32.lt_iff_toInt_lt]
  show x.toInt < (5 : Int) ↔ ¬ (4 : Int) < x.toInt
  omega
theorem in04 (x : Int32) : (if x < 0 then (1 : Int32) else if x < 5 then 0 else 1) = if mIn x 0 4 = true then 0 else 1 := by
  unfold mIn
  by_cases c : x < 0
  · simp [c]
  · by_cases d : x < 5
    · have e := (lt5 x).mp d
      simp [c, d, e]
    · have e : 4 < x := by rcases Decidable.em (4 < x) with q | q; exact q; exact absurd ((lt5 x).mpr q) d
      simp [c, d, e]
theorem rlR.s_cab (h : rlR B σ μ) (hB : B < 2 ^ 31) (hM : Mok g μ) (h0 : μ 8 0 0 = 0) (n x : Int32) : (mCab μ n x).2 = gst μ 8 0 0 (xCabE σ n x) ∧ (xCabE σ n x = 0 → (mCab μ n x).1 = xCabDet σ (ix n) x) := by
  unfold mCab xCabE mFl
  rw [h.okC hM, in04]
  by_cases c : mIsC μ n = true
  · rw [if_pos c, if_pos c]
    by_cases d : mIn x 0 4 = true
    · rw [if_pos d, if_pos d]
      exact ⟨(gst_self h0).symm, fun _ => (h.cabDet hB (by rw [h.ec]; exact (hM.isC c).1) x).symm⟩
    · rw [if_neg d, if_neg d]
      exact ⟨rfl, fun q => absurd q (by decide)⟩
  · rw [if_neg c, if_neg c]
    exact ⟨rfl, fun q => absurd q (by decide)⟩
theorem rlR.s_money (h : rlR B σ μ) (hM : Mok g μ) (h0 : μ 8 0 0 = 0) (n b : Int32) : (mMoney μ n b).2 = gst μ 8 0 0 (xMoneyE σ n) ∧ (xMoneyE σ n = 0 → (mMoney μ n b).1 = xMoney σ n b) := by
  unfold mMoney xMoneyE xMoney mFl
  rw [h.okC hM]
  by_cases c : mIsC μ n = true
  · rw [if_pos c, if_pos c]
    obtain ⟨-, -, -, -, -, k7, k8, -⟩ := h.cab (c := ix n) (by rw [h.ec]; exact (hM.isC c).1)
    by_cases d : b = 0
    · rw [if_pos d, if_pos d]
      exact ⟨(gst_self h0).symm, fun _ => k7.symm⟩
    · rw [if_neg d, if_neg d]
      exact ⟨(gst_self h0).symm, fun _ => k8.symm⟩
  · rw [if_neg c, if_neg c]
    exact ⟨rfl, fun q => absurd q (by decide)⟩
end SIMS
section SIMS2
variable {B : Nat} {σ μ : Mem} {g : gG}
theorem rlR.s_told (h : rlR B σ μ) (hM : Mok g μ) (h0 : μ 8 0 0 = 0) (hk : ∀ o, o < nO σ → σ 7 o 6 = -1 ∨ ∃ j, j < nC σ ∧ σ 7 o 6 = nI j) (n x : Int32) : (mTold μ n x).2 = gst μ 8 0 0 (xToldE σ n x) ∧ (xToldE σ n x = 0 → (mTold μ n x).1 = xOrdDet σ (ix n) x) := by
  unfold mTold xToldE mFl
  rw [h.okO hM, in04]
  by_cases c : mIsO μ n = true
  · rw [if_pos c, if_pos c]
    have ho : ix n < nO σ := by rw [h.eo]; exact (hM.isO c).1
    by_cases d : mIn x 0 4 = true
    · rw [if_pos d, if_pos d]
      obtain ⟨q1, q2⟩ := mIn_4 d
      exact ⟨(gst_self h0).symm, fun _ => by have e := h.ordDet ho (hk _ ho) (ix x) q1; rw [← q2] at e; exact e.symm⟩
    · rw [if_neg d, if_neg d]
      exact ⟨rfl, fun q => absurd q (by decide)⟩
  · rw [if_neg c, if_neg c]
    exact ⟨rfl, fun q => absurd q (by decide)⟩
theorem rlR.s_fare (h : rlR B σ μ) (hM : Mok g μ) (h0 : μ 8 0 0 = 0) (n x : Int32) : (mFareX μ n x).2 = gst μ 8 0 0 (xToldE σ n x) ∧ (xToldE σ n x = 0 → (mFareX μ n x).1 = xFareP σ (ix n) x) := by
  unfold mFareX xToldE mFl
  rw [h.okO hM, in04]
  by_cases c : mIsO μ n = true
  · rw [if_pos c, if_pos c]
    have ho : ix n < nO σ := by rw [h.eo]; exact (hM.isO c).1
    by_cases d : mIn x 0 4 = true
    · rw [if_pos d, if_pos d]
      obtain ⟨q1, q2⟩ := mIn_4 d
      exact ⟨(gst_self h0).symm, fun _ => by have e := h.fareP ho (ix x) q1; rw [← q2] at e; exact e.symm⟩
    · rw [if_neg d, if_neg d]
      exact ⟨rfl, fun q => absurd q (by decide)⟩
  · rw [if_neg c, if_neg c]
    exact ⟨rfl, fun q => absurd q (by decide)⟩
theorem rlR.s_queue (h : rlR B σ μ) (hB : B < 2 ^ 31) (h0 : μ 8 0 0 = 0) (z p : Int32) : (mQueue μ z p).2 = gst μ 8 0 0 (xQueueE z p) ∧ (xQueueE z p = 0 → (mQueue μ z p).1 = xCiq σ z p) := by
  unfold mQueue xQueueE mFl
  rw [xz_mz]
  by_cases c : mZo z = true
  · rw [if_pos c, if_pos c]
    by_cases d : p < 0
    · rw [if_pos d, if_neg (Int32.not_le.mpr d)]
      exact ⟨rfl, fun q => absurd q (by decide)⟩
    · rw [if_neg d, if_pos (Int32.not_lt.mp d)]
      exact ⟨(gst_self h0).symm, fun _ => (h.ciq hB (by rintro rfl; exact d (by decide))).symm⟩
  · rw [if_neg c, if_neg c]
    exact ⟨rfl, fun q => absurd q (by decide)⟩
end SIMS2
