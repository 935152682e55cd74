/-- thrown stays -/
def Ut (μ μ' : Mem) : Prop := μ' 8 0 0 = μ 8 0 0
theorem Ut.rf (σ : Mem) : Ut σ σ := rfl
theorem Ut.g8 {σ σ' : Mem} {f : Nat} {v : Int32} (hf : 0 ≠ f) (h : Ut σ σ') : Ut σ (gst σ' 8 0 f v) := (gst_nf hf).trans h
theorem Ut.g9 {σ σ' : Mem} {i f : Nat} {v : Int32} (h : Ut σ σ') : Ut σ (gst σ' 9 i f v) := (gst_nk (by decide)).trans h
theorem Ut.qup {σ σ' : Mem} {c : Nat} (h : Ut σ σ') : Ut σ (mQup σ' c) := (Ut.g8 (by decide) h).g9
theorem Ut.free {σ σ' : Mem} {c : Nat} {z : Int32} (h : Ut σ σ') : Ut σ (mFree σ' c z) := Ut.qup h.g9.g9.g9
theorem Ut.rfd {σ σ' : Mem} {c : Nat} (h : Ut σ σ') : Ut σ (mRfd σ' c) := by
  unfold mRfd
  split
  · exact h
  · exact h.g9.g9.g9.g9
theorem Ut.ride {σ σ' : Mem} {c o : Nat} (h : Ut σ σ') : Ut σ (mRide σ' c o) := h.g9.g9.g9.g9.g9.g9.g9.g9.g9
theorem Ut.done {σ σ' : Mem} {c o : Nat} (h : Ut σ σ') : Ut σ (mDone σ' c o) := Ut.free h.g9.g9.g9.g9
theorem Ut.off1 {σ σ' : Mem} (h : Ut σ σ') : Ut σ (mOff1 σ') := h.g9.g9.g9.g9
theorem Ut.oaGo {σ : Mem} : ∀ (r : Nat) {σ' : Mem}, Ut σ σ' → Ut σ (mOAGo r σ')
  | 0, _, h => h
  | r + 1, σ', h => by
    simp only [mOAGo]
    split
    · exact h
    · exact Ut.oaGo r h.off1
theorem Ut.oa {σ σ' : Mem} (h : Ut σ σ') : Ut σ (mOA σ') := Ut.oaGo 11 h
theorem Ut.ageGo {σ : Mem} : ∀ (r k : Nat) {σ' : Mem}, Ut σ σ' → Ut σ (mAgeGo r k σ')
  | 0, _, _, h => h
  | r + 1, k, σ', h => by
    simp only [mAgeGo]
    repeat' split
    all_goals first | exact Ut.ageGo r (k + 1) h | exact Ut.ageGo r (k + 1) h.rfd.qup
theorem Ut.runGo {σ : Mem} : ∀ (r k : Nat) (acc : Int32) {σ' : Mem}, Ut σ σ' → Ut σ (mRunGo r k acc σ').2
  | 0, _, _, _, h => h
  | r + 1, k, acc, σ', h => by
    simp only [mRunGo]
    repeat' split
    all_goals first | exact Ut.runGo r (k + 1) _ h | exact Ut.runGo r (k + 1) _ h.ride | exact Ut.runGo r (k + 1) _ h.done
theorem Ut.min {σ σ' : Mem} (h : Ut σ σ') : Ut σ (mMin σ').2 := (Ut.runGo _ 0 0 (Ut.ageGo _ 0 (Ut.g8 (by decide) h))).oa
theorem Ut.tickGo {σ : Mem} : ∀ (r : Nat) (acc : Int32) {σ' : Mem}, Ut σ σ' → Ut σ (mTickGo r acc σ').2
  | 0, _, _, h => h
  | r + 1, acc, σ', h => by
    simp only [mTickGo]
    exact Ut.tickGo r _ h.min
theorem Um.tickGo {σ : Mem} : ∀ (r : Nat) (acc : Int32) {σ' : Mem}, Um σ σ' → Um σ (mTickGo r acc σ').2
  | 0, _, _, h => h
  | r + 1, acc, σ', h => by
    simp only [mTickGo]
    exact Um.tickGo r _ h.min
theorem Ut.can1 {σ σ' : Mem} {o : Nat} (h : Ut σ σ') : Ut σ (mCan1 σ' o) := by
  unfold mCan1
  split
  · exact h.g9
  · exact h
theorem Ut.can2 {σ σ' : Mem} {o : Nat} (h : Ut σ σ') : Ut σ (mCan2 σ' o) := by
  unfold mCan2
  split
  · exact Ut.free h.can1
  · exact h.can1
theorem Um.can1 {σ σ' : Mem} {o : Nat} (h : Um σ σ') : Um σ (mCan1 σ' o) := by
  unfold mCan1
  split
  · exact h.g9
  · exact h
theorem Um.can2 {σ σ' : Mem} {o : Nat} (h : Um σ σ') : Um σ (mCan2 σ' o) := by
  unfold mCan2
  split
  · exact Um.free h.can1
  · exact h.can1
theorem Um.setWay (μ : Mem) (a b n : Int32) : Um μ (mSetWay μ a b n).2 := by
  unfold mSetWay mFl
  repeat' split
  all_goals first | exact (Um.rf μ).g9.g9 | exact (Um.rf μ).g8
theorem Um.addCab (μ : Mem) (a b : Int32) : Um μ (mAddCab μ a b).2 := by
  unfold mAddCab mFl
  repeat' split
  all_goals first | exact (Um.rf μ).g9.g9.g8 | exact (Um.rf μ).g8
theorem Um.start (μ : Mem) (n : Int32) : Um μ (mStart μ n).2 := by
  unfold mStart mFl
  repeat' split
  all_goals first | exact Um.oa (Um.free (Um.rf μ)) | exact (Um.rf μ).g8
theorem Um.stop (μ : Mem) (n : Int32) : Um μ (mStop μ n).2 := by
  unfold mStop mFl
  repeat' split
  all_goals first | exact Um.oa (Um.g9 (Um.rfd (Um.rf μ))) | exact (Um.rf μ).g8
theorem Um.setRates (μ : Mem) (a b : Int32) : Um μ (mSetRates μ a b).2 := by
  unfold mSetRates mFl
  repeat' split
  all_goals first | exact (Um.rf μ).g8.g8 | exact (Um.rf μ).g8
theorem Um.accept (μ : Mem) (n : Int32) : Um μ (mAccept μ n).2 := by
  unfold mAccept mFl
  repeat' split
  all_goals first | exact Um.oa (Um.rf μ).g9.g9.g9 | exact (Um.rf μ).g8
theorem Um.refuse (μ : Mem) (n : Int32) : Um μ (mRefuse μ n).2 := by
  unfold mRefuse mFl
  repeat' split
  all_goals first | exact Um.oa (Um.qup (Um.rfd (Um.rf μ))) | exact (Um.rf μ).g8
theorem Um.cancel (μ : Mem) (n : Int32) : Um μ (mCancel μ n).2 := by
  unfold mCancel mFl
  repeat' split
  all_goals first | exact Um.oa (Um.can2 (Um.rf μ)).g9.g9 | exact (Um.rf μ).g8
theorem Um.tick (μ : Mem) (n : Int32) : Um μ (mTick μ n).2 := by
  unfold mTick mFl
  repeat' split
  all_goals first | exact Um.tickGo _ _ (Um.rf μ) | exact (Um.rf μ).g8
theorem Um.settle (μ : Mem) (n : Int32) : Um μ (mSettle μ n).2 := by
  unfold mSettle mFl
  repeat' split
  all_goals first | exact (Um.rf μ).g9 | exact (Um.rf μ).g8
section TT
variable {B : Nat} {σ μ : Mem} {g : gG}
theorem rlR.t_start (h : rlR B σ μ) (hF : Mf g μ) (n : Int32) (e : xStartE σ n = 0) : Ut μ (mStart μ n).2 := by
  unfold xStartE at e
  unfold mStart mFl
  rw [h.okC hF.1] at e
  by_cases c : mIsC μ n = true
  · rw [if_pos c] at e
    rw [if_pos c]
    have hc : ix n < nC σ := by rw [h.ec]; exact (hF.1.isC c).1
    obtain ⟨-, -, -, k3, -⟩ := h.cab hc
    rw [← k3]
    by_cases d : σ 6 (ix n) 3 = 0
    · rw [if_pos d]
      exact Ut.oa (Ut.free (Ut.rf μ))
    · rw [if_neg d] at e
      exact absurd e (by decide)
  · rw [if_neg c] at e
    exact absurd e (by decide)
theorem rlR.t_stop (h : rlR B σ μ) (hF : Mf g μ) (n : Int32) (e : xStopE σ n = 0) : Ut μ (mStop μ n).2 := by
  unfold xStopE at e
  unfold mStop mFl
  rw [h.okC hF.1] at e
  by_cases c : mIsC μ n = true
  · rw [if_pos c] at e
    rw [if_pos c]
    have hc : ix n < nC σ := by rw [h.ec]; exact (hF.1.isC c).1
    obtain ⟨-, -, -, k3, -⟩ := h.cab hc
    rw [← k3]
    by_cases d : σ 6 (ix n) 3 = 1
    · rw [if_pos d]
      exact Ut.oa (Ut.g9 (Ut.rfd (Ut.rf μ)))
    · rw [if_neg d] at e
      exact absurd e (by decide)
  · rw [if_neg c] at e
    exact absurd e (by decide)
theorem rlR.t_accept (h : rlR B σ μ) (hF : Mf g μ) (n : Int32) (e : xAcceptE σ n = 0) : Ut μ (mAccept μ n).2 ∧ Ut μ (mRefuse μ n).2 := by
  unfold xAcceptE at e
  unfold mAccept mRefuse mFl
  rw [h.okC hF.1] at e
  by_cases c : mIsC μ n = true
  · rw [if_pos c] at e
    rw [if_pos c, if_pos c]
    have hc : ix n < nC σ := by rw [h.ec]; exact (hF.1.isC c).1
    have hi := h.isOff hc
    by_cases d : xOff σ (ix n) = -1
    · rw [if_pos d] at e
      exact absurd e (by decide)
    · rw [if_pos (hi.mpr d), if_pos (hi.mpr d)]
      exact ⟨Ut.oa (Ut.rf μ).g9.g9.g9, Ut.oa (Ut.qup (Ut.rfd (Ut.rf μ)))⟩
  · rw [if_neg c] at e
    exact absurd e (by decide)
theorem rlR.t_settle (h : rlR B σ μ) (hF : Mf g μ) (n : Int32) (e : xMoneyE σ n = 0) : Ut μ (mSettle μ n).2 := by
  unfold xMoneyE at e
  unfold mSettle mFl
  rw [h.okC hF.1] at e
  by_cases c : mIsC μ n = true
  · rw [if_pos c]
    exact (Ut.rf μ).g9
  · rw [if_neg c] at e
    exact absurd e (by decide)
theorem t_rates (a b : Int32) (e : xSetRatesE a b = 0) : Ut μ (mSetRates μ a b).2 := by
  unfold xSetRatesE at e
  unfold mSetRates mFl
  rw [in_low b 0 20 1 0, in_low a 0 100] at e
  by_cases c : mIn a 0 100 = true
  · rw [if_pos c] at e
    rw [if_pos c]
    by_cases d : mIn b 0 20 = true
    · rw [if_pos d]
      exact Ut.g8 (by decide) (Ut.g8 (by decide) (Ut.rf μ))
    · rw [if_neg d] at e
      exact absurd e (by decide)
  · rw [if_neg c] at e
    exact absurd e (by decide)
theorem t_way (a b n : Int32) (e : xSetWayE a b n = 0) : Ut μ (mSetWay μ a b n).2 := by
  unfold xSetWayE at e
  unfold mSetWay mFl
  rw [xz_mz, xz_mz, in_low n 1 120] at e
  by_cases c : mZo a = true
  · rw [if_pos c] at e
    rw [if_pos c]
    by_cases d : mZo b = true
    · rw [if_pos d] at e
      rw [if_pos d]
      by_cases f : a = b
      · rw [if_pos f] at e
        exact absurd e (by decide)
      · rw [if_neg f] at e
        rw [if_neg f]
        by_cases i : mIn n 1 120 = true
        · rw [if_pos i]
          exact (Ut.rf μ).g9.g9
        · rw [if_neg i] at e
          exact absurd e (by decide)
    · rw [if_neg d] at e
      exact absurd e (by decide)
  · rw [if_neg c] at e
    exact absurd e (by decide)
theorem rlR.t_cancel (h : rlR B σ μ) (hF : Mf g μ) (n : Int32) (e : xCancelE σ n = 0) : Ut μ (mCancel μ n).2 := by
  unfold xCancelE at e
  unfold mCancel mFl
  rw [h.okO hF.1] at e
  by_cases c : mIsO μ n = true
  · rw [if_pos c] at e
    rw [if_pos c]
    have ho : ix n < nO σ := by rw [h.eo]; exact (hF.1.isO c).1
    obtain ⟨⟨-, -, -, -, -, a5, -⟩, -⟩ := h.ord ho
    rw [← a5]
    have q : σ 7 (ix n) 5 = 0 ∨ σ 7 (ix n) 5 = 1 ∨ σ 7 (ix n) 5 = 2 := by
      by_cases c0 : σ 7 (ix n) 5 = 0
      · exact Or.inl c0
      · by_cases c1 : σ 7 (ix n) 5 = 1
        · exact Or.inr (Or.inl c1)
        · by_cases c2 : σ 7 (ix n) 5 = 2
          · exact Or.inr (Or.inr c2)
          · rw [if_neg c0, if_neg c1, if_neg c2] at e
            exact absurd e (by decide)
    rw [if_pos (le2 q)]
    exact Ut.oa (Ut.can2 (Ut.rf μ)).g9.g9
  · rw [if_neg c] at e
    exact absurd e (by decide)
theorem rlR.t_tick (h : rlR B σ μ) (n : Int32) (e : xTickE σ n = 0) : Ut μ (mTick μ n).2 ∧ ix n ≤ 300 := by
  unfold xTickE at e
  unfold mTick mFl
  obtain ⟨t, ht, et⟩ := h.1.2.2.2
  rw [in_low n 1 300 1] at e
  by_cases c : mIn n 1 300 = true
  · rw [if_pos c] at e
    rw [if_pos c]
    obtain ⟨q1, q2⟩ := mIn_300 c
    refine ⟨?_, q2⟩
    have e1 : (n ≤ 9999 - σ 0 0 3) ↔ t + ix n ≤ 9999 := by
      have e2 : (9999 : Int32) - nI t = nI (9999 - t) := pk_sub (a := 9999) (by omega)
      rw [et, e2, q1, nI_leI (by omega) (by omega), ix_nI (by omega)]
      omega
    have e3 : (μ 8 0 1 + n ≤ 9999) ↔ t + ix n ≤ 9999 := by
      rw [← h.now, et]
      have e4 : nI t + n = nI (t + ix n) := by rw [← nI_add, ← q1]
      rw [e4]
      exact nI_leI (b := 9999) (by omega) (by decide)
    by_cases d : t + ix n ≤ 9999
    · rw [if_pos (e3.mpr d)]
      exact Ut.tickGo _ _ (Ut.rf μ)
    · rw [if_neg (fun q => d (e1.mp q))] at e
      exact absurd e (by decide)
  · rw [if_neg c] at e
    exact absurd e (by decide)
end TT
