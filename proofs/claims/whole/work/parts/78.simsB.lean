section SIMSB
variable {B : Nat} {σ μ : Mem} {g : gG}
theorem rlR.s_addCab (h : rlR B σ μ) (hF : Mf g μ) (a b : Int32) :
    (xAddCabE σ a b = 0 → nC σ < 10 ∧ mZ b ∧ mAddCab μ a b = (nI (nC σ), gst (gst (gst μ 9 1 (nC σ) a) 9 2 (nC σ) b) 8 0 5 (nI (nC σ + 1)))) ∧ (¬ xAddCabE σ a b = 0 → (mAddCab μ a b).2 = gst μ 8 0 0 (xAddCabE σ a b)) := by
  have h10 := h.c10
  have e5 : μ 8 0 5 = nI (nC σ) := by rw [hF.1.eC, h.ec]
  unfold mAddCab xAddCabE mFl
  rw [in_low a 1 8, xz_mz]
  by_cases c : mIn a 1 8 = true
  · rw [if_pos c, if_pos c]
    by_cases d : mZo b = true
    · rw [if_pos d, if_pos d]
      by_cases e : nC σ < 10
      · have k1 : nI (nC σ) < 10 := nI_lt (b := 10) e (by decide)
        have k2 : ¬ μ 8 0 5 = 10 := by
          rw [e5]; intro z; have := nI_inj (b := 10) (by omega) (by decide) z; omega
        rw [if_pos k1, if_neg k2]
        refine ⟨fun _ => ⟨e, mZo_z d, ?_⟩, fun q => absurd rfl q⟩
        have k3 : μ 8 0 5 + 1 = nI (nC σ + 1) := by rw [e5]; exact nI_1 _
        have k4 : μ 8 0 5 + 1 - 1 = nI (nC σ) := by rw [k3, nI_s1]
        rw [k4, k3, ← h.ec]
      · have ee : nC σ = 10 := by omega
        have k1 : ¬ nI (nC σ) < 10 := by rw [ee]; decide
        have k2 : μ 8 0 5 = 10 := by rw [e5, ee]; rfl
        rw [if_neg k1, if_pos k2]
        exact ⟨fun q => absurd q (by decide), fun _ => rfl⟩
    · rw [if_neg d, if_neg d]
      exact ⟨fun q => absurd q (by decide), fun _ => rfl⟩
  · rw [if_neg c, if_neg c]
    exact ⟨fun q => absurd q (by decide), fun _ => rfl⟩
theorem rlR.s_order (h : rlR B σ μ) (hM : Mok g μ) (a b c d : Int32) :
    mOrdE μ a b c d = xOrderE σ a b c d ∧ (xOrderE σ a b c d = 0 → nO σ < 60 ∧ mZ a ∧ mZ b) := by
  have h60 := h.o60
  have e5 : μ 8 0 15 = nI (nO σ) := by rw [hM.eO, h.eo]
  unfold mOrdE xOrderE
  rw [in_low d (σ 0 0 3) 9999, in_low c 1 8, xz_mz, xz_mz, h.now]
  by_cases ca : mZo a = true
  · rw [if_pos ca, if_pos ca]
    by_cases cb : mZo b = true
    · rw [if_pos cb, if_pos cb]
      by_cases cc : mIn c 1 8 = true
      · rw [if_pos cc, if_pos cc]
        by_cases cd : mIn d (μ 8 0 1) 9999 = true
        · rw [if_pos cd, if_pos cd]
          by_cases e : nO σ < 60
          · have k1 : nI (nO σ) < 60 := nI_lt (b := 60) e (by decide)
            have k2 : ¬ μ 8 0 15 = 60 := by
              rw [e5]; intro z; have := nI_inj (b := 60) (by omega) (by decide) z; omega
            rw [if_pos k1, if_neg k2]
            exact ⟨rfl, fun _ => ⟨e, mZo_z ca, mZo_z cb⟩⟩
          · have ee : nO σ = 60 := by omega
            have k1 : ¬ nI (nO σ) < 60 := by rw [ee]; decide
            have k2 : μ 8 0 15 = 60 := by rw [e5, ee]; rfl
            rw [if_neg k1, if_pos k2]
            exact ⟨rfl, fun q => absurd q (by decide)⟩
        · rw [if_neg cd, if_neg cd]
          exact ⟨rfl, fun q => absurd q (by decide)⟩
      · rw [if_neg cc, if_neg cc]
        exact ⟨rfl, fun q => absurd q (by decide)⟩
    · rw [if_neg cb, if_neg cb]
      exact ⟨rfl, fun q => absurd q (by decide)⟩
  · rw [if_neg ca, if_neg ca]
    exact ⟨rfl, fun q => absurd q (by decide)⟩
end SIMSB
