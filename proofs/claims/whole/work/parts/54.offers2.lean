section OFFERS
variable {B : Nat} {σ μ : Mem} {g : gG}
theorem xNx_s {σ : Mem} : ∀ (r k : Nat) (nx ch : Int32), k + r ≤ 60 → (nx = -1 ∨ σ 7 (ix nx) 5 = 0) → ((xNxGo σ r k nx ch).1 = -1 ∨ σ 7 (ix (xNxGo σ r k nx ch).1) 5 = 0)
  | 0, _, _, _, _, h => h
  | r + 1, k, nx, ch, hk, h => by
    have hkeep := xNx_s r (k + 1) nx ch (by omega) h
    simp only [xNxGo]
    split
    · next hl =>
      have hs : σ 7 k 5 = 0 := by
        unfold xLook at hl
        split at hl
        · next q => exact q
        · cases hl
      have htake : (xNxGo σ r (k + 1) (nI k) (xCabFor σ k)).1 = -1 ∨ σ 7 (ix (xNxGo σ r (k + 1) (nI k) (xCabFor σ k)).1) 5 = 0 := xNx_s r (k + 1) (nI k) _ (by omega) (Or.inr (by rw [ix_nI (by omega)]; exact hs))
      repeat' split
      all_goals first | exact hkeep | exact htake
    · exact hkeep
/-- one round of offers -/
theorem rlR.step (h : rlR B σ μ) (hB : B < 2 ^ 31) (hM : Mok g μ) (hb : ¬ mBest μ = -1) : xMnoB σ = true ∧ rlR B (xMno σ) (mOff1 μ) := by
  have h60 := h.o60
  have h10 := h.c10
  obtain ⟨e1, h2⟩ := h.best hB
  obtain ⟨o, c, ho, hc, eo, eo2, ec, ec2, hcan⟩ := hM.best hb
  rw [← e1] at hb
  obtain ⟨o', ho', eo', ech, hch⟩ := h2.resolve_left hb
  obtain rfl : o' = o := nI_inj (by omega) (by rw [← h.eo] at ho; omega) (by rw [← eo', e1, eo])
  rw [h.cf hB ho'] at ech hch
  have hs : σ 7 o' 5 = 0 := by
    have := (xNx_s (σ := σ) (nO σ) 0 (-1) (-1) (by omega) (Or.inl rfl)).resolve_left hb
    rw [show (xNxGo σ (nO σ) 0 (-1) (-1)).1 = nI o' from eo', ix_nI (by omega)] at this
    exact this
  rw [← h.ec] at hc
  rw [← h.can ho' hc] at hcan
  obtain ⟨c1, c6⟩ := xCan_1 hcan
  have hch2 : ¬ (xNx σ).2 = -1 := by rw [ech]; exact hch
  refine ⟨by unfold xMnoB; rw [if_neg hb, if_neg hch2], ?_⟩
  have hx : xMno σ = gst (gst (gst (gst σ 7 o' 5 1) 7 o' 6 (nI c)) 7 o' 7 (σ 0 0 3)) 6 c 6 (nI o') := by
    unfold xMno xOffer
    rw [if_neg hb, if_neg hch2, eo', ech, ec, ix_nI (by omega), ix_nI (by omega)]
  have hm : mOff1 μ = gst (gst (gst (gst μ 9 4 c (nI o')) 9 5 c (μ 8 0 1)) 9 9 (8 * o' + 4) 1) 9 9 (8 * o' + 5) (nI c) := by
    unfold mOff1
    rw [eo2, ec2, eo, ec]
  rw [hx, hm]
  exact h.offer ho' hc hs c1 c6
theorem rlR.stop (h : rlR B σ μ) (hB : B < 2 ^ 31) (hb : mBest μ = -1) : xMnoB σ = false ∧ xMno σ = σ := by
  obtain ⟨e1, -⟩ := h.best hB
  rw [← e1] at hb
  exact ⟨by unfold xMnoB; rw [if_pos hb], by unfold xMno; rw [if_pos hb]⟩
theorem rlR.moGo (hB : B < 2 ^ 31) : ∀ (r r2 : Nat) {σ μ : Mem}, rlR B σ μ → Mok g μ → mIdle μ ≤ r → mIdle μ ≤ r2 → rlR B (xMoGo r σ) (mOAGo r2 μ)
  | 0, r2, σ, μ, h, hM, h1, _ => by
    have hb : mBest μ = -1 := by
      rcases Decidable.em (mBest μ = -1) with q | q
      · exact q
      · have := hM.idle q; omega
    have e : mOAGo r2 μ = μ := by cases r2 with
      | zero => rfl
      | succ r2 => rw [mOAGo, if_pos hb]
    rw [e]
    exact h
  | r + 1, r2, σ, μ, h, hM, h1, h2 => by
    rcases Decidable.em (mBest μ = -1) with hb | hb
    · have e : mOAGo r2 μ = μ := by cases r2 with
        | zero => rfl
        | succ r2 => rw [mOAGo, if_pos hb]
      obtain ⟨e1, e2⟩ := h.stop hB hb
      rw [e, xMoGo, if_neg (by rw [e1]; decide), e2]
      exact h
    · have hid := hM.idle hb
      obtain ⟨e1, h'⟩ := h.step hB hM hb
      rw [xMoGo, if_pos e1]
      cases r2 with
      | zero => omega
      | succ r2 =>
        rw [mOAGo, if_neg hb]
        exact rlR.moGo hB r r2 h' hM.off1 (by omega) (by omega)
theorem rlR.mo (h : rlR B σ μ) (hB : B < 2 ^ 31) (hM : Mok g μ) : rlR B (xMo σ) (mOA μ) := by
  have h1 := mIdGo_le μ (mC μ)
  have h2 := hM.c10
  refine rlR.moGo hB _ _ h hM ?_ ?_
  · rw [h.ec]; exact h1
  · unfold mIdle; omega
end OFFERS
