theorem gst_self {σ : Mem} {k i f : Nat} {v : Int32} (h : σ k i f = v) : gst σ k i f v = σ := by
  funext k' i' f'
  rw [gst_app]
  split
  · next q => obtain ⟨rfl, rfl, rfl⟩ := q; exact h.symm
  · rfl
theorem mFree_q {μ : Mem} {c : Nat} (h3 : μ 9 3 c = 1) (h4 : μ 9 4 c = -1) : mFree μ c (μ 9 2 c) = mQup μ c := by
  unfold mFree
  rw [gst_self h3, gst_self (rfl : μ 9 2 c = μ 9 2 c), gst_self h4]
section AGE
variable {B : Nat} {σ μ : Mem}
theorem xOff_iff {c : Nat} : ¬ xOff σ c = -1 ↔ (σ 6 c 3 = 1 ∧ ¬ σ 6 c 6 = -1) := by
  unfold xOff
  by_cases h : σ 6 c 3 = 1
  · rw [if_pos h]; exact ⟨fun q => ⟨h, q⟩, fun q => q.2⟩
  · rw [if_neg h]; exact ⟨fun q => absurd rfl q, fun q => absurd q.1 h⟩
theorem rlR.isOff (h : rlR B σ μ) {c : Nat} (hc : c < nC σ) : mIsOff μ c = true ↔ ¬ xOff σ c = -1 := by
  obtain ⟨-, -, -, k3, k6, -⟩ := h.cab hc
  rw [xOff_iff]
  unfold mIsOff
  rw [← k3, ← k6]
  by_cases h1 : σ 6 c 3 = 1
  · rw [if_pos h1]
    by_cases h2 : σ 6 c 6 = -1
    · rw [if_pos h2]; exact ⟨fun q => (nomatch q), fun q => absurd h2 q.2⟩
    · rw [if_neg h2]; exact ⟨fun _ => ⟨h1, h2⟩, fun _ => rfl⟩
  · rw [if_neg h1]; exact ⟨fun q => (nomatch q), fun q => absurd q.1 h1⟩
/-- the order of a cab -/
theorem rlR.of6 (h : rlR B σ μ) {c : Nat} (hc : c < nC σ) (h6 : ¬ σ 6 c 6 = -1) : ∃ o, o < nO σ ∧ σ 6 c 6 = nI o ∧ ix (σ 6 c 6) = o ∧ σ 7 o 6 = nI c ∧ (σ 6 c 3 = 1 ∨ σ 6 c 3 = 2 ∨ σ 6 c 3 = 3) ∧ σ 7 o 5 = σ 6 c 3 := by
  have h60 := h.o60
  rcases h.2.2.2.2.1.1 c hc with ⟨-, q⟩ | ⟨-, q⟩ | ⟨o, ho, e, r⟩
  · exact absurd q h6
  · exact absurd q h6
  · exact ⟨o, ho, e, by rw [e, ix_nI (by omega)], r⟩
theorem xTurn_nC {c : Nat} : nC (xTurn σ c) = nC σ := by
  unfold xTurn
  split
  · rfl
  · simp [xJoin, nC, gst_app]
theorem rlR.rfd1 (h : rlR B σ μ) {c : Nat} (hc : c < nC σ) (hoff : ¬ xOff σ c = -1) : ∃ σ1, xTurn σ c = xJoin σ1 c ∧ rlR B σ1 (mRfd μ c) ∧ nC σ1 = nC σ ∧ σ1 6 c 3 = 1 ∧ σ1 6 c 6 = -1 ∧ mRfd μ c 9 3 c = 1 ∧ mRfd μ c 9 4 c = -1 := by
  obtain ⟨h1, h6⟩ := xOff_iff.mp hoff
  obtain ⟨o, ho, eo, eo2, -⟩ := h.of6 hc h6
  obtain ⟨k0, -, -, k3, k6, -⟩ := h.cab hc
  obtain ⟨-, b8, -⟩ := h.ord ho
  have ex : xOff σ c = σ 6 c 6 := by unfold xOff; rw [if_pos h1]
  have hb : σ 7 o 8 ||| xBit σ c = μ 9 10 o ||| ((1 : Int32) <<< (nI c &&& 31)) := by unfold xBit; rw [b8, k0]
  have hm : mRfd μ c = gst (gst (gst (gst μ 9 10 o (σ 7 o 8 ||| xBit σ c)) 9 9 (8 * o + 4) 0) 9 9 (8 * o + 5) (-1)) 9 4 c (-1) := by
    unfold mRfd
    rw [← k6, if_neg h6, eo2, hb]
  refine ⟨gst (gst (gst (gst σ 7 o 8 (σ 7 o 8 ||| xBit σ c)) 7 o 5 0) 7 o 6 (-1)) 6 c 6 (-1), ?_, ?_, by simp [nC, gst_app], by simpa [gst_app] using h1, by simp [gst_app], ?_, ?_⟩
  · unfold xTurn
    rw [if_neg hoff, ex, eo2]
  · rw [hm]; exact h.rfd hc ho eo h1
  · rw [mRfd_3, ← k3]; exact h1
  · rw [mRfd_4, if_pos rfl]
theorem rlR.refuse (h : rlR B σ μ) {c : Nat} (hc : c < nC σ) (hoff : ¬ xOff σ c = -1) : rlR (B + 1) (xTurn σ c) (mQup (mRfd μ c) c) := by
  obtain ⟨σ1, e1, h', eC, -, h6, t3, t4⟩ := h.rfd1 hc hoff
  rw [e1, ← mFree_q t3 t4]
  exact h'.join (by rw [eC]; exact hc) h6
/-- old offers -/
theorem rlR.roGo : ∀ (r k : Nat) {B : Nat} {σ μ : Mem}, rlR B σ μ → k + r = nC σ → rlR (B + r) (xRoGo r k σ) (mAgeGo r k μ)
  | 0, _, _, _, _, h, _ => h
  | r + 1, k, B, σ, μ, h, hk => by
    have hkc : k < nC σ := by omega
    have hskip : rlR (B + (r + 1)) (xRoGo r (k + 1) σ) (mAgeGo r (k + 1) μ) := (rlR.roGo r (k + 1) h (by omega)).mono (by omega)
    have hi := h.isOff hkc
    simp only [xRoGo, mAgeGo]
    by_cases c1 : xOff σ k = -1
    · rw [if_pos c1, if_neg (fun q => hi.mp q c1)]; exact hskip
    · rw [if_neg c1, if_pos (hi.mpr c1)]
      obtain ⟨h1, h6⟩ := xOff_iff.mp c1
      obtain ⟨o, ho, eo, eo2, -⟩ := h.of6 hkc h6
      have ex : xOff σ k = σ 6 k 6 := by unfold xOff; rw [if_pos h1]
      have ht : μ 9 5 k = σ 7 o 7 := (h.2.2.2.2.2.1 k o hkc ho eo).1 h1
      rw [ex, eo2, ht, ← h.now]
      by_cases c2 : σ 0 0 3 - σ 7 o 7 < 2
      · rw [if_pos c2, if_neg (Int32.not_le.mpr c2)]; exact hskip
      · rw [if_neg c2, if_pos (Int32.not_lt.mp c2)]
        have := rlR.roGo r (k + 1) (h.refuse hkc c1) (by rw [xTurn_nC]; omega)
        exact this.mono (by omega)
end AGE
