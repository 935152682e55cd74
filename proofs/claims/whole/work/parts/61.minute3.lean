section MIN3
variable {B : Nat} {σ μ : Mem}
theorem xMx_le {a b t : Int32} : xMx a b ≤ t ↔ (¬ t < a ∧ ¬ t < b) := by
  unfold xMx
  rw [Int32.not_lt, Int32.not_lt]
  by_cases c : a < b
  · rw [if_pos c]
    exact ⟨fun h => ⟨Int32.le_trans (Int32.le_of_lt c) h, h⟩, fun h => h.2⟩
  · rw [if_neg c]
    exact ⟨fun h => ⟨h, Int32.le_trans (Int32.not_lt.mp c) h⟩, fun h => h.1⟩
theorem rlR.fin (h : rlR B σ μ) {c o : Nat} (hc : c < nC σ) (ho : o < nO σ) (h6 : σ 6 c 6 = nI o) (hs : σ 6 c 3 = 3) : rlR (B + 1) (xEnd σ c o) (mDone μ c o) := by
  obtain ⟨k0, k1, k2, k3, k6, k7, k8, kz⟩ := h.cab hc
  obtain ⟨⟨a0, a1, a2, a3, a4, a5, a6, a9, a10⟩, b8, ⟨b11, b12, b13, b14⟩, z1, z2⟩ := h.ord ho
  have eS : xWhole σ o = mSum μ o := by unfold xWhole mSum; rw [b11, b12, b13, b14]
  have eK : xKept σ o = mKeep μ o := by unfold xKept mKeep; rw [eS]
  have h' := h.endA (a := μ 9 7 c + mKeep μ o) (b := μ 9 8 c + (mSum μ o - mKeep μ o)) hc ho h6 hs
  have h2 := h'.join (by simpa [nC, gst_app] using hc) (by simp [gst_app])
  have hx : xEnd σ c o = gst (gst (xJoin (gst (gst (gst (gst σ 6 c 7 (μ 9 7 c + mKeep μ o)) 6 c 8 (μ 9 8 c + (mSum μ o - mKeep μ o))) 6 c 2 (σ 7 o 2)) 6 c 6 (-1)) c) 7 o 5 4) 7 o 10 (σ 0 0 3) := by
    unfold xEnd
    rw [eK, eS, k7, k8]
  refine h2.congr ?_ ?_ ?_ ?_ ?_ ?_ ?_ ?_
  · intro f; rw [hx]; simp [xJoin, gst_app]
  · intro j; rw [hx]; simp [xJoin, gst_app]
  · rw [hx]; simp [xJoin, gst_app]
  · rw [hx]; simp [xJoin, gst_app]
  · intro i f
    rw [hx]
    unfold xJoin
    by_cases hi : i = c
    · by_cases h3 : f = 3
      · simp [gst_app, hi, h3]
      · simp [gst_app, hi, h3]
    · simp [gst_app, hi]
  · intro i f; rw [hx]; simp [xJoin, gst_app]
  · intro f hf; simp [mDone, mFree, mQup, gst_app]
  · intro i j hi
    unfold mDone mFree mQup
    by_cases hj : j = c
    · by_cases i2 : i = 2
      · subst i2; simp [gst_app, hj]
      · by_cases i3 : i = 3
        · subst i3; simp [gst_app, hj]
        · by_cases i4 : i = 4
          · subst i4; simp [gst_app, hj]
          · simp [gst_app, i2, i3, i4]
    · simp [gst_app, hj]
theorem xBegin_nC {c o : Nat} : nC (xBegin σ c o) = nC σ := by simp [xBegin, xMeter, nC, gst_app]
theorem xEnd_nC {c o : Nat} : nC (xEnd σ c o) = nC σ := by simp [xEnd, xJoin, nC, gst_app]
/-- ways and rides that are over -/
theorem rlR.bcGo : ∀ (r k : Nat) (acc : Int32) {B : Nat} {σ μ : Mem}, rlR B σ μ → k + r = nC σ → (xBcGo r k acc σ).1 = (mRunGo r k acc μ).1 ∧ rlR (B + r) (xBcGo r k acc σ).2 (mRunGo r k acc μ).2
  | 0, _, _, _, _, _, h, _ => ⟨rfl, h⟩
  | r + 1, k, acc, B, σ, μ, h, hk => by
    have hkc : k < nC σ := by omega
    obtain ⟨-, -, -, k3, k6, -⟩ := h.cab hkc
    have hskip : (xBcGo r (k + 1) acc σ).1 = (mRunGo r (k + 1) acc μ).1 ∧ rlR (B + (r + 1)) (xBcGo r (k + 1) acc σ).2 (mRunGo r (k + 1) acc μ).2 := by
      obtain ⟨q1, q2⟩ := rlR.bcGo r (k + 1) acc h (by omega)
      exact ⟨q1, q2.mono (by omega)⟩
    simp only [xBcGo, mRunGo]
    rw [← k3, ← k6, ← h.now]
    by_cases c1 : σ 6 k 6 = -1
    · rw [if_pos c1]
      have hst : σ 6 k 3 = 0 ∨ σ 6 k 3 = 1 := by
        rcases h.2.2.2.2.1.1 k hkc with q | q | ⟨o, ho, q, -⟩
        · exact Or.inl q.1
        · exact Or.inr q.1
        · have h60 := h.o60
          rw [c1] at q; exact absurd q.symm (nI_nm (by omega))
      have n2 : ¬ σ 6 k 3 = 2 := by rcases hst with q | q <;> rw [q] <;> decide
      have n3 : ¬ σ 6 k 3 = 3 := by rcases hst with q | q <;> rw [q] <;> decide
      rw [if_neg n2, if_neg n3]
      exact hskip
    · rw [if_neg c1]
      obtain ⟨o, ho, eo, eo2, -⟩ := h.of6 hkc c1
      obtain ⟨⟨-, -, -, -, a4, -⟩, -⟩ := h.ord ho
      obtain ⟨-, m2, m3⟩ := h.2.2.2.2.2.1 k o hkc ho eo
      rw [eo2, ← a4]
      by_cases c2 : σ 6 k 3 = 2
      · have n3 : ¬ σ 6 k 3 = 3 := by rw [c2]; decide
        rw [m2 c2, if_pos c2, if_pos c2]
        by_cases c3 : xMx (μ 9 5 k) (σ 7 o 4) ≤ σ 0 0 3
        · obtain ⟨q1, q2⟩ := xMx_le.mp c3
          rw [if_pos c3, if_neg q1, if_neg q2]
          obtain ⟨p1, p2⟩ := rlR.bcGo r (k + 1) acc (h.begin hkc ho eo c2) (by rw [xBegin_nC]; omega)
          exact ⟨p1, p2.mono (by omega)⟩
        · rw [if_neg c3]
          by_cases q1 : σ 0 0 3 < μ 9 5 k
          · rw [if_pos q1]; exact hskip
          · rw [if_neg q1]
            by_cases q2 : σ 0 0 3 < σ 7 o 4
            · rw [if_pos q2]; exact hskip
            · exact absurd (xMx_le.mpr ⟨q1, q2⟩) c3
      · rw [if_neg c2, if_neg c2]
        by_cases c3 : σ 6 k 3 = 3
        · rw [m3 c3, if_pos c3, if_pos c3]
          by_cases c4 : μ 9 5 k ≤ σ 0 0 3
          · rw [if_pos c4, if_neg (Int32.not_lt.mpr c4)]
            obtain ⟨p1, p2⟩ := rlR.bcGo r (k + 1) (acc + 1) (h.fin hkc ho eo c3) (by rw [xEnd_nC]; omega)
            exact ⟨p1, p2.mono (by omega)⟩
          · rw [if_neg c4, if_pos (Int32.not_le.mp c4)]; exact hskip
        · rw [if_neg c3, if_neg c3]
          split
          · exact hskip
          · exact hskip
end MIN3
