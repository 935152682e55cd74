theorem xz_mz (z : Int32) : xIsZone z = mZo z := by
  unfold xIsZone mZo mIn
  by_cases c : z < 0
  · rw [if_pos c, if_pos c]
  · rw [if_neg c, if_neg c]
    have e : (6 ≤ z) ↔ (5 < z) := by
      rw [Int32.le_iff_toInt_le, Int32.lt_iff_toInt_lt]
      show (6 : Int) ≤ z.toInt ↔ (5 : Int) < z.toInt
      omega
    by_cases d : 6 ≤ z
    · rw [if_pos d, if_pos (e.mp d)]
    · rw [if_neg d, if_neg (fun q => d (e.mpr q))]
theorem mIn_iff {n : Int32} {m : Nat} (hm : m ≤ 60) : mIn n 0 (nI m - 1) = decide (¬ n < 0 ∧ n < nI m) := by
  by_cases h : mIn n 0 (nI m - 1) = true
  · obtain ⟨h1, h2⟩ := mIn_n hm h
    rw [h]
    refine (decide_eq_true ?_).symm
    rw [h2]
    exact ⟨nI_pos (by omega), nI_lt h1 (by omega)⟩
  · have h' : mIn n 0 (nI m - 1) = false := by cases q : mIn n 0 (nI m - 1); rfl; exact absurd q h
    rw [h']
    refine (decide_eq_false ?_).symm
    rintro ⟨h1, h2⟩
    apply h
    rcases pk_ix n (n := m) (by omega) with q | q | ⟨j, hj, rfl⟩
    · exact absurd q h1
    · exact absurd h2 (Int32.not_lt.mpr q)
    · unfold mIn
      rw [if_neg (nI_pos (by omega)), if_neg]
      obtain ⟨m', rfl⟩ : ∃ q, m = q + 1 := ⟨m - 1, by omega⟩
      rw [nI_s1]
      exact nI_nlt (by omega) (by omega) |> fun q => by
        intro z
        have := (nI_ltI (by omega) (by omega)).mp z
        omega
section FACE2
variable {B : Nat} {σ μ : Mem} {g : gG}
theorem rlR.okC (h : rlR B σ μ) (hM : Mok g μ) (n : Int32) : xOkC σ n = mIsC μ n := by
  have := hM.c10
  unfold xOkC mIsC
  rw [hM.eC, mIn_iff (by omega), h.ec]
theorem rlR.okO (h : rlR B σ μ) (hM : Mok g μ) (n : Int32) : xOkO σ n = mIsO μ n := by
  unfold xOkO mIsO
  rw [hM.eO, mIn_iff hM.o60, h.eo]
theorem xMoGo_6 : ∀ (r : Nat) {σ : Mem} (i f : Nat), f ≠ 6 → xMoGo r σ 6 i f = σ 6 i f
  | 0, _, _, _, _ => rfl
  | r + 1, σ, i, f, hf => by
    have e : xMno σ 6 i f = σ 6 i f := by
      unfold xMno
      split
      · rfl
      · split
        · rfl
        · unfold xOffer
          rw [gst_nf hf, gst_nk (by decide), gst_nk (by decide), gst_nk (by decide)]
    simp only [xMoGo]
    split
    · rw [xMoGo_6 r i f hf, e]
    · exact e
theorem xPlace_mo {c : Nat} : xPlace (xMo σ) c = xPlace σ c := by
  have e : ∀ i f, f ≠ 6 → xMo σ 6 i f = σ 6 i f := fun i f hf => xMoGo_6 _ i f hf
  have eC : nC (xMo σ) = nC σ := by unfold nC; rw [(Un.mo (Un.rf σ)) 2 0 2 (by decide) (by decide) (by decide)]
  have go : ∀ (r k : Nat) (acc : Int32), xPlGo (xMo σ) c r k acc = xPlGo σ c r k acc := by
    intro r
    induction r with
    | zero => intro k acc; rfl
    | succ r ih =>
      intro k acc
      have e3 := e k 3 (by decide)
      have e2 := e k 2 (by decide)
      have f2 := e c 2 (by decide)
      have f4 := e c 4 (by decide)
      have e4 := e k 4 (by decide)
      by_cases h1 : σ 6 k 3 = 1 <;> by_cases h2 : σ 6 k 2 = σ 6 c 2 <;> by_cases h3 : σ 6 c 4 ≤ σ 6 k 4 <;> simp [xPlGo, xInQ, e3, e2, f2, f4, e4, h1, h2, h3, ih]
  unfold xPlace
  rw [e c 3 (by decide), eC, go]
end FACE2
