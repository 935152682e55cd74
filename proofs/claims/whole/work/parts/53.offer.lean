theorem mT_t {μ : Mem} {o k o' k' : Nat} {v : Int32} (hk : k < 8) (hk' : k' < 8) : mT (gst μ 9 9 (8 * o + k) v) o' k' = if o' = o ∧ k' = k then v else mT μ o' k' := by
  unfold mT
  by_cases e : o' = o ∧ k' = k
  · obtain ⟨rfl, rfl⟩ := e
    rw [gst_eq, if_pos ⟨rfl, rfl⟩]
  · rw [if_neg e, gst_nf]
    intro z
    exact e ⟨by omega, by omega⟩
theorem mT_i {μ : Mem} {i f o k : Nat} {v : Int32} (hi : i ≠ 9) : mT (gst μ 9 i f v) o k = mT μ o k := by unfold mT; exact gst_ni (Ne.symm hi)
theorem mT_8 {μ : Mem} {f o k : Nat} {v : Int32} : mT (gst μ 8 0 f v) o k = mT μ o k := by unfold mT; exact gst_nk (by decide)
theorem nC_g {σ : Mem} {k i f : Nat} {v : Int32} (h : k ≠ 2) : nC (gst σ k i f v) = nC σ := by unfold nC; rw [gst_nk (Ne.symm h)]
theorem nO_g {σ : Mem} {k i f : Nat} {v : Int32} (h : k ≠ 3) : nO (gst σ k i f v) = nO σ := by unfold nO; rw [gst_nk (Ne.symm h)]
section OFFER
variable {B : Nat} {σ μ : Mem}
/-- a cab's link and an order's -/
theorem rlR.lc (h : rlR B σ μ) {c o : Nat} (hc : c < nC σ) (ho : o < 2 ^ 31) (e : σ 6 c 6 = nI o) : o < nO σ ∧ σ 7 o 6 = nI c ∧ (σ 6 c 3 = 1 ∨ σ 6 c 3 = 2 ∨ σ 6 c 3 = 3) ∧ σ 7 o 5 = σ 6 c 3 := by
  have h60 := h.o60
  rcases h.2.2.2.2.1.1 c hc with ⟨-, q⟩ | ⟨-, q⟩ | ⟨o', ho', e', r1, r2, r3⟩
  · rw [e] at q; exact absurd q (nI_nm ho)
  · rw [e] at q; exact absurd q (nI_nm ho)
  · obtain rfl : o = o' := nI_inj ho (by omega) (by rw [← e, e'])
    exact ⟨ho', r1, r2, r3⟩
theorem rlR.lo (h : rlR B σ μ) {c o : Nat} (ho : o < nO σ) (hc : c < 2 ^ 31) (hs : σ 7 o 5 = 1 ∨ σ 7 o 5 = 2 ∨ σ 7 o 5 = 3) : ∃ c, c < nC σ ∧ σ 7 o 6 = nI c ∧ σ 6 c 6 = nI o ∧ σ 7 o 5 = σ 6 c 3 := by
  rcases h.2.2.2.2.1.2 o ho with ⟨q, -⟩ | ⟨c, hc, e1, e2, e3, e4⟩ | q | q
  · rw [q] at hs; exact absurd hs (by decide)
  · exact ⟨c, hc, e1, e2, e4⟩
  · rw [q] at hs; exact absurd hs (by decide)
  · rw [q] at hs; exact absurd hs (by decide)
theorem rlR.offer (h : rlR B σ μ) {o c : Nat} (ho : o < nO σ) (hc : c < nC σ) (hs : σ 7 o 5 = 0) (h1 : σ 6 c 3 = 1) (h6 : σ 6 c 6 = -1) :
    rlR B (gst (gst (gst (gst σ 7 o 5 1) 7 o 6 (nI c)) 7 o 7 (σ 0 0 3)) 6 c 6 (nI o)) (gst (gst (gst (gst μ 9 4 c (nI o)) 9 5 c (μ 8 0 1)) 9 9 (8 * o + 4) 1) 9 9 (8 * o + 5) (nI c)) := by
  have h60 := h.o60
  have h10 := h.c10
  obtain ⟨σ', e⟩ : ∃ z, z = gst (gst (gst (gst σ 7 o 5 1) 7 o 6 (nI c)) 7 o 7 (σ 0 0 3)) 6 c 6 (nI o) := ⟨_, rfl⟩
  obtain ⟨μ', eμ⟩ : ∃ z, z = gst (gst (gst (gst μ 9 4 c (nI o)) 9 5 c (μ 8 0 1)) 9 9 (8 * o + 4) 1) 9 9 (8 * o + 5) (nI c) := ⟨_, rfl⟩
  rw [← e, ← eμ]
  have eC : nC σ' = nC σ := by rw [e, nC_g (by decide), nC_g (by decide), nC_g (by decide), nC_g (by decide)]
  have eO : nO σ' = nO σ := by rw [e, nO_g (by decide), nO_g (by decide), nO_g (by decide), nO_g (by decide)]
  have mCe : mC μ' = mC μ := by rw [eμ, mC_9, mC_9, mC_9, mC_9]
  have mOe : mO μ' = mO μ := by rw [eμ, mO_9, mO_9, mO_9, mO_9]
  have s0 : ∀ i f, σ' 0 i f = σ 0 i f := fun i f => by simp [e, gst_app]
  have s1 : ∀ i f, σ' 1 i f = σ 1 i f := fun i f => by simp [e, gst_app]
  have s6 : ∀ i f, f ≠ 6 → σ' 6 i f = σ 6 i f := fun i f hf => by simp [e, gst_app, hf]
  have s66 : ∀ i, σ' 6 i 6 = if i = c then nI o else σ 6 i 6 := fun i => by simp [e, gst_app]
  have s7 : ∀ i f, f ≠ 5 → f ≠ 6 → f ≠ 7 → σ' 7 i f = σ 7 i f := fun i f a b d => by simp [e, gst_app, a, b, d]
  have s75 : ∀ i, σ' 7 i 5 = if i = o then 1 else σ 7 i 5 := fun i => by simp [e, gst_app]
  have s76 : ∀ i, σ' 7 i 6 = if i = o then nI c else σ 7 i 6 := fun i => by simp [e, gst_app]
  have s77 : ∀ i, σ' 7 i 7 = if i = o then σ 0 0 3 else σ 7 i 7 := fun i => by simp [e, gst_app]
  have t8 : ∀ i f, μ' 8 i f = μ 8 i f := fun i f => by simp [eμ, gst_app]
  have t9 : ∀ i f, i ≠ 4 → i ≠ 5 → i ≠ 9 → μ' 9 i f = μ 9 i f := fun i f a b d => by simp [eμ, gst_app, a, b, d]
  have t94 : ∀ i, μ' 9 4 i = if i = c then nI o else μ 9 4 i := fun i => by simp [eμ, gst_app]
  have t95 : ∀ i, μ' 9 5 i = if i = c then μ 8 0 1 else μ 9 5 i := fun i => by simp [eμ, gst_app]
  have tT : ∀ i k, k < 8 → mT μ' i k = if i = o ∧ k = 5 then nI c else if i = o ∧ k = 4 then 1 else mT μ i k := fun i k hk => by
    rw [eμ, mT_t (by decide) hk, mT_t (by decide) hk, mT_i (by decide), mT_i (by decide)]
  clear e eμ
  obtain ⟨hA, hC, hO, hT, hL, hM, hN⟩ := id h
  refine ⟨⟨⟨by rw [eC, mCe]; exact hA.1.1, by rw [eO, mOe]; exact hA.1.2.1, by rw [eC]; exact h10, by rw [eO]; exact h60⟩, ⟨by rw [s0, t8]; exact hA.2.1.1, by rw [s0, t8]; exact hA.2.1.2.1, by rw [s0, t8]; exact hA.2.1.2.2⟩, fun j hj => by rw [s1, t9 0 j (by decide) (by decide) (by decide)]; exact hA.2.2.1 j hj, by rw [s0]; exact hA.2.2.2⟩, ?_, ?_, ?_, ⟨?_, ?_⟩, ?_, ⟨?_, ?_⟩⟩
  · intro i hi
    rw [eC] at hi
    rw [s6 i 0 (by decide), s6 i 1 (by decide), s6 i 2 (by decide), s6 i 3 (by decide), s66, s6 i 7 (by decide), s6 i 8 (by decide), t9 1 i (by decide) (by decide) (by decide), t9 2 i (by decide) (by decide) (by decide), t9 3 i (by decide) (by decide) (by decide), t94, t9 7 i (by decide) (by decide) (by decide), t9 8 i (by decide) (by decide) (by decide)]
    obtain ⟨a0, a1, a2, a3, a6, a7⟩ := hC i hi
    exact ⟨a0, a1, a2, a3, by rw [a6], a7⟩
  · intro i hi
    rw [eO] at hi
    rw [s7 i 0 (by decide) (by decide) (by decide), s7 i 1 (by decide) (by decide) (by decide), s7 i 2 (by decide) (by decide) (by decide), s7 i 3 (by decide) (by decide) (by decide), s7 i 4 (by decide) (by decide) (by decide), s75, s76, s7 i 9 (by decide) (by decide) (by decide), s7 i 10 (by decide) (by decide) (by decide), s7 i 8 (by decide) (by decide) (by decide), s7 i 11 (by decide) (by decide) (by decide), s7 i 12 (by decide) (by decide) (by decide), s7 i 13 (by decide) (by decide) (by decide), s7 i 14 (by decide) (by decide) (by decide),
      tT i 0 (by decide), tT i 1 (by decide), tT i 2 (by decide), tT i 3 (by decide), tT i 4 (by decide), tT i 5 (by decide), tT i 6 (by decide), tT i 7 (by decide), t9 10 i (by decide) (by decide) (by decide), t9 11 _ (by decide) (by decide) (by decide), t9 11 _ (by decide) (by decide) (by decide), t9 11 _ (by decide) (by decide) (by decide), t9 11 _ (by decide) (by decide) (by decide)]
    obtain ⟨⟨a0, a1, a2, a3, a4, a5, a6, a9, a10⟩, rest⟩ := hO i hi
    refine ⟨⟨a0, ?_, ?_, ?_, ?_, ?_, ?_, ?_, ?_⟩, rest⟩
    · simpa using a1
    · simpa using a2
    · simpa using a3
    · simpa using a4
    · simp [a5]
    · simp [a6]
    · simpa using a9
    · simpa using a10
  · obtain ⟨u, v, U, V, b1, b2, b3, b4, b5, b6⟩ := hT
    refine ⟨u, v, U, V, by rw [s0]; exact b1, by rw [t8]; exact b2, b3, b4, fun i hi h3 => ?_, fun i j hi hj h3 h4 => ?_⟩
    · rw [eC] at hi
      rw [s6 i 3 (by decide)] at h3
      rw [s6 i 4 (by decide), t9 6 i (by decide) (by decide) (by decide)]
      exact b5 i hi h3
    · rw [eC] at hi hj
      rw [s6 i 3 (by decide)] at h3
      rw [s6 j 3 (by decide)] at h4
      exact b6 i j hi hj h3 h4
  · intro i hi
    rw [eC] at hi
    rw [s6 i 3 (by decide), s66, eO]
    by_cases ei : i = c
    · subst ei
      rw [if_pos rfl]
      exact Or.inr (Or.inr ⟨o, ho, rfl, by rw [s76, if_pos rfl], Or.inl h1, by rw [s75, if_pos rfl, h1]⟩)
    · rw [if_neg ei]
      rcases hL.1 i hi with q | q | ⟨o', ho', r1, r2, r3, r4⟩
      · exact Or.inl q
      · exact Or.inr (Or.inl q)
      · have hne : o' ≠ o := by rintro rfl; rw [hs] at r4; rw [← r4] at r3; exact absurd r3 (by decide)
        exact Or.inr (Or.inr ⟨o', ho', r1, by rw [s76, if_neg hne]; exact r2, r3, by rw [s75, if_neg hne]; exact r4⟩)
  · intro i hi
    rw [eO] at hi
    rw [s75, s76, eC]
    by_cases ei : i = o
    · subst ei
      rw [if_pos rfl, if_pos rfl]
      exact Or.inr (Or.inl ⟨c, hc, rfl, by rw [s66, if_pos rfl], Or.inl rfl, by rw [s6 c 3 (by decide), h1]⟩)
    · rw [if_neg ei, if_neg ei]
      rcases hL.2 i hi with q | ⟨c', hc', r1, r2, r3, r4⟩ | q | q
      · exact Or.inl q
      · have hne : c' ≠ c := by rintro rfl; rw [h6] at r2; exact absurd r2.symm (nI_nm (by omega))
        exact Or.inr (Or.inl ⟨c', hc', r1, by rw [s66, if_neg hne]; exact r2, r3, by rw [s6 c' 3 (by decide)]; exact r4⟩)
      · exact Or.inr (Or.inr (Or.inl q))
      · exact Or.inr (Or.inr (Or.inr q))
  · intro i j hi hj hl
    rw [eC] at hi
    rw [eO] at hj
    rw [s66] at hl
    rw [s6 i 3 (by decide), s6 i 5 (by decide), t95, s77, s7 j 4 (by decide) (by decide) (by decide)]
    by_cases ei : i = c
    · subst ei
      rw [if_pos rfl] at hl
      obtain rfl : o = j := nI_inj (by omega) (by omega) hl
      rw [if_pos rfl, if_pos rfl, h1]
      exact ⟨fun _ => hA.2.1.1.symm, fun z => absurd z (by decide), fun z => absurd z (by decide)⟩
    · rw [if_neg ei] at hl
      have hne : j ≠ o := by
        rintro rfl
        obtain ⟨-, -, r3, r4⟩ := h.lc hi (by omega) hl
        rw [hs] at r4; rw [← r4] at r3; exact absurd r3 (by decide)
      rw [if_neg ei, if_neg hne]
      exact hM i j hi hj hl
  · intro i hi hi2
    rw [eC] at hi
    rw [t9 3 i (by decide) (by decide) (by decide), t94, t9 7 i (by decide) (by decide) (by decide), t9 8 i (by decide) (by decide) (by decide), if_neg (by omega)]
    exact hN.1 i hi hi2
  · intro i hi hi2
    rw [eO] at hi
    rw [t9 10 i (by decide) (by decide) (by decide), t9 11 _ (by decide) (by decide) (by decide), t9 11 _ (by decide) (by decide) (by decide), t9 11 _ (by decide) (by decide) (by decide), t9 11 _ (by decide) (by decide) (by decide)]
    exact hN.2 i hi hi2
end OFFER
