section STEPS
variable {B B' : Nat} {σ μ σ' μ' : Mem}
theorem rlA.of (h : rlA σ μ) (s0 : ∀ f, f ≠ 6 → σ' 0 0 f = σ 0 0 f) (s1 : ∀ j, σ' 1 0 j = σ 1 0 j) (s2 : σ' 2 0 2 = σ 2 0 2) (s3 : σ' 3 0 2 = σ 3 0 2) (t8 : ∀ f, f ≠ 12 → μ' 8 0 f = μ 8 0 f) (t0 : ∀ j, μ' 9 0 j = μ 9 0 j) : rlA σ' μ' := by
  have eC : nC σ' = nC σ := by unfold nC; rw [s2]
  have eO : nO σ' = nO σ := by unfold nO; rw [s3]
  have fC : mC μ' = mC μ := by unfold mC; rw [t8 5 (by decide)]
  have fO : mO μ' = mO μ := by unfold mO; rw [t8 15 (by decide)]
  obtain ⟨⟨a1, a2, a3, a4⟩, ⟨b1, b2, b3⟩, c1, d1⟩ := h
  exact ⟨⟨by rw [eC, fC]; exact a1, by rw [eO, fO]; exact a2, by rw [eC]; exact a3, by rw [eO]; exact a4⟩, ⟨by rw [s0 3 (by decide), t8 1 (by decide)]; exact b1, by rw [s0 4 (by decide), t8 3 (by decide)]; exact b2, by rw [s0 5 (by decide), t8 4 (by decide)]; exact b3⟩, fun j hj => by rw [s1, t0]; exact c1 j hj, by rw [s0 3 (by decide)]; exact d1⟩
/-- no cab is FREE that wasn't -/
theorem rlT.of (h : rlT B σ μ) (eC : nC σ' = nC σ) (s06 : σ' 0 0 6 = σ 0 0 6) (t12 : μ' 8 0 12 = μ 8 0 12) (hk : ∀ i, i < nC σ → σ' 6 i 3 = 1 → σ 6 i 3 = 1 ∧ σ' 6 i 4 = σ 6 i 4 ∧ μ' 9 6 i = μ 9 6 i) : rlT B σ' μ' := by
  obtain ⟨u, v, U, V, b1, b2, b3, b4, b5, b6⟩ := h
  refine ⟨u, v, U, V, s06.trans b1, t12.trans b2, b3, b4, fun i hi h3 => ?_, fun i j hi hj h3 h4 => ?_⟩
  · rw [eC] at hi
    obtain ⟨q1, q2, q3⟩ := hk i hi h3
    rw [q2, q3]
    exact b5 i hi q1
  · rw [eC] at hi hj
    exact b6 i j hi hj (hk i hi h3).1 (hk j hj h4).1
theorem rlT.mono (h : rlT B σ μ) (hB : B ≤ B') : rlT B' σ μ := by
  obtain ⟨u, v, U, V, b1, b2, b3, b4, b5⟩ := h
  exact ⟨u, v, U, V, b1, b2, Nat.le_trans b3 hB, Nat.le_trans b4 hB, b5⟩
theorem rlR.mono (h : rlR B σ μ) (hB : B ≤ B') : rlR B' σ μ := ⟨h.1, h.2.1, h.2.2.1, h.2.2.2.1.mono hB, h.2.2.2.2⟩
/-- cab c comes to the end of the queues -/
theorem rlT.join (h : rlT B σ μ) {c : Nat} (eC : nC σ' = nC σ) (s06 : σ' 0 0 6 = σ 0 0 6 + 1) (t12 : μ' 8 0 12 = μ 8 0 12 + 1) (sc : σ' 6 c 4 = σ 0 0 6) (tc : μ' 9 6 c = μ 8 0 12 + 1)
    (hk : ∀ i, i < nC σ → i ≠ c → σ' 6 i 3 = 1 → σ 6 i 3 = 1 ∧ σ' 6 i 4 = σ 6 i 4 ∧ μ' 9 6 i = μ 9 6 i) : rlT (B + 1) σ' μ' := by
  obtain ⟨u, v, U, V, b1, b2, b3, b4, b5, b6⟩ := h
  refine ⟨fun i => if i = c then U else u i, fun i => if i = c then V + 1 else v i, U + 1, V + 1, by rw [s06, b1]; exact nI_1 U, by rw [t12, b2]; exact nI_1 V, by omega, by omega, fun i hi h3 => ?_, fun i j hi hj h3 h4 hne => ?_⟩
  · rw [eC] at hi
    by_cases e : i = c
    · subst e
      simp only [if_true]
      rw [sc, tc]
      exact ⟨b1, by omega, by rw [b2]; exact nI_1 V, Nat.le_refl _⟩
    · simp only [if_neg e]
      obtain ⟨q1, q2, q3⟩ := hk i hi e h3
      obtain ⟨p1, p2, p3, p4⟩ := b5 i hi q1
      rw [q2, q3]
      exact ⟨p1, by omega, p3, by omega⟩
  · rw [eC] at hi hj
    by_cases e : i = c
    · subst e
      have ej : j ≠ i := Ne.symm hne
      obtain ⟨q1, -⟩ := hk j hj ej h4
      obtain ⟨-, p2, -, p4⟩ := b5 j hj q1
      simp only [if_true, if_neg ej]
      omega
    · by_cases e' : j = c
      · subst e'
        obtain ⟨q1, -⟩ := hk i hi e h3
        obtain ⟨-, p2, -, p4⟩ := b5 i hi q1
        simp only [if_true, if_neg e]
        omega
      · simp only [if_neg e, if_neg e']
        exact b6 i j hi hj (hk i hi e h3).1 (hk j hj e' h4).1 hne
/-- an offer is refused -/
theorem rlR.rfd (h : rlR B σ μ) {c o : Nat} {v : Int32} (hc : c < nC σ) (ho : o < nO σ) (h6 : σ 6 c 6 = nI o) (h1 : σ 6 c 3 = 1) :
    rlR B (gst (gst (gst (gst σ 7 o 8 v) 7 o 5 0) 7 o 6 (-1)) 6 c 6 (-1)) (gst (gst (gst (gst μ 9 10 o v) 9 9 (8 * o + 4) 0) 9 9 (8 * o + 5) (-1)) 9 4 c (-1)) := by
  have h60 := h.o60
  obtain ⟨-, l2, l3, l4⟩ := h.lc hc (by omega) h6
  obtain ⟨k0, k1, k2, k3, k6, k7, k8, kz⟩ := h.cab hc
  obtain ⟨⟨a0, a1, a2, a3, a4, a5, a6, a9, a10⟩, b8, ⟨b11, b12, b13, b14⟩, z1, z2⟩ := h.ord ho
  refine h.upd hc ho (Or.inl h6) (Or.inl l2) ?_ ?_ (h.1.of ?_ ?_ ?_ ?_ ?_ ?_) ?_ ?_ ?_ ?_ ?_ ?_ ?_ ?_ (h.2.2.2.1.of ?_ ?_ ?_ ?_) ?_ ?_
  · simp [nC, gst_app]
  · simp [nO, gst_app]
  · intro f _; simp [gst_app]
  · intro j; simp [gst_app]
  · simp [gst_app]
  · simp [gst_app]
  · intro f _; simp [gst_app]
  · intro j; simp [gst_app]
  · intro i f hi; simp [gst_app, hi]
  · intro i f hi; simp [gst_app, hi]
  · intro i k h1 h8 hk
    have n9 : i ≠ 9 := by omega
    have n10 : i ≠ 10 := by omega
    simp [gst_app, hk, n9, n10]
  · intro i k hk hi; simp [mT_i, mT_t, hk, hi]
  · intro i hi; simp [gst_app, hi]
  · intro i j hj hi; simp [gst_app]
  · exact ⟨by simpa [gst_app] using k0, by simpa [gst_app] using k1, by simpa [gst_app] using k2, by simpa [gst_app] using k3, by simp [gst_app], by simpa [gst_app] using k7, by simpa [gst_app] using k8, by simpa [gst_app] using kz⟩
  · exact ⟨⟨by simpa [gst_app, mT_i, mT_t] using a0, by simpa [gst_app, mT_i, mT_t] using a1, by simpa [gst_app, mT_i, mT_t] using a2, by simpa [gst_app, mT_i, mT_t] using a3, by simpa [gst_app, mT_i, mT_t] using a4, by simp [gst_app, mT_i, mT_t], by simp [gst_app, mT_i, mT_t], by simpa [gst_app, mT_i, mT_t] using a9, by simpa [gst_app, mT_i, mT_t] using a10⟩, by simp [gst_app], ⟨by simpa [gst_app, mT_i, mT_t] using b11, by simpa [gst_app, mT_i, mT_t] using b12, by simpa [gst_app, mT_i, mT_t] using b13, by simpa [gst_app, mT_i, mT_t] using b14⟩, by simpa [gst_app, mT_i, mT_t] using z1, by simpa [gst_app, mT_i, mT_t] using z2⟩
  · simp [nC, gst_app]
  · simp [gst_app]
  · simp [gst_app]
  · intro i hi; simp [gst_app]
  · exact Or.inl ⟨by simp [gst_app], Or.inr (by simp [gst_app, h1]), Or.inl ⟨by simp [gst_app], by simp [gst_app]⟩⟩
  · intro z; exfalso; have z2 : (-1 : Int32) = nI o := by simpa [gst_app] using z
    exact nI_nm (by omega) z2.symm
end STEPS
