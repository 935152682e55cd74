section ADDO
variable {B : Nat} {σ μ σ2 μ2 : Mem} {g : gG}
theorem mOrdT_T {o o' k : Nat} {a b c d : Int32} (hk : k < 8) (hne : o' ≠ o) : mT (mOrdT μ o a b c d) o' k = mT μ o' k := by
  unfold mT
  exact ordT_f (by omega)
theorem rlR.addO (h : rlR B σ μ) {n : Nat} {a b c d : Int32} (hn : nO σ = n) (hn9 : n < 60) (hza : mZ a) (hzb : mZ b) (eO : nO σ2 = n + 1) (hag : ∀ k i f, k ≠ 3 → k ≠ 5 → σ2 k i f = xOrdNew σ n a b c d k i f)
    (hmg : ∀ k i f, k ≠ 9 ∨ i < 12 → μ2 k i f = mOrdNew μ n a b c d k i f) : rlR B σ2 μ2 := by
  have h10 := h.c10
  have s0 : ∀ f, σ2 0 0 f = σ 0 0 f := fun f => by rw [hag 0 0 f (by decide) (by decide), xOrdNew, xOrdIni_o (Or.inl (by decide)), gFre_o (Or.inl (by decide))]
  have s1 : ∀ j, σ2 1 0 j = σ 1 0 j := fun j => by rw [hag 1 0 j (by decide) (by decide), xOrdNew, xOrdIni_o (Or.inl (by decide)), gFre_o (Or.inl (by decide))]
  have s2 : σ2 2 0 2 = σ 2 0 2 := by rw [hag 2 0 2 (by decide) (by decide), xOrdNew, xOrdIni_o (Or.inl (by decide)), gFre_o (Or.inl (by decide))]
  have s6 : ∀ i f, σ2 6 i f = σ 6 i f := fun i f => by rw [hag 6 i f (by decide) (by decide), xOrdNew, xOrdIni_o (Or.inl (by decide)), gFre_o (Or.inl (by decide))]
  have s7 : ∀ i f, i ≠ n → σ2 7 i f = σ 7 i f := fun i f hi => by rw [hag 7 i f (by decide) (by decide), xOrdNew, xOrdIni_o (Or.inr hi), gFre_o (Or.inr hi)]
  have sn : ∀ f, σ2 7 n f = xOrdNew σ n a b c d 7 n f := fun f => hag 7 n f (by decide) (by decide)
  have n5 : σ2 7 n 5 = 0 := by rw [sn]; simp [xOrdNew, xOrdIni, gst_app]
  have n6 : σ2 7 n 6 = -1 := by rw [sn]; simp [xOrdNew, xOrdIni, gst_app, gFre_app, gDef, gtg]
  have eC : nC σ2 = nC σ := by unfold nC; rw [s2]
  have t8 : ∀ f, f ≠ 15 → μ2 8 0 f = μ 8 0 f := fun f hf => by rw [hmg 8 0 f (Or.inl (by decide)), mOrdNew, gst_nf hf, ordT_o (by decide)]
  have t15 : μ2 8 0 15 = nI (n + 1) := by rw [hmg 8 0 15 (Or.inl (by decide)), mOrdNew, gst_eq]
  have t9 : ∀ i j, i ≠ 9 → i < 12 → μ2 9 i j = μ 9 i j := fun i j h9 h12 => by rw [hmg 9 i j (Or.inr h12), mOrdNew, gst_nk (by decide), ordT_o (fun z => h9 z.2)]
  have tT : ∀ o k, k < 8 → o ≠ n → mT μ2 o k = mT μ o k := fun o k hk ho => by
    have e : mT μ2 o k = mT (mOrdT μ n a b c d) o k := by unfold mT; rw [hmg 9 9 _ (Or.inr (by decide)), mOrdNew, gst_nk (by decide)]
    rw [e]; exact mOrdT_T hk ho
  have tn : ∀ k, mT μ2 n k = mOrdT μ n a b c d 9 9 (8 * n + k) := fun k => by unfold mT; rw [hmg 9 9 _ (Or.inr (by decide)), mOrdNew, gst_nk (by decide)]
  obtain ⟨q10, q0, q1, q2, q3⟩ := h.2.2.2.2.2.2.2 n (by omega) hn9
  obtain ⟨⟨a1, a2, a3, a4⟩, ⟨b1, b2, b3⟩, c1, d1⟩ := h.1
  refine ⟨⟨⟨?_, ?_, by rw [eC]; exact h10, by omega⟩, ⟨?_, ?_, ?_⟩, fun j hj => ?_, by rw [s0]; exact d1⟩, fun i hi => ?_, fun i hi => ?_, ?_, ⟨fun i hi => ?_, fun i hi => ?_⟩, fun i j hi hj hl => ?_, ⟨fun i hi hi2 => ?_, fun i hi hi2 => ?_⟩⟩
  · rw [eC, a1]; unfold mC; rw [t8 5 (by decide)]
  · rw [eO]; unfold mO; rw [t15, ix_nI (by omega)]
  · rw [s0, t8 1 (by decide)]; exact b1
  · rw [s0, t8 3 (by decide)]; exact b2
  · rw [s0, t8 4 (by decide)]; exact b3
  · rw [s1, t9 0 j (by decide) (by decide)]; exact c1 j hj
  · rw [eC] at hi
    exact rlCr.of (h.2.1 i hi) (fun f => s6 i f) (fun k _ _ => t9 k i (by omega) (by omega))
  · by_cases e : i = n
    · subst e
      have r11 : ∀ j, μ2 9 11 j = μ 9 11 j := fun j => t9 11 j (by decide) (by decide)
      refine ⟨⟨?_, ?_, ?_, ?_, ?_, ?_, ?_, ?_, ?_⟩, ?_, ⟨?_, ?_, ?_, ?_⟩, ?_, ?_⟩
      · rw [sn]; simp [xOrdNew, xOrdIni, gst_app]
      · rw [sn, tn]; simp [xOrdNew, xOrdIni, mOrdT, gst_app]
      · rw [sn, tn]; simp [xOrdNew, xOrdIni, mOrdT, gst_app]
      · rw [sn, tn]; simp [xOrdNew, xOrdIni, mOrdT, gst_app]
      · rw [sn, tn]; simp [xOrdNew, xOrdIni, mOrdT, gst_app]
      · rw [n5, tn]; simp [mOrdT, gst_app]
      · rw [n6, tn]; simp [mOrdT, gst_app]
      · rw [sn, tn]; simp [xOrdNew, xOrdIni, mOrdT, gst_app]
      · rw [sn, tn]; simp [xOrdNew, xOrdIni, mOrdT, gst_app]
      · rw [sn, t9 10 _ (by decide) (by decide), q10]; simp [xOrdNew, xOrdIni, gst_app, gFre_app, gDef, gtg]
      · rw [sn, r11, q0]; simp [xOrdNew, xOrdIni, gst_app, gFre_app, gDef, gtg]
      · rw [sn, r11, q1]; simp [xOrdNew, xOrdIni, gst_app, gFre_app, gDef, gtg]
      · rw [sn, r11, q2]; simp [xOrdNew, xOrdIni, gst_app, gFre_app, gDef, gtg]
      · rw [sn, r11, q3]; simp [xOrdNew, xOrdIni, gst_app, gFre_app, gDef, gtg]
      · rw [sn]; simpa [xOrdNew, xOrdIni, gst_app] using hza
      · rw [sn]; simpa [xOrdNew, xOrdIni, gst_app] using hzb
    · exact rlOr.of (h.2.2.1 i (by omega)) (fun f => s7 i f e) (fun k hk => tT i k hk e) (t9 10 i (by decide) (by decide)) (fun j _ => t9 11 _ (by decide) (by decide))
  · exact h.2.2.2.1.of eC (s0 6) (t8 12 (by decide)) (fun i _ q => ⟨by rw [← s6]; exact q, s6 i 4, t9 6 i (by decide) (by decide)⟩)
  · rw [eC] at hi
    rw [s6, s6]
    rcases h.2.2.2.2.1.1 i hi with q | q | ⟨j, hj, r1, r2, r3, r4⟩
    · exact Or.inl q
    · exact Or.inr (Or.inl q)
    · have e : j ≠ n := by omega
      exact Or.inr (Or.inr ⟨j, by omega, r1, by rw [s7 j 6 e]; exact r2, r3, by rw [s7 j 5 e]; exact r4⟩)
  · rw [eC]
    by_cases e : i = n
    · subst e
      exact Or.inl ⟨n5, n6⟩
    · rw [s7 i 5 e, s7 i 6 e]
      rcases h.2.2.2.2.1.2 i (by omega) with q | ⟨j, hj, r1, r2, r3, r4⟩ | q | q
      · exact Or.inl q
      · exact Or.inr (Or.inl ⟨j, hj, r1, by rw [s6]; exact r2, r3, by rw [s6]; exact r4⟩)
      · exact Or.inr (Or.inr (Or.inl q))
      · exact Or.inr (Or.inr (Or.inr q))
  · rw [eC] at hi
    rw [s6] at hl
    have hj2 := (h.lc hi (by omega) hl).1
    have e : j ≠ n := by omega
    rw [s6, s6, s7 j 7 e, s7 j 4 e, t9 5 i (by decide) (by decide)]
    exact h.2.2.2.2.2.1 i j hi hj2 hl
  · rw [eC] at hi
    rw [t9 3 i (by decide) (by decide), t9 4 i (by decide) (by decide), t9 7 i (by decide) (by decide), t9 8 i (by decide) (by decide)]
    exact h.2.2.2.2.2.2.1 i hi hi2
  · rw [t9 10 i (by decide) (by decide), t9 11 _ (by decide) (by decide), t9 11 _ (by decide) (by decide), t9 11 _ (by decide) (by decide), t9 11 _ (by decide) (by decide)]
    exact h.2.2.2.2.2.2.2 i (by omega) hi2
end ADDO
