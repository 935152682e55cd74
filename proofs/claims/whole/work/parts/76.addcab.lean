section ADDC
variable {B : Nat} {σ μ σ2 : Mem} {g : gG}
theorem rlR.addC (h : rlR B σ μ) {n : Nat} {a b : Int32} (hn : nC σ = n) (hn9 : n < 10) (hz : mZ b) (eC : nC σ2 = n + 1) (hag : ∀ k i f, k ≠ 2 → k ≠ 4 → σ2 k i f = xCabNew σ n a b k i f) :
    rlR B σ2 (gst (gst (gst μ 9 1 n a) 9 2 n b) 8 0 5 (nI (n + 1))) := by
  have h60 := h.o60
  have s0 : ∀ f, σ2 0 0 f = σ 0 0 f := fun f => by rw [hag 0 0 f (by decide) (by decide), xCabNew, xCabIni_o (Or.inl (by decide)), gFre_o (Or.inl (by decide))]
  have s1 : ∀ j, σ2 1 0 j = σ 1 0 j := fun j => by rw [hag 1 0 j (by decide) (by decide), xCabNew, xCabIni_o (Or.inl (by decide)), gFre_o (Or.inl (by decide))]
  have s3 : σ2 3 0 2 = σ 3 0 2 := by rw [hag 3 0 2 (by decide) (by decide), xCabNew, xCabIni_o (Or.inl (by decide)), gFre_o (Or.inl (by decide))]
  have s7 : ∀ i f, σ2 7 i f = σ 7 i f := fun i f => by rw [hag 7 i f (by decide) (by decide), xCabNew, xCabIni_o (Or.inl (by decide)), gFre_o (Or.inl (by decide))]
  have s6 : ∀ i f, i ≠ n → σ2 6 i f = σ 6 i f := fun i f hi => by rw [hag 6 i f (by decide) (by decide), xCabNew, xCabIni_o (Or.inr hi), gFre_o (Or.inr hi)]
  have sn : ∀ f, σ2 6 n f = xCabNew σ n a b 6 n f := fun f => hag 6 n f (by decide) (by decide)
  have n0 : σ2 6 n 0 = nI n := by rw [sn]; simp [xCabNew, xCabIni, gst_app]
  have n1 : σ2 6 n 1 = a := by rw [sn]; simp [xCabNew, xCabIni, gst_app]
  have n2 : σ2 6 n 2 = b := by rw [sn]; simp [xCabNew, xCabIni, gst_app]
  have n3 : σ2 6 n 3 = 0 := by rw [sn]; simp [xCabNew, xCabIni, gst_app]
  have n6 : σ2 6 n 6 = -1 := by rw [sn]; simp [xCabNew, xCabIni, gst_app, gFre_app, gDef, gtg]
  have n7 : σ2 6 n 7 = 0 := by rw [sn]; simp [xCabNew, xCabIni, gst_app, gFre_app, gDef, gtg]
  have n8 : σ2 6 n 8 = 0 := by rw [sn]; simp [xCabNew, xCabIni, gst_app, gFre_app, gDef, gtg]
  have eO : nO σ2 = nO σ := by unfold nO; rw [s3]
  obtain ⟨q3, q4, q7, q8⟩ := h.2.2.2.2.2.2.1 n (by omega) hn9
  obtain ⟨⟨a1, a2, a3, a4⟩, ⟨b1, b2, b3⟩, c1, d1⟩ := h.1
  have tT : ∀ o k, mT (gst (gst (gst μ 9 1 n a) 9 2 n b) 8 0 5 (nI (n + 1))) o k = mT μ o k := fun o k => by simp [mT, gst_app]
  refine ⟨⟨⟨?_, ?_, by omega, by rw [eO]; exact h60⟩, ⟨?_, ?_, ?_⟩, fun j hj => ?_, by rw [s0]; exact d1⟩, fun i hi => ?_, fun i hi => ?_, ?_, ⟨fun i hi => ?_, fun i hi => ?_⟩, fun i j hi hj hl => ?_, ⟨fun i hi hi2 => ?_, fun i hi hi2 => ?_⟩⟩
  · rw [eC]; unfold mC; rw [gst_eq, ix_nI (by omega)]
  · rw [eO, a2]; unfold mO; simp [gst_app]
  · rw [s0]; simpa [gst_app] using b1
  · rw [s0]; simpa [gst_app] using b2
  · rw [s0]; simpa [gst_app] using b3
  · rw [s1]; simpa [gst_app] using c1 j hj
  · by_cases e : i = n
    · subst e
      exact ⟨n0, by simp [n1, gst_app], by simp [n2, gst_app], by simp [n3, gst_app, q3], by simp [n6, gst_app, q4], by simp [n7, gst_app, q7], by simp [n8, gst_app, q8], by rw [n2]; exact hz⟩
    · exact rlCr.of (h.2.1 i (by omega)) (fun f => s6 i f e) (fun k _ _ => by simp [gst_app, e])
  · rw [eO] at hi
    exact rlOr.of (h.2.2.1 i hi) (fun f => s7 i f) (fun k _ => tT i k) (by simp [gst_app]) (fun j _ => by simp [gst_app])
  · obtain ⟨u, v, U, V, p1, p2, p3, p4, p5, p6⟩ := h.2.2.2.1
    refine ⟨u, v, U, V, by rw [s0]; exact p1, by simpa [gst_app] using p2, p3, p4, fun i hi r => ?_, fun i j hi hj r r' => ?_⟩
    · have e : i ≠ n := by rintro rfl; rw [n3] at r; exact absurd r (by decide)
      rw [s6 i 3 e] at r
      rw [s6 i 4 e]
      have := p5 i (by omega) r
      simpa [gst_app] using this
    · have e : i ≠ n := by rintro rfl; rw [n3] at r; exact absurd r (by decide)
      have e' : j ≠ n := by rintro rfl; rw [n3] at r'; exact absurd r' (by decide)
      rw [s6 i 3 e] at r
      rw [s6 j 3 e'] at r'
      exact p6 i j (by omega) (by omega) r r'
  · rw [eO]
    by_cases e : i = n
    · subst e
      exact Or.inl ⟨n3, n6⟩
    · rw [s6 i 3 e, s6 i 6 e]
      rcases h.2.2.2.2.1.1 i (by omega) with q | q | ⟨j, hj, r1, r2, r3, r4⟩
      · exact Or.inl q
      · exact Or.inr (Or.inl q)
      · exact Or.inr (Or.inr ⟨j, hj, r1, by rw [s7]; exact r2, r3, by rw [s7]; exact r4⟩)
  · rw [eO] at hi
    rw [s7, s7]
    rcases h.2.2.2.2.1.2 i hi with q | ⟨j, hj, r1, r2, r3, r4⟩ | q | q
    · exact Or.inl q
    · have e : j ≠ n := by omega
      exact Or.inr (Or.inl ⟨j, by omega, r1, by rw [s6 j 6 e]; exact r2, r3, by rw [s6 j 3 e]; exact r4⟩)
    · exact Or.inr (Or.inr (Or.inl q))
    · exact Or.inr (Or.inr (Or.inr q))
  · rw [eO] at hj
    by_cases e : i = n
    · subst e
      rw [n6] at hl; exact absurd hl.symm (nI_nm (by omega))
    · rw [s6 i 6 e] at hl
      rw [s6 i 3 e, s6 i 5 e, s7, s7]
      have := h.2.2.2.2.2.1 i j (by omega) hj hl
      simpa [gst_app] using this
  · have e : i ≠ n := by omega
    have := h.2.2.2.2.2.2.1 i (by omega) hi2
    simpa [gst_app, e] using this
  · rw [eO] at hi
    have := h.2.2.2.2.2.2.2 i hi hi2
    simpa [gst_app] using this
end ADDC
