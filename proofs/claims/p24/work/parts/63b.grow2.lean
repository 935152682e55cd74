section GRW2
variable {t k : Nat} {ag : Nat → Nat} {hs : Nat → Nat × Bool} {B B' : Nat} {σ σ1 σ2 σ' τ σ0 ρ' : Mem} {g g2 : gG}
theorem addCabE {σ : Mem} {s z : Nat} (h1 : 1 ≤ s) (h8 : s ≤ 8) (hz : z < 4) (hn : nC σ < 10) : xAddCabE σ (nI s) (nI z) = 0 := by
  have za : ∀ a, a < 4 → xIsZone (nI a) = true := by decide
  unfold xAddCabE
  rw [if_neg (show ¬ nI s < 1 from nI_nlt h1 (by omega)), if_pos (show nI s ≤ 8 from nI_le h8 (by decide)), if_pos (za z hz), if_pos (show nI (nC σ) < 10 from nI_lt hn (by decide))]
theorem orderE {σ : Mem} {a b c d t : Nat} (ha : a < 4) (hb : b < 4) (h1 : 1 ≤ c) (h8 : c ≤ 8) (et : σ 0 0 3 = nI t) (htd : t ≤ d) (hd : d ≤ 9999) (hn : nO σ < 60) : xOrderE σ (nI a) (nI b) (nI c) (nI d) = 0 := by
  have za : ∀ a, a < 4 → xIsZone (nI a) = true := by decide
  unfold xOrderE
  rw [if_pos (za a ha), if_pos (za b hb), if_neg (show ¬ nI c < 1 from nI_nlt h1 (by omega)), if_pos (show nI c ≤ 8 from nI_le h8 (by decide)), et, if_neg (nI_nlt htd (by omega)), if_pos (show nI d ≤ 9999 from nI_le hd (by decide)), if_pos (show nI (nO σ) < 60 from nI_lt hn (by decide))]
theorem LI.addOrd (h : LI g hs t B σ) (hB : B < 2 ^ 31) {q n a b d : Nat} {s : Int32} (hn : gcn g 17 = n) (hn60 : n < 60) (ha : a < 6) (hb : b < 6) (hd : d ≤ 9999) (hgro : gGro (gAdd g 17 q 10) g2) (c6 : gcn g2 6 = gcn g 6) (c7 : gcn g2 7 = n + 1) (hX2 : Xok g2 σ2)
    (hag : ∀ k i f, k ≠ 3 → k ≠ 5 → σ2 k i f = xOrdNew (rOrdRow σ n (nI a) (nI b) s (nI d)) n (nI a) (nI b) s (nI d) k i f) :
    AO g2 hs t B σ (gst (xMo σ2) 8 0 7 (nI (n + 1))) := by
  have hP := h.2.2.1
  have hR := h.2.1
  have eC := hP.cO hR
  have hcn : ∀ k, k ≠ 4 → k ≠ 5 → k ≠ 6 → k ≠ 7 → k ≠ 17 → gcn g2 k = gcn g k := fun k a b c d e => ((hgro.2 k a b c d).2.1).trans (by rw [gAdd_cn, if_neg e])
  have hc17 : gcn g2 17 = n + 1 := ((hgro.2 17 (by decide) (by decide) (by decide) (by decide)).2.1).trans (by rw [gAdd_cn, if_pos rfl, hn])
  have hln : ∀ k i, k ≠ 4 → k ≠ 5 → k ≠ 6 → k ≠ 7 → ¬ (k = 17 ∧ i = n) → gln g2 k i = gln g k i := fun k i a b c d e => (congrFun (hgro.2 k a b c d).2.2 i).trans (by rw [gAdd_ln, hn, if_neg e])
  have hl17 : gln g2 17 n = 10 := (congrFun (hgro.2 17 (by decide) (by decide) (by decide) (by decide)).2.2 n).trans (by rw [gAdd_ln, hn, if_pos ⟨rfl, rfl⟩])
  have e6 : ∀ k i f, k ≠ 3 → k ≠ 5 → k ≠ 7 → σ2 k i f = rOrdRow σ n (nI a) (nI b) s (nI d) k i f := fun k i f x y c => by
    rw [hag k i f x y]
    unfold xOrdNew
    rw [xOrdIni_o (Or.inl c)]
    unfold gFre
    rw [if_neg (fun q => c q.1)]
  have eo : ∀ k i f, k ≠ 3 → k ≠ 5 → k ≠ 7 → ¬ (k = 17 ∧ i = n) → ¬ (k = 11 ∧ f = n) → σ2 k i f = σ k i f := fun k i f a b c d e => (e6 k i f a b c).trans (rOrdRow_o d e)
  have eow : ∀ i f, ¬ (i = n) → σ2 7 i f = σ 7 i f := fun i f hi => by
    rw [hag 7 i f (by decide) (by decide)]
    unfold xOrdNew
    rw [xOrdIni_o (Or.inr hi)]
    unfold gFre
    rw [if_neg (fun q => hi q.2), rOrdRow_o (by omega) (by omega)]
  have r6 : ∀ f, σ2 7 n f = xOrdNew (rOrdRow σ n (nI a) (nI b) s (nI d)) n (nI a) (nI b) s (nI d) 7 n f := fun f => hag 7 n f (by decide) (by decide)
  have hM8 : ∀ k i f, 8 ≤ k → xMo σ2 k i f = σ2 k i f := un8 (Un.mo (Un.rf σ2))
  obtain ⟨τ, hτ⟩ : ∃ τ, τ = gst (xMo σ2) 8 0 7 (nI (n + 1)) := ⟨_, rfl⟩
  rw [← hτ]
  have t8 : ∀ k i f, 8 ≤ k → ¬ (k = 8 ∧ f = 7) → τ k i f = σ2 k i f := fun k i f hk hk2 => by rw [hτ, gst_app, if_neg (fun q => hk2 ⟨q.1, q.2.2⟩), hM8 k i f hk]
  have tM : ∀ k i f, k < 8 → τ k i f = xMo σ2 k i f := fun k i f hk => by rw [hτ, gst_nk (by omega)]
  have t87 : τ 8 0 7 = nI (n + 1) := by rw [hτ, gst_eq]
  have hX : Xok g2 τ := hX2.mo.cong tM
  have eO2 : nO σ2 = n + 1 := by rw [hX2.eO, c7]
  have hP2 : pR t (fun _ => 1) hs B σ2 τ := by
    refine hP.addOrd (m := n) (a := a) (b := b) (d := d) (p := s) (by omega) hn60 ha hb hd (h.2.2.2.2.2 n (by omega)) (fun k i f k8 k2 k4 k6 => ?_) ?_ ⟨⟨?_, ?_, ?_, ?_, ?_, ?_, ?_⟩, ?_, ?_⟩ (fun k i f k8 k20 k10 k16 k86 => ?_) t87 ⟨?_, ?_, ?_, ?_, ?_, ?_⟩
    · by_cases e : k = 7
      · subst e; exact eow i f (fun q => k6 ⟨rfl, q⟩)
      · exact eo k i f k2 k4 e (by omega) (by omega)
    · have := hX2.z3
      rw [c7] at this
      exact this
    · rw [r6]; simp [xOrdNew, xOrdIni, gst_app]
    · rw [r6]; simp [xOrdNew, xOrdIni, gst_app]
    · rw [r6]; simp [xOrdNew, xOrdIni, gst_app]
    · rw [r6]; simp [xOrdNew, xOrdIni, gst_app]
    · rw [r6]; simp [xOrdNew, xOrdIni, gst_app]
    · rw [r6]; simp [xOrdNew, xOrdIni, gst_app]
    · rw [r6]; simp [xOrdNew, xOrdIni, gst_app, gFre, gDef, gtg]
    · rw [r6]; simp [xOrdNew, xOrdIni, gst_app, gFre, gDef, gtg]
    · rw [r6]; simp [xOrdNew, xOrdIni, gst_app]
    · rw [t8 k i f k8 k86]; exact eo k i f (by omega) (by omega) (by omega) k16 (by omega)
    · rw [t8 17 n 0 (by decide) (by omega), e6 17 n 0 (by decide) (by decide) (by decide)]; simp [rOrdRow, gst_app]
    · rw [t8 17 n 1 (by decide) (by omega), e6 17 n 1 (by decide) (by decide) (by decide)]; simp [rOrdRow, gst_app]
    · rw [t8 17 n 2 (by decide) (by omega), e6 17 n 2 (by decide) (by decide) (by decide)]; simp [rOrdRow, gst_app]
    · rw [t8 17 n 3 (by decide) (by omega), e6 17 n 3 (by decide) (by decide) (by decide)]; simp [rOrdRow, gst_app]
    · rw [t8 17 n 4 (by decide) (by omega), e6 17 n 4 (by decide) (by decide) (by decide)]; simp [rOrdRow, gst_app]
    · rw [t8 17 n 5 (by decide) (by omega), e6 17 n 5 (by decide) (by decide) (by decide)]; simp [rOrdRow, gst_app]
  have hRt : Rr g2 τ := by
    obtain ⟨⟨⟨g8, gK⟩, ⟨b15, b16, b17, b18, b19, b20⟩, bl⟩, d1, d2, d3, d4⟩ := hR
    refine ⟨⟨⟨?_, fun K h9 h14 => ⟨?_, ?_⟩⟩, ⟨?_, ?_, ?_, ?_, ?_, ?_⟩, fun K h15 h20 i hi => ?_⟩, fun f hf => ?_, fun K h9 h14 j hj => ?_, ?_, ?_⟩
    · rw [hcn 8 (by decide) (by decide) (by decide) (by decide) (by decide)]; exact g8
    · rw [hcn K (by omega) (by omega) (by omega) (by omega) (by omega)]; exact (gK K h9 h14).1
    · rw [hln K 0 (by omega) (by omega) (by omega) (by omega) (by omega)]; exact (gK K h9 h14).2
    · rw [hcn 15 (by decide) (by decide) (by decide) (by decide) (by decide)]; exact b15
    · rw [hcn 16 (by decide) (by decide) (by decide) (by decide) (by decide)]; exact b16
    · omega
    · rw [hcn 18 (by decide) (by decide) (by decide) (by decide) (by decide)]; exact b18
    · rw [hcn 19 (by decide) (by decide) (by decide) (by decide) (by decide)]; exact b19
    · rw [hcn 20 (by decide) (by decide) (by decide) (by decide) (by decide)]; exact b20
    · by_cases e : K = 17 ∧ i = n
      · obtain ⟨rfl, rfl⟩ := e
        exact hl17
      · rw [hln K i (by omega) (by omega) (by omega) (by omega) e]
        refine bl K h15 h20 i ?_
        by_cases eK : K = 17
        · subst eK; rw [hc17] at hi; omega
        · rw [hcn K (by omega) (by omega) (by omega) (by omega) eK] at hi; exact hi
    · rw [t8 8 0 f (by decide) (by omega), eo 8 0 f (by decide) (by decide) (by decide) (by omega) (by omega)]; exact d1 f hf
    · rw [t8 K 0 j (by omega) (by omega)]
      by_cases e : K = 11 ∧ j = n
      · obtain ⟨rfl, rfl⟩ := e
        rw [e6 11 0 j (by decide) (by decide) (by decide)]; simp [rOrdRow, gst_app]
      · rw [eo K 0 j (by omega) (by omega) (by omega) (by omega) e]
        refine d2 K h9 h14 j ?_
        by_cases eK : K = 11
        · subst eK
          have : j < n + 1 := by rw [← hc17]; exact hj
          show j < gcn g 17
          omega
        · have e2 : rTn g2 K = rTn g K := by
            rcases r_K h9 h14 with rfl | rfl | rfl | rfl | rfl | rfl
            · rfl
            · exact hcn 16 (by decide) (by decide) (by decide) (by decide) (by decide)
            · exact absurd rfl eK
            · rfl
            · rfl
            · rfl
          rw [← e2]; exact hj
    · rw [hcn 16 (by decide) (by decide) (by decide) (by decide) (by decide), t8 8 0 6 (by decide) (by omega), eo 8 0 6 (by decide) (by decide) (by decide) (by omega) (by omega)]; exact d3
    · rw [hc17]; exact t87
  refine AO.of hX hRt ?_ hP2 (fun o ho => h.2.2.2.2.2 o (by omega)) tM hB (fun k i f hk => ?_) (by omega)
  · obtain ⟨⟨a1, a2⟩, a3, a4⟩ := h.2.2.2.2.1
    refine ⟨⟨?_, ?_⟩, ?_, ?_⟩
    · rw [hcn 21 (by decide) (by decide) (by decide) (by decide) (by decide)]; exact a1
    · rw [hcn 22 (by decide) (by decide) (by decide) (by decide) (by decide)]; exact a2
    · rw [hln 21 0 (by decide) (by decide) (by decide) (by decide) (by omega)]; exact a3
    · rw [hln 22 0 (by decide) (by decide) (by decide) (by decide) (by omega)]; exact a4
  · rw [t8 k i f (by omega) (by omega)]; exact eo k i f (by omega) (by omega) (by omega) (by omega) (by omega)
end GRW2
