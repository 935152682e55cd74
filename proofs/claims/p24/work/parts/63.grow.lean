theorem Xok.add8 {g : gG} {σ : Mem} {k q n : Nat} (hk : 8 ≤ k) (h : Xok g σ) : Xok (gAdd g k q n) σ := by
  have c : ∀ k', k' < 8 → gcn (gAdd g k q n) k' = gcn g k' := fun k' hk' => by rw [gAdd_cn, if_neg (by omega)]
  have l : ∀ k' i, k' < 8 → gln (gAdd g k q n) k' i = gln g k' i := fun k' i hk' => by rw [gAdd_ln, if_neg (fun z => by omega)]
  obtain ⟨⟨⟨a0, a1, a2, a3⟩, a4, a5, a6⟩, b1, b2, b3, b4, b5, b6, b7, b8⟩ := h
  refine ⟨⟨⟨?_, ?_, ?_, ?_⟩, ?_, ?_, ?_⟩, b1, ?_, ?_, ?_, ?_, ?_, ?_, ?_⟩
  · rw [c 0 (by decide)]; exact a0
  · rw [c 1 (by decide)]; exact a1
  · rw [c 2 (by decide)]; exact a2
  · rw [c 3 (by decide)]; exact a3
  · rw [l 1 0 (by decide)]; exact a4
  · rw [c 6 (by decide)]; exact a5
  · rw [c 7 (by decide)]; exact a6
  · rw [c 6 (by decide), c 7 (by decide)]; exact b2
  · rw [c 6 (by decide), c 4 (by decide), l 4 0 (by decide)]; exact b3
  · rw [c 7 (by decide), c 5 (by decide), l 5 0 (by decide)]; exact b4
  · rw [c 6 (by decide)]; exact b5
  · rw [c 7 (by decide)]; exact b6
  · rw [c 6 (by decide)]; exact b7
  · rw [c 7 (by decide)]; exact b8
def rCabRow (σ : Mem) (n : Nat) (s z : Int32) : Mem := gst (gst (gst (gst (gst (gst (gFre σ 16 n) 16 n 0 s) 16 n 1 z) 16 n 2 0) 16 n 3 (-1)) 16 n 4 0) 10 0 n (nI n)
def rOrdRow (σ : Mem) (n : Nat) (a b p d : Int32) : Mem := gst (gst (gst (gst (gst (gst (gst (gst (gst (gst (gst (gFre σ 17 n) 17 n 0 a) 17 n 1 b) 17 n 2 p) 17 n 3 d) 17 n 4 0) 17 n 5 (-1)) 17 n 6 (-1)) 17 n 7 (-1)) 17 n 8 0) 17 n 9 0) 11 0 n (nI n)
theorem rCabRow_o {σ : Mem} {n : Nat} {s z : Int32} {k i f : Nat} (h1 : ¬ (k = 16 ∧ i = n)) (h2 : ¬ (k = 10 ∧ f = n)) : rCabRow σ n s z k i f = σ k i f := by
  unfold rCabRow gst gFre
  rw [if_neg (by omega), if_neg (by omega), if_neg (by omega), if_neg (by omega), if_neg (by omega), if_neg (by omega), if_neg (by omega)]
theorem rOrdRow_o {σ : Mem} {n : Nat} {a b p d : Int32} {k i f : Nat} (h1 : ¬ (k = 17 ∧ i = n)) (h2 : ¬ (k = 11 ∧ f = n)) : rOrdRow σ n a b p d k i f = σ k i f := by
  unfold rOrdRow gst gFre
  rw [if_neg (by omega), if_neg (by omega), if_neg (by omega), if_neg (by omega), if_neg (by omega), if_neg (by omega), if_neg (by omega), if_neg (by omega), if_neg (by omega), if_neg (by omega), if_neg (by omega), if_neg (by omega)]
section GRW
variable {t k : Nat} {ag : Nat → Nat} {hs : Nat → Nat × Bool} {B B' : Nat} {σ σ1 σ2 σ' τ σ0 ρ' : Mem} {g g2 : gG}
theorem LI.nw (h : LI g hs t B σ) (hB : B < 2 ^ 31) (hP : pR t ag hs B σ' ρ') (eO : nO σ' = nO σ) (eL : ∀ o, o < nO σ → xLook σ' o = true → xLook σ o = true) (eX : ∀ o c, o < nO σ → c < nC σ' → xCan σ' o c = true → c < nC σ ∧ xCan σ o c = true) : pNW σ' := by
  intro o ho hw
  have ho' : o < nO σ := by omega
  refine h.2.2.2.1 o ho' ⟨eL o ho' hw.1, fun q => ?_⟩
  have h10 := h.2.2.1.c10
  rcases (hP.cf hB ho).2 with ⟨q1, -⟩ | ⟨c, -, hc, hcan⟩
  · exact hw.2 q1
  · obtain ⟨a1, a2⟩ := eX o c ho' hc hcan
    rcases (h.2.2.1.cf hB ho').2 with ⟨-, q2⟩ | ⟨c', q2, hc', -⟩
    · exact q2 c a1 a2
    · rw [q] at q2
      exact absurd q2.symm (nI_nm (by omega))
theorem LI.addCab (h : LI g hs t B σ) (hB : B < 2 ^ 31) {q n z : Nat} {s : Int32} (hn : gcn g 16 = n) (hn10 : n < 10) (hz : z < 6) (hgro : gGro (gAdd g 16 q 5) g2) (c6 : gcn g2 6 = n + 1) (hX2 : Xok g2 σ2)
    (hag : ∀ k i f, k ≠ 2 → k ≠ 4 → σ2 k i f = xCabNew (rCabRow σ n s (nI z)) n s (nI z) k i f) :
    LI g2 hs t B (gst σ2 8 0 6 (nI (n + 1))) ∧ (∀ k i f, 20 < k → gst σ2 8 0 6 (nI (n + 1)) k i f = σ k i f) ∧ nO (gst σ2 8 0 6 (nI (n + 1))) = nO σ := by
  have hP := h.2.2.1
  have hR := h.2.1
  have eC := hP.cC hR
  have hcn : ∀ k, k ≠ 4 → k ≠ 5 → k ≠ 6 → k ≠ 7 → k ≠ 16 → gcn g2 k = gcn g k := fun k a b c d e => ((hgro.2 k a b c d).2.1).trans (by rw [gAdd_cn, if_neg e])
  have hc16 : gcn g2 16 = n + 1 := ((hgro.2 16 (by decide) (by decide) (by decide) (by decide)).2.1).trans (by rw [gAdd_cn, if_pos rfl, hn])
  have hln : ∀ k i, k ≠ 4 → k ≠ 5 → k ≠ 6 → k ≠ 7 → ¬ (k = 16 ∧ i = n) → gln g2 k i = gln g k i := fun k i a b c d e => (congrFun (hgro.2 k a b c d).2.2 i).trans (by rw [gAdd_ln, hn, if_neg e])
  have hl16 : gln g2 16 n = 5 := (congrFun (hgro.2 16 (by decide) (by decide) (by decide) (by decide)).2.2 n).trans (by rw [gAdd_ln, hn, if_pos ⟨rfl, rfl⟩])
  have e6 : ∀ k i f, k ≠ 2 → k ≠ 4 → k ≠ 6 → σ2 k i f = rCabRow σ n s (nI z) k i f := fun k i f a b c => by
    rw [hag k i f a b]
    unfold xCabNew
    rw [xCabIni_o (Or.inl c)]
    unfold gFre
    rw [if_neg (fun q => c q.1)]
  have eo : ∀ k i f, k ≠ 2 → k ≠ 4 → k ≠ 6 → ¬ (k = 16 ∧ i = n) → ¬ (k = 10 ∧ f = n) → σ2 k i f = σ k i f := fun k i f a b c d e => (e6 k i f a b c).trans (rCabRow_o d e)
  have eow : ∀ i f, ¬ (i = n) → σ2 6 i f = σ 6 i f := fun i f hi => by
    rw [hag 6 i f (by decide) (by decide)]
    unfold xCabNew
    rw [xCabIni_o (Or.inr hi)]
    unfold gFre
    rw [if_neg (fun q => hi q.2), rCabRow_o (by omega) (by omega)]
  have r6 : ∀ f, σ2 6 n f = xCabNew (rCabRow σ n s (nI z)) n s (nI z) 6 n f := fun f => hag 6 n f (by decide) (by decide)
  obtain ⟨τ, hτ⟩ : ∃ τ, τ = gst σ2 8 0 6 (nI (n + 1)) := ⟨_, rfl⟩
  rw [← hτ]
  have t8 : ∀ k i f, ¬ (k = 8 ∧ f = 6) → τ k i f = σ2 k i f := fun k i f hk => by rw [hτ, gst_app, if_neg (fun q => hk ⟨q.1, q.2.2⟩)]
  have t86 : τ 8 0 6 = nI (n + 1) := by rw [hτ, gst_eq]
  have hX : Xok g2 τ := by rw [hτ]; exact hX2.st rfl
  have eC2 : nC τ = n + 1 := by rw [hX.eC, c6]
  have eO2 : nO τ = nO σ := by
    unfold nO
    rw [t8 3 0 2 (by omega), eo 3 0 2 (by decide) (by decide) (by decide) (by omega) (by omega)]
  have hP2 : pR t (fun _ => 1) hs B τ τ := by
    refine hP.addCab (n := n) (z := z) (s := s) (by omega) hn10 hz (fun k i f k8 k2 k4 k6 => ?_) ?_ ⟨?_, ?_, ?_, ?_, ?_⟩ (fun k i f k8 k20 k10 k16 k86 => ?_) t86 ⟨?_, ?_, ?_, ?_⟩
    · rw [t8 k i f (by omega)]
      by_cases e : k = 6
      · subst e; exact eow i f (fun q => k6 ⟨rfl, q⟩)
      · exact eo k i f k2 k4 e (by omega) (by omega)
    · have := hX.z2
      rw [c6] at this
      exact this
    · rw [t8 6 n 0 (by omega), r6]; simp [xCabNew, xCabIni, gst_app]
    · rw [t8 6 n 1 (by omega), r6]; simp [xCabNew, xCabIni, gst_app]
    · rw [t8 6 n 2 (by omega), r6]; simp [xCabNew, xCabIni, gst_app]
    · rw [t8 6 n 3 (by omega), r6]; simp [xCabNew, xCabIni, gst_app]
    · rw [t8 6 n 6 (by omega), r6]; simp [xCabNew, xCabIni, gst_app, gFre, gDef, gtg]
    · rw [t8 k i f k86]; exact eo k i f (by omega) (by omega) (by omega) k16 (by omega)
    · rw [t8 16 n 0 (by omega), e6 16 n 0 (by decide) (by decide) (by decide)]; simp [rCabRow, gst_app]
    · rw [t8 16 n 1 (by omega), e6 16 n 1 (by decide) (by decide) (by decide)]; simp [rCabRow, gst_app]
    · rw [t8 16 n 2 (by omega), e6 16 n 2 (by decide) (by decide) (by decide)]; simp [rCabRow, gst_app]
    · rw [t8 16 n 3 (by omega), e6 16 n 3 (by decide) (by decide) (by decide)]; simp [rCabRow, gst_app]
  have hRt : Rr g2 τ := by
    obtain ⟨⟨⟨g8, gK⟩, ⟨b15, b16, b17, b18, b19, b20⟩, bl⟩, d1, d2, d3, d4⟩ := hR
    refine ⟨⟨⟨?_, fun K h9 h14 => ⟨?_, ?_⟩⟩, ⟨?_, ?_, ?_, ?_, ?_, ?_⟩, fun K h15 h20 i hi => ?_⟩, fun f hf => ?_, fun K h9 h14 j hj => ?_, ?_, ?_⟩
    · rw [hcn 8 (by decide) (by decide) (by decide) (by decide) (by decide)]; exact g8
    · rw [hcn K (by omega) (by omega) (by omega) (by omega) (by omega)]; exact (gK K h9 h14).1
    · rw [hln K 0 (by omega) (by omega) (by omega) (by omega) (by omega)]; exact (gK K h9 h14).2
    · rw [hcn 15 (by decide) (by decide) (by decide) (by decide) (by decide)]; exact b15
    · omega
    · rw [hcn 17 (by decide) (by decide) (by decide) (by decide) (by decide)]; exact b17
    · rw [hcn 18 (by decide) (by decide) (by decide) (by decide) (by decide)]; exact b18
    · rw [hcn 19 (by decide) (by decide) (by decide) (by decide) (by decide)]; exact b19
    · rw [hcn 20 (by decide) (by decide) (by decide) (by decide) (by decide)]; exact b20
    · by_cases e : K = 16 ∧ i = n
      · obtain ⟨rfl, rfl⟩ := e
        exact hl16
      · rw [hln K i (by omega) (by omega) (by omega) (by omega) e]
        refine bl K h15 h20 i ?_
        by_cases eK : K = 16
        · subst eK; rw [hc16] at hi; omega
        · rw [hcn K (by omega) (by omega) (by omega) (by omega) eK] at hi; exact hi
    · rw [t8 8 0 f (by omega), eo 8 0 f (by decide) (by decide) (by decide) (by omega) (by omega)]; exact d1 f hf
    · rw [t8 K 0 j (by omega)]
      by_cases e : K = 10 ∧ j = n
      · obtain ⟨rfl, rfl⟩ := e
        rw [e6 10 0 j (by decide) (by decide) (by decide)]; simp [rCabRow, gst_app]
      · rw [eo K 0 j (by omega) (by omega) (by omega) (by omega) e]
        refine d2 K h9 h14 j ?_
        by_cases eK : K = 10
        · subst eK
          have : j < n + 1 := by rw [← hc16]; exact hj
          show j < gcn g 16
          omega
        · have e2 : rTn g2 K = rTn g K := by
            rcases r_K h9 h14 with rfl | rfl | rfl | rfl | rfl | rfl
            · rfl
            · exact absurd rfl eK
            · exact hcn 17 (by decide) (by decide) (by decide) (by decide) (by decide)
            · rfl
            · rfl
            · rfl
          rw [← e2]; exact hj
    · rw [hc16]; exact t86
    · rw [hcn 17 (by decide) (by decide) (by decide) (by decide) (by decide), t8 8 0 7 (by omega), eo 8 0 7 (by decide) (by decide) (by decide) (by omega) (by omega)]; exact d4
  refine ⟨⟨hX, hRt, hP2, ?_, ?_, fun o ho => h.2.2.2.2.2 o (by omega)⟩, fun k i f hk => ?_, eO2⟩
  · refine h.nw hB hP2 eO2 (fun o ho hl => ?_) (fun o c ho hc hcan => ?_)
    · unfold xLook at hl ⊢
      rw [t8 7 o 5 (by omega), t8 0 0 3 (by omega), t8 7 o 4 (by omega), eo 7 o 5 (by decide) (by decide) (by decide) (by omega) (by omega), eo 0 0 3 (by decide) (by decide) (by decide) (by omega) (by omega), eo 7 o 4 (by decide) (by decide) (by decide) (by omega) (by omega)] at hl
      exact hl
    · have hcn' : c ≠ n := fun q => by
        subst q
        have s1 := (xCan_1 hcan).1
        rw [t8 6 c 3 (by omega), r6] at s1
        simp [xCabNew, xCabIni, gst_app] at s1
      refine ⟨by omega, ?_⟩
      have e66 : ∀ f, τ 6 c f = σ 6 c f := fun f => (t8 6 c f (by omega)).trans (eow c f hcn')
      have e77 : ∀ f, τ 7 o f = σ 7 o f := fun f => (t8 7 o f (by omega)).trans (eo 7 o f (by decide) (by decide) (by decide) (by omega) (by omega))
      rw [← hcan]
      unfold xCan xIdle xBit
      rw [e66, e66, e66, e66, e77, e77]
  · obtain ⟨⟨a1, a2⟩, a3, a4⟩ := h.2.2.2.2.1
    refine ⟨⟨?_, ?_⟩, ?_, ?_⟩
    · rw [hcn 21 (by decide) (by decide) (by decide) (by decide) (by decide)]; exact a1
    · rw [hcn 22 (by decide) (by decide) (by decide) (by decide) (by decide)]; exact a2
    · rw [hln 21 0 (by decide) (by decide) (by decide) (by decide) (by omega)]; exact a3
    · rw [hln 22 0 (by decide) (by decide) (by decide) (by decide) (by omega)]; exact a4
  · rw [t8 k i f (by omega)]; exact eo k i f (by omega) (by omega) (by omega) (by omega) (by omega)
end GRW
