/-! minutes -/
def xRo1 (σ : Mem) (k : Nat) : Mem := if xOff σ k = -1 then σ else if σ 0 0 3 - σ 7 (ix (xOff σ k)) 7 < 2 then σ else xTurn σ k
def xRoN : Nat → Mem → Mem
  | 0, σ => σ
  | k + 1, σ => xRo1 (xRoN k σ) k
theorem xRoGo_N {σ : Mem} : ∀ (r k : Nat), xRoGo r k (xRoN k σ) = xRoN (k + r) σ
  | 0, k => rfl
  | r + 1, k => by
    have e : xRoGo (r + 1) k (xRoN k σ) = xRoGo r (k + 1) (xRoN (k + 1) σ) := by
      rw [xRoGo]
      show _ = xRoGo r (k + 1) (xRo1 (xRoN k σ) k)
      unfold xRo1
      repeat' split
      all_goals rfl
    rw [e, xRoGo_N r (k + 1), show k + 1 + r = k + (r + 1) by omega]
def xBc1 (σ : Mem) (k : Nat) : Mem := if σ 6 k 6 = -1 then σ else if σ 6 k 5 ≤ σ 0 0 3 then (if σ 6 k 3 = 2 then xBegin σ k (ix (σ 6 k 6)) else if σ 6 k 3 = 3 then xEnd σ k (ix (σ 6 k 6)) else σ) else σ
def xBcD (σ : Mem) (k : Nat) : Int32 := if σ 6 k 6 = -1 then 0 else if σ 6 k 5 ≤ σ 0 0 3 then (if σ 6 k 3 = 2 then 0 else if σ 6 k 3 = 3 then 1 else 0) else 0
def xBcN : Nat → Mem → Int32 × Mem
  | 0, σ => (0, σ)
  | k + 1, σ => ((xBcN k σ).1 + xBcD (xBcN k σ).2 k, xBc1 (xBcN k σ).2 k)
theorem xBcGo_N {σ : Mem} : ∀ (r k : Nat), xBcGo r k (xBcN k σ).1 (xBcN k σ).2 = xBcN (k + r) σ
  | 0, k => rfl
  | r + 1, k => by
    have e : xBcGo (r + 1) k (xBcN k σ).1 (xBcN k σ).2 = xBcGo r (k + 1) (xBcN (k + 1) σ).1 (xBcN (k + 1) σ).2 := by
      rw [xBcGo]
      show _ = xBcGo r (k + 1) ((xBcN k σ).1 + xBcD (xBcN k σ).2 k) (xBc1 (xBcN k σ).2 k)
      unfold xBc1 xBcD
      repeat' split
      all_goals first | rfl | rw [Int32.add_zero]
    rw [e, xBcGo_N r (k + 1), show k + 1 + r = k + (r + 1) by omega]
section MIN
variable {t : Nat} {ag ag' : Nat → Nat} {hs : Nat → Nat × Bool} {B : Nat} {σ ρ : Mem} {g : gG}
theorem pR.ageK (h : pR t ag hs B σ ρ) {k : Nat} (hg : ∀ c, c ≠ k → ag c ≤ ag' c) (hk : ∀ o a, o < nO σ → σ 6 k 3 = 1 → σ 6 k 6 = nI o → σ 7 o 7 = nI a → a ≤ t → t ≤ a + ag' k) : pR t ag' hs B σ ρ := by
  obtain ⟨a, b, c, ⟨d1, d2⟩, e⟩ := h
  refine ⟨a, b, c, ⟨fun i hi => ?_, d2⟩, e⟩
  rcases d1 i hi with q | ⟨o, ho, q, r1, r2, r3⟩
  · exact Or.inl q
  · refine Or.inr ⟨o, ho, q, r1, r2, ?_⟩
    rcases r3 with ⟨k1, x, y, z1, z2, z3, z4⟩ | r3
    · refine Or.inl ⟨k1, x, y, z1, z2, ?_, z4⟩
      by_cases ei : i = k
      · subst ei; exact hk o x ho k1 q z1 z2
      · have := hg i ei; omega
    · exact Or.inr r3
theorem lt2 {t a : Nat} (ht : t < 100000) (ha : a ≤ t) : (nI t - nI a < 2) ↔ t < a + 2 := by
  rw [pk_sub ha, show (2 : Int32) = nI 2 from rfl, nI_ltI (by omega) (by omega)]
  omega
theorem ge2 {t a : Nat} (ht : t < 100000) (ha : a ≤ t) : (nI a + 2 ≤ nI t) ↔ a + 2 ≤ t := by
  rw [show (2 : Int32) = nI 2 from rfl, nI_add, nI_leI (by omega) (by omega)]
theorem nlt0 {σ : Mem} {x : Int32} {n : Nat} (hn : n ≤ 1000) (h : x = -1 ∨ inN n x) : x < 0 ↔ x = -1 := by
  rcases h with h | ⟨j, hj, h⟩
  · rw [h]; exact ⟨fun _ => rfl, fun _ => by decide⟩
  · rw [h]; exact ⟨fun z => absurd z (nI_pos (by omega)), fun z => absurd z (nI_nm (by omega))⟩
theorem pR.o3 (h : pR t ag hs B σ ρ) {c : Nat} (hc : c < nC σ) : ρ 16 c 3 = -1 ∨ inN (nO σ) (ρ 16 c 3) := by
  obtain ⟨-, -, -, -, a6, -⟩ := h.cab hc
  rw [← a6]
  rcases h.l1 hc with ⟨-, q⟩ | ⟨o, ho, q, -⟩
  · exact Or.inl q
  · exact Or.inr ⟨o, ho, q⟩
/-- before cab k's offer is looked at -/
theorem pR.g1 (h : pR t ag hs B σ ρ) {k : Nat} (hk : k < nC σ) (e17 : gcn g 17 = nO σ) : rG1 g ρ k := by
  intro q1 q2
  have h60 := h.o60
  obtain ⟨a0, a1, a2, a3, a6, z, hz, ez⟩ := h.cab hk
  rcases h.o3 hk with q | ⟨o, ho, q⟩
  · rw [q] at q2; exact absurd (by decide) q2
  · have hw := h.tq.q hz
    exact ⟨z, o, hz, by rw [← a2, ez], by rw [e17]; exact ho, q, hw.1, hw.2.1, h.tq.at hk (by rw [a3, q1]) hz ez⟩
theorem pR.ro1 (h : pR t ag hs B σ ρ) {k : Nat} (hk : k < nC σ) (hag : ∀ c, c ≠ k → ag c ≤ ag' c) (hag1 : 1 ≤ ag' k) : pR t ag' hs (B + 1) (xRo1 σ k) (rAge1 ρ k) ∧ nC (xRo1 σ k) = nC σ ∧ nO (xRo1 σ k) = nO σ := by
  have h60 := h.o60
  have h10 := h.c10
  have h9 := h.t9
  obtain ⟨a0, a1, a2, a3, a6, z, hz, ez⟩ := h.cab hk
  unfold xRo1 rAge1
  have hn0 : σ 6 k 6 < 0 ↔ σ 6 k 6 = -1 := by rw [a6]; exact nlt0 (σ := σ) (n := nO σ) (by omega) (h.o3 hk)
  simp only [← a3, ← a6, hn0]
  by_cases c1 : xOff σ k = -1
  · rw [if_pos c1]
    have hn : ¬ (σ 6 k 3 = 1 ∧ ¬ σ 6 k 6 = -1) := fun q => (xOff_iff.mpr q) c1
    have e : (if σ 6 k 3 = 1 then (if σ 6 k 6 = -1 then ρ else if ρ 16 k 4 + 2 ≤ ρ 8 0 8 then rBack (rRfd ρ k) k else ρ) else ρ) = ρ := by
      by_cases q1 : σ 6 k 3 = 1
      · rw [if_pos q1]
        by_cases q2 : σ 6 k 6 = -1
        · rw [if_pos q2]
        · exact absurd ⟨q1, q2⟩ hn
      · rw [if_neg q1]
    rw [e]
    refine ⟨(h.ageK hag (fun o a ho q1 q2 => ?_)).mono (by omega), by rfl, by rfl⟩
    exact absurd ⟨q1, by rw [q2]; exact nI_nm (by omega)⟩ hn
  · rw [if_neg c1]
    obtain ⟨q1, q2⟩ := xOff_iff.mp c1
    obtain ⟨o, ho, eo, eo2, lk⟩ := h.of6 hk q2
    obtain ⟨a, d, s1, s2, s3, s4, -⟩ := lk.s1 q1
    have ex : xOff σ k = σ 6 k 6 := by unfold xOff; rw [if_pos q1]
    rw [ex, eo2, if_pos q1, if_neg q2, s1, s4, h.now, h.rnow]
    by_cases c2 : t < a + 2
    · rw [if_pos ((lt2 (by omega) s2).mpr c2), if_neg (fun q => by have := (ge2 (by omega) s2).mp q; omega)]
      refine ⟨(h.ageK hag (fun o' a' ho' _ k2 k3 _ => ?_)).mono (by omega), rfl, rfl⟩
      obtain rfl : o' = o := nI_inj (by omega) (by omega) (by rw [← k2, eo])
      obtain rfl : a' = a := nI_inj (by
        have : σ 7 o' 7 = nI a' := k3
        omega) (by omega) (by rw [← k3, s1])
      omega
    · rw [if_neg (fun q => c2 ((lt2 (by omega) s2).mp q)), if_pos ((ge2 (by omega) s2).mpr (by omega))]
      obtain ⟨h', eC, eO, e6⟩ := h.turnD hk c1 hz (by rw [← a2, ez])
      refine ⟨h'.ageK hag (fun o' a' ho' _ k2 => ?_), eC, eO⟩
      rw [e6] at k2
      rw [eO] at ho'
      exact absurd k2.symm (nI_nm (by omega))
theorem pR.roN (h : pR t (fun _ => 2) hs B σ ρ) : ∀ k, k ≤ nC σ → pR t (fun c => if c < k then 1 else 2) hs (B + k) (xRoN k σ) (rAgeN k ρ) ∧ nC (xRoN k σ) = nC σ ∧ nO (xRoN k σ) = nO σ
  | 0, _ => ⟨h.age (fun c _ _ => by show (2 : Nat) ≤ (if c < 0 then 1 else 2); rw [if_neg (Nat.not_lt_zero _)]; exact Nat.le_refl _), rfl, rfl⟩
  | k + 1, hk => by
    obtain ⟨h', eC, eO⟩ := pR.roN h k (by omega)
    obtain ⟨h2, eC2, eO2⟩ := h'.ro1 (k := k) (ag' := fun c => if c < k + 1 then 1 else 2) (by rw [eC]; omega) (fun c hc => by
      show (if c < k then 1 else 2) ≤ (if c < k + 1 then 1 else 2)
      by_cases q : c < k
      · rw [if_pos q, if_pos (by omega)]; exact Nat.le_refl _
      · rw [if_neg q, if_neg (by omega)]; exact Nat.le_refl _) (by show 1 ≤ (if k < k + 1 then 1 else 2); rw [if_pos (Nat.lt_succ_self _)]; exact Nat.le_refl _)
    exact ⟨h2, eC2.trans eC, eO2.trans eO⟩
/-- before cab k is brought on -/
theorem pR.g2 (h : pR t ag hs B σ ρ) {k : Nat} (hk : k < nC σ) (e17 : gcn g 17 = nO σ) : rG2 g ρ k := by
  intro q1
  have h60 := h.o60
  have h10 := h.c10
  obtain ⟨a0, a1, a2, a3, a6, z, hz, ez⟩ := h.cab hk
  have hst : σ 6 k 3 = 2 ∨ σ 6 k 3 = 3 := by
    rcases h.state hk with q | q | q | q
    · rw [← a3, q] at q1; exact absurd (by decide) q1
    · rw [← a3, q] at q1; exact absurd (by decide) q1
    · exact Or.inl q
    · exact Or.inr q
  have h6 : ¬ σ 6 k 6 = -1 := fun q => by
    rcases h.idle hk q with z | z <;> rw [z] at hst <;> rcases hst with q | q <;> exact absurd q (by decide)
  obtain ⟨o, ho, eo, -, -⟩ := h.of6 hk h6
  obtain ⟨⟨b0, b1, b2, -⟩, ⟨a, ha, ea⟩, ⟨b, hb, eb⟩⟩ := h.ord ho
  have hn1 : ¬ σ 6 k 3 = 1 := by rcases hst with q | q <;> rw [q] <;> decide
  exact ⟨o, a, b, by rw [e17]; exact ho, by rw [← a6, eo], ha, by rw [← b1, ea], hb, by rw [← b2, eb], (h.tq.q hb).1, h.tq.room h10 hk hn1 hb⟩
theorem pR.bc1 (h : pR t ag hs B σ ρ) {k : Nat} (hk : k < nC σ) : xBcD σ k = rRunD ρ k ∧ pR t ag hs (B + 1) (xBc1 σ k) (rRun1 ρ k) ∧ nC (xBc1 σ k) = nC σ ∧ nO (xBc1 σ k) = nO σ := by
  have h60 := h.o60
  have h10 := h.c10
  have h9 := h.t9
  obtain ⟨a0, a1, a2, a3, a6, -⟩ := h.cab hk
  have hskip : pR t ag hs (B + 1) σ ρ := h.mono (by omega)
  unfold xBcD xBc1 rRunD rRun1
  rw [← a3, ← a6]
  by_cases c1 : σ 6 k 6 = -1
  · have hlt : σ 6 k 3 < 2 := by rcases h.idle hk c1 with q | q <;> rw [q] <;> decide
    rw [if_pos c1, if_pos c1, if_pos hlt, if_pos hlt]
    exact ⟨rfl, hskip, rfl, rfl⟩
  · obtain ⟨o, ho, eo, eo2, lk⟩ := h.of6 hk c1
    obtain ⟨⟨b0, b1, b2, b3, b4, -⟩, -⟩ := h.ord ho
    rw [if_neg c1, if_neg c1, eo2]
    rcases lk.2.2 with ⟨s1, -⟩ | ⟨s2, k1, r, k2, k3⟩ | ⟨s3, k1, -⟩
    · have hlt : σ 6 k 3 < 2 := by rw [s1]; decide
      have n2 : ¬ σ 6 k 3 = 2 := by rw [s1]; decide
      have n3 : ¬ σ 6 k 3 = 3 := by rw [s1]; decide
      rw [if_pos hlt, if_pos hlt, if_neg n2, if_neg n3, if_neg n2, if_neg n3]
      refine ⟨by split <;> rfl, ?_, ?_, ?_⟩
      · split <;> exact hskip
      · split <;> rfl
      · split <;> rfl
    · have hlt : ¬ σ 6 k 3 < 2 := by rw [s2]; decide
      have n3 : ¬ σ 6 k 3 = 3 := by rw [s2]; decide
      rw [if_neg hlt, if_neg hlt, if_pos s2, if_pos s2, if_neg n3, if_neg n3]
      have hx : σ 6 k 5 ≤ σ 0 0 3 ↔ (ρ 16 k 4 ≤ ρ 8 0 8 ∧ ¬ ρ 8 0 8 < ρ 17 o 3) := by
        rw [k1, xMx_le, h.rnow, h.now, ← b4, Int32.not_lt]
      by_cases c2 : σ 6 k 5 ≤ σ 0 0 3
      · obtain ⟨p1, p2⟩ := hx.mp c2
        rw [if_pos c2, if_pos c2, if_pos p1, if_pos p1, if_neg p2]
        refine ⟨rfl, (h.begin hk eo ho s2 c2).mono (by omega), ?_, ?_⟩
        · simp [xBegin, xMeter, nC, gst_app]
        · simp [xBegin, xMeter, nO, gst_app]
      · rw [if_neg c2, if_neg c2]
        by_cases p1 : ρ 16 k 4 ≤ ρ 8 0 8
        · have p2 : ρ 8 0 8 < ρ 17 o 3 := by
            by_cases q : ρ 8 0 8 < ρ 17 o 3
            · exact q
            · exact absurd (hx.mpr ⟨p1, q⟩) c2
          rw [if_pos p1, if_pos p1, if_pos p2]
          exact ⟨rfl, hskip, rfl, rfl⟩
        · rw [if_neg p1, if_neg p1]
          exact ⟨rfl, hskip, rfl, rfl⟩
    · have hlt : ¬ σ 6 k 3 < 2 := by rw [s3]; decide
      have n2 : ¬ σ 6 k 3 = 2 := by rw [s3]; decide
      rw [if_neg hlt, if_neg hlt, if_neg n2, if_neg n2, if_pos s3, if_pos s3, if_pos s3]
      have hx : σ 6 k 5 ≤ σ 0 0 3 ↔ ρ 16 k 4 ≤ ρ 8 0 8 := by rw [k1, h.rnow, h.now]
      by_cases c2 : σ 6 k 5 ≤ σ 0 0 3
      · rw [if_pos c2, if_pos c2, if_pos (hx.mp c2), if_pos (hx.mp c2)]
        refine ⟨rfl, h.fin hk eo ho s3 c2, ?_, ?_⟩
        · simp [xEnd, xJoin, nC, gst_app]
        · simp [xEnd, xJoin, nO, gst_app]
      · rw [if_neg c2, if_neg c2, if_neg (fun q => c2 (hx.mpr q)), if_neg (fun q => c2 (hx.mpr q))]
        exact ⟨rfl, hskip, rfl, rfl⟩
theorem pR.bcN (h : pR t ag hs B σ ρ) : ∀ k, k ≤ nC σ → (xBcN k σ).1 = (rRunN k ρ).1 ∧ pR t ag hs (B + k) (xBcN k σ).2 (rRunN k ρ).2 ∧ nC (xBcN k σ).2 = nC σ ∧ nO (xBcN k σ).2 = nO σ
  | 0, _ => ⟨rfl, h, rfl, rfl⟩
  | k + 1, hk => by
    obtain ⟨e, h', eC, eO⟩ := pR.bcN h k (by omega)
    obtain ⟨e2, h2, eC2, eO2⟩ := h'.bc1 (k := k) (by rw [eC]; omega)
    refine ⟨?_, h2, eC2.trans eC, eO2.trans eO⟩
    show (xBcN k σ).1 + xBcD (xBcN k σ).2 k = (rRunN k ρ).1 + rRunD (rRunN k ρ).2 k
    rw [e, e2]
/-- a whole minute -/
theorem pR.minute (h : pR t (fun _ => 1) hs B σ ρ) (hB : B + 100 < 2 ^ 31) (ht : t < 9999) (e16 : gcn g 16 = nC σ) (e17 : gcn g 17 = nO σ) :
    ∃ N, (∀ k, k < gcn g 16 → rG1 g (rAgeN k (rM0 ρ)) k) ∧ (∀ k, k < gcn g 16 → rG2 g (rRunN k (rM1 (gcn g 16) ρ)).2 k) ∧ (∀ z, z < 6 → rQw (gcn g 16) (rM2 (gcn g 16) ρ).2 z) ∧ (∀ o, o < gcn g 17 → inN 6 ((rM2 (gcn g 16) ρ).2 17 o 0)) ∧
      (∀ i, i < N → ¬ rBest (rOffN i (rM2 (gcn g 16) ρ).2) < 0) ∧ rBest (rOffN N (rM2 (gcn g 16) ρ).2) < 0 ∧ (xPm σ).1 = (rM2 (gcn g 16) ρ).1 ∧ pR (t + 1) (fun _ => 1) hs (B + 20) (xPm σ).2 (rOffN N (rM2 (gcn g 16) ρ).2) ∧ pNW (xPm σ).2 ∧ nC (xPm σ).2 = nC σ ∧ nO (xPm σ).2 = nO σ := by
  have h60 := h.o60
  have h10 := h.c10
  have h1 := h.time ht
  have eC1 : nC (gst σ 0 0 3 (σ 0 0 3 + 1)) = nC σ := nC_g (by decide)
  have eO1 : nO (gst σ 0 0 3 (σ 0 0 3 + 1)) = nO σ := nO_g (by decide)
  obtain ⟨σ1, es⟩ : ∃ y, y = gst σ 0 0 3 (σ 0 0 3 + 1) := ⟨_, rfl⟩
  have er : gst ρ 8 0 8 (ρ 8 0 8 + 1) = rM0 ρ := rfl
  rw [← es] at h1 eC1 eO1
  rw [er] at h1
  have h1' : pR (t + 1) (fun _ => 2) hs B σ1 (rM0 ρ) := h1
  have hro := fun k (hk : k ≤ nC σ1) => h1'.roN k hk
  obtain ⟨h2, eC2, eO2⟩ := hro (nC σ1) (Nat.le_refl _)
  have h2' : pR (t + 1) (fun _ => 1) hs (B + nC σ1) (xRoN (nC σ1) σ1) (rM1 (gcn g 16) ρ) := by
    rw [e16, ← eC1]
    refine h2.age (fun c hc _ => ?_)
    show (if c < nC σ1 then 1 else 2) ≤ 1
    rw [if_pos (by rw [eC2] at hc; exact hc)]
    exact Nat.le_refl _
  have hbc := fun k (hk : k ≤ nC (xRoN (nC σ1) σ1)) => h2'.bcN k hk
  obtain ⟨e3, h3, eC3, eO3⟩ := hbc (nC (xRoN (nC σ1) σ1)) (Nat.le_refl _)
  have exro : xRo σ1 = xRoN (nC σ1) σ1 := by unfold xRo; have := xRoGo_N (σ := σ1) (nC σ1) 0; rw [Nat.zero_add] at this; exact this
  have exbc : xBc (xRoN (nC σ1) σ1) = xBcN (nC (xRoN (nC σ1) σ1)) (xRoN (nC σ1) σ1) := by unfold xBc; have := xBcGo_N (σ := xRoN (nC σ1) σ1) (nC (xRoN (nC σ1) σ1)) 0; rw [Nat.zero_add] at this; exact this
  have en : nC (xRoN (nC σ1) σ1) = gcn g 16 := by rw [eC2, eC1, e16]
  have hpm : xPm σ = ((xBcN (gcn g 16) (xRoN (nC σ1) σ1)).1, xMo (xBcN (gcn g 16) (xRoN (nC σ1) σ1)).2) := by
    unfold xPm
    rw [← es, exro, exbc, en]
  rw [en] at e3 h3 eC3 eO3
  have e3' : (xBcN (gcn g 16) (xRoN (nC σ1) σ1)).1 = (rM2 (gcn g 16) ρ).1 := e3
  have h3' : pR (t + 1) (fun _ => 1) hs (B + nC σ1 + gcn g 16) (xBcN (gcn g 16) (xRoN (nC σ1) σ1)).2 (rM2 (gcn g 16) ρ).2 := h3
  obtain ⟨N, n1, n2, n3, n4, n5, n6⟩ := h3'.mo (by omega)
  have eCf : nC (xBcN (gcn g 16) (xRoN (nC σ1) σ1)).2 = nC σ := by rw [eC3, e16]
  have eOf : nO (xBcN (gcn g 16) (xRoN (nC σ1) σ1)).2 = nO σ := by rw [eO3, eO2, eO1]
  refine ⟨N, fun k hk => ?_, fun k hk => ?_, fun z hz => ?_, fun o ho => ?_, n1, n2, ?_, ?_, ?_, ?_, ?_⟩
  · obtain ⟨q1, q2, q3⟩ := hro k (by rw [eC1, ← e16]; omega)
    exact q1.g1 (by rw [q2, eC1, ← e16]; exact hk) (by rw [q3, eO1]; exact e17)
  · obtain ⟨q0, q1, q2, q3⟩ := hbc k (by rw [en]; omega)
    exact q1.g2 (by rw [q2, en]; exact hk) (by rw [q3, eO2, eO1]; exact e17)
  · have := h3'.tq.q hz
    rw [eCf, ← e16] at this
    exact this
  · obtain ⟨⟨-, f1, -⟩, f2, -⟩ := h3'.ord (o := o) (by rw [eOf, ← e17]; exact ho)
    rw [← f1]; exact f2
  · rw [hpm]; exact e3'
  · rw [hpm]; exact n3.mono (by omega)
  · rw [hpm]; exact n4
  · rw [hpm]; exact n5.trans eCf
  · rw [hpm]; exact n6.trans eOf
end MIN
