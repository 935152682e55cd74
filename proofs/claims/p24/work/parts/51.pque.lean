/-! queues: leaving, joining -/
theorem rSh_v {z : Nat} : ∀ (r k : Nat) {σ : Mem} (j : Nat), rSh z r k σ 18 z j = if k ≤ j ∧ j < k + r then σ 18 z (j + 1) else σ 18 z j
  | 0, k, σ, j => by rw [if_neg (by omega)]; rfl
  | r + 1, k, σ, j => by
    rw [rSh, rSh_v r (k + 1) j]
    by_cases h1 : k + 1 ≤ j ∧ j < k + 1 + r
    · rw [if_pos h1, if_pos (by omega), gst_nf (by omega)]
    · rw [if_neg h1]
      by_cases h2 : j = k
      · subst h2
        rw [gst_eq, if_pos (by omega)]
      · rw [gst_nf h2, if_neg (by omega)]
theorem rAtGo_ok {σ : Mem} {z c : Nat} : ∀ (r k : Nat), (∃ j, k ≤ j ∧ j < k + r ∧ σ 18 z j = nI c) → k ≤ rAtGo σ z c r k ∧ rAtGo σ z c r k < k + r ∧ σ 18 z (rAtGo σ z c r k) = nI c ∧ ∀ j, k ≤ j → j < rAtGo σ z c r k → ¬ σ 18 z j = nI c
  | 0, k, ⟨j, h1, h2, _⟩ => by omega
  | r + 1, k, ⟨j, h1, h2, h3⟩ => by
    rw [rAtGo]
    by_cases e : σ 18 z k = nI c
    · rw [if_pos e]
      exact ⟨Nat.le_refl _, by omega, e, fun i a b => by omega⟩
    · rw [if_neg e]
      have hj : j ≠ k := by rintro rfl; exact e h3
      obtain ⟨a1, a2, a3, a4⟩ := rAtGo_ok r (k + 1) ⟨j, by omega, by omega, h3⟩
      refine ⟨by omega, by omega, a3, fun i b1 b2 => ?_⟩
      by_cases ei : i = k
      · subst ei; exact e
      · exact a4 i (by omega) b2
theorem rAt_ok {σ : Mem} {z c : Nat} (h : ∃ j, 1 ≤ j ∧ j ≤ rQn σ z ∧ σ 18 z j = nI c) : rIn σ z c := by
  obtain ⟨j, h1, h2, h3⟩ := h
  obtain ⟨a1, a2, a3, a4⟩ := rAtGo_ok (σ := σ) (z := z) (c := c) (rQn σ z) 1 ⟨j, h1, by omega, h3⟩
  exact ⟨a1, by unfold rAt; omega, a3, a4⟩
theorem rLv_lo {σ : Mem} {z c j : Nat} (h1 : 1 ≤ j) (h2 : j < rAt σ z c) : rLv σ z c 18 z j = σ 18 z j := by
  unfold rLv
  rw [gst_nf (by omega), rSh_v, if_neg (by omega)]
theorem rLv_hi {σ : Mem} {z c j : Nat} (h0 : 1 ≤ rAt σ z c) (h1 : rAt σ z c ≤ j) (h2 : j < rQn σ z) : rLv σ z c 18 z j = σ 18 z (j + 1) := by
  unfold rLv
  rw [gst_nf (by omega), rSh_v, if_pos (by omega)]
/-- distinct numbers below m -/
theorem pigeon : ∀ (m n : Nat) (f : Nat → Nat), (∀ i, i < n → f i < m) → (∀ i j, i < j → j < n → f i ≠ f j) → n ≤ m
  | 0, n, f, h1, _ => by
    rcases Nat.eq_zero_or_pos n with q | q
    · omega
    · exact absurd (h1 0 q) (Nat.not_lt_zero _)
  | m + 1, n, f, h1, h2 => by
    by_cases hx : ∃ i, i < n ∧ f i = m
    · obtain ⟨i, hi, ei⟩ := hx
      have := pigeon m (n - 1) (fun j => if j < i then f j else f (j + 1)) (fun j hj => by
        show (if j < i then f j else f (j + 1)) < m
        by_cases c : j < i
        · rw [if_pos c]
          have a := h1 j (by omega)
          have b := h2 j i c hi
          omega
        · rw [if_neg c]
          have a := h1 (j + 1) (by omega)
          have b := h2 i (j + 1) (by omega) (by omega)
          omega) (fun a b hab hb => by
        show (if a < i then f a else f (a + 1)) ≠ (if b < i then f b else f (b + 1))
        by_cases c : a < i
        · rw [if_pos c]
          by_cases d : b < i
          · rw [if_pos d]; exact h2 a b hab (by omega)
          · rw [if_neg d]; exact h2 a (b + 1) (by omega) (by omega)
        · rw [if_neg c, if_neg (by omega)]
          exact h2 (a + 1) (b + 1) (by omega) (by omega))
      omega
    · have := pigeon m n f (fun i hi => by
        have a := h1 i hi
        have b : f i ≠ m := fun e => hx ⟨i, hi, e⟩
        omega) h2
      omega
/-- a queue of those for whom F holds -/
def qq (u : Nat → Nat) (F : Nat → Prop) (N : Nat) (ρ : Mem) (z : Nat) : Prop := ρ 18 z 0 = nI (rQn ρ z) ∧ rQn ρ z ≤ 10 ∧
  (∀ j, 1 ≤ j → j ≤ rQn ρ z → ∃ c, ρ 18 z j = nI c ∧ c < N ∧ F c) ∧
  (∀ c, c < N → F c → ∃ j, 1 ≤ j ∧ j ≤ rQn ρ z ∧ ρ 18 z j = nI c) ∧
  (∀ i j a b, 1 ≤ i → i < j → j ≤ rQn ρ z → a < N → b < N → ρ 18 z i = nI a → ρ 18 z j = nI b → u a < u b)
theorem pQ_qq {u : Nat → Nat} {σ ρ : Mem} {z : Nat} : pQ u σ ρ z ↔ qq u (fun c => σ 6 c 3 = 1 ∧ σ 6 c 2 = nI z) (nC σ) ρ z := by
  unfold pQ qq
  refine ⟨fun ⟨h1, h2, h3, h4, h5⟩ => ⟨h1, h2, fun j a b => ?_, fun c hc hF => h4 c hc hF.1 hF.2, h5⟩, fun ⟨h1, h2, h3, h4, h5⟩ => ⟨h1, h2, fun j a b => ?_, fun c hc q1 q2 => h4 c hc ⟨q1, q2⟩, h5⟩⟩
  · obtain ⟨c, q1, q2, q3, q4⟩ := h3 j a b
    exact ⟨c, q1, q2, q3, q4⟩
  · obtain ⟨c, q1, q2, q3, q4⟩ := h3 j a b
    exact ⟨c, q1, q2, q3, q4⟩
section QQ
variable {u u' : Nat → Nat} {F F' : Nat → Prop} {N z : Nat} {ρ ρ' : Mem}
theorem qq.congr (h : qq u F N ρ z) (hN : N ≤ 10) (er : ∀ j, ρ' 18 z j = ρ 18 z j) (eF : ∀ c, c < N → (F c ↔ F' c)) (eu : ∀ c, c < N → F c → u c = u' c) : qq u' F' N ρ' z := by
  obtain ⟨h1, h2, h3, h4, h5⟩ := h
  have en : rQn ρ' z = rQn ρ z := by unfold rQn; rw [er]
  unfold qq
  rw [en, er 0]
  refine ⟨h1, h2, fun j a b => ?_, fun c hc hF => ?_, fun i j a b c1 c2 c3 c4 c5 c6 c7 => ?_⟩
  · obtain ⟨c, q1, q2, q3⟩ := h3 j a b
    exact ⟨c, by rw [er]; exact q1, q2, (eF c q2).mp q3⟩
  · obtain ⟨j, q1, q2, q3⟩ := h4 c hc ((eF c hc).mpr hF)
    exact ⟨j, q1, q2, by rw [er]; exact q3⟩
  · rw [er] at c6 c7
    obtain ⟨x, x1, x2, x3⟩ := h3 i c1 (by omega)
    obtain ⟨y, y1, y2, y3⟩ := h3 j (by omega) c3
    obtain rfl : x = a := nI_inj (by omega) (by omega) (by rw [← x1, c6])
    obtain rfl : y = b := nI_inj (by omega) (by omega) (by rw [← y1, c7])
    rw [← eu x x2 x3, ← eu y y2 y3]
    exact h5 i j x y c1 c2 c3 c4 c5 c6 c7
theorem qq.rqw (h : qq u F N ρ z) : rQw N ρ z := ⟨h.1, h.2.1, fun j a b => by
  obtain ⟨c, q1, q2, -⟩ := h.2.2.1 j a b
  exact ⟨c, q2, q1⟩⟩
theorem qq.at (h : qq u F N ρ z) {c : Nat} (hc : c < N) (hF : F c) : rIn ρ z c := rAt_ok (h.2.2.2.1 c hc hF)
/-- one place a cab -/
theorem qq.inj (h : qq u F N ρ z) (hN : N ≤ 10) {i j : Nat} (hi : 1 ≤ i) (hj : 1 ≤ j) (hi2 : i ≤ rQn ρ z) (hj2 : j ≤ rQn ρ z) (e : ρ 18 z i = ρ 18 z j) : i = j := by
  obtain ⟨h1, h2, h3, h4, h5⟩ := h
  obtain ⟨x, x1, x2, x3⟩ := h3 i hi hi2
  rcases Nat.lt_trichotomy i j with q | q | q
  · have := h5 i j x x hi q hj2 x2 x2 x1 (by rw [← e]; exact x1)
    omega
  · exact q
  · have := h5 j i x x hj q hi2 x2 x2 (by rw [← e]; exact x1) x1
    omega
theorem qq.leave (h : qq u F N ρ z) (hN : N ≤ 10) {c : Nat} (hc : c < N) (hF : F c) : qq u (fun i => F i ∧ i ≠ c) N (rLv ρ z c) z ∧ rQn (rLv ρ z c) z = rQn ρ z - 1 ∧ 1 ≤ rQn ρ z := by
  obtain ⟨a1, a2, a3, a4⟩ := h.at hc hF
  obtain ⟨en, e0⟩ := rLv_n ⟨a1, a2⟩ h.2.1
  have hinj := @qq.inj _ _ _ _ _ h hN
  obtain ⟨h1, h2, h3, h4, h5⟩ := h
  have ev : ∀ j, 1 ≤ j → j ≤ rQn ρ z - 1 → ∃ k, 1 ≤ k ∧ k ≤ rQn ρ z ∧ k ≠ rAt ρ z c ∧ rLv ρ z c 18 z j = ρ 18 z k ∧ ((k = j ∧ j < rAt ρ z c) ∨ (k = j + 1 ∧ rAt ρ z c ≤ j)) := by
    intro j q1 q2
    rcases Nat.lt_or_ge j (rAt ρ z c) with q | q
    · exact ⟨j, q1, by omega, by omega, rLv_lo q1 q, Or.inl ⟨rfl, q⟩⟩
    · exact ⟨j + 1, by omega, by omega, by omega, rLv_hi a1 q (by omega), Or.inr ⟨rfl, q⟩⟩
  refine ⟨?_, en, by omega⟩
  unfold qq
  rw [en, e0]
  refine ⟨rfl, by omega, fun j q1 q2 => ?_, fun i hi hFi => ?_, fun i j a b q1 q2 q3 q4 q5 q6 q7 => ?_⟩
  · obtain ⟨k, k1, k2, k3, k4, -⟩ := ev j q1 q2
    obtain ⟨x, x1, x2, x3⟩ := h3 k k1 k2
    refine ⟨x, by rw [k4]; exact x1, x2, x3, fun e => k3 ?_⟩
    subst e
    exact hinj k1 a1 k2 a2 (by rw [x1, a3])
  · obtain ⟨k, k1, k2, k3⟩ := h4 i hi hFi.1
    have hk : k ≠ rAt ρ z c := by
      rintro rfl
      exact hFi.2 (nI_inj (by omega) (by omega) (by rw [← k3, a3]))
    rcases Nat.lt_or_ge k (rAt ρ z c) with q | q
    · exact ⟨k, k1, by omega, by rw [rLv_lo k1 q]; exact k3⟩
    · refine ⟨k - 1, by omega, by omega, ?_⟩
      rw [rLv_hi a1 (by omega) (by omega), show k - 1 + 1 = k by omega]
      exact k3
  · obtain ⟨k, k1, k2, k3, k4, k5⟩ := ev i q1 (by omega)
    obtain ⟨k', k1', k2', k3', k4', k5'⟩ := ev j (by omega) q3
    rw [k4] at q6
    rw [k4'] at q7
    exact h5 k k' a b k1 (by omega) k2' q4 q5 q6 q7
theorem qq.room (h : qq u F N ρ z) (hN : N ≤ 10) {c : Nat} (hc : c < N) (hF : ¬ F c) : rQn ρ z ≤ 9 := by
  have hinj := @qq.inj _ _ _ _ _ h hN
  obtain ⟨h1, h2, h3, h4, h5⟩ := h
  have hch : ∀ j, ∃ x, 1 ≤ j → j ≤ rQn ρ z → (ρ 18 z j = nI x ∧ x < N ∧ F x) := fun j => by
    by_cases q : 1 ≤ j ∧ j ≤ rQn ρ z
    · obtain ⟨x, hx⟩ := h3 j q.1 q.2
      exact ⟨x, fun _ _ => hx⟩
    · exact ⟨0, fun a b => absurd ⟨a, b⟩ q⟩
  have := pigeon N (rQn ρ z + 1) (fun i => if i < rQn ρ z then Classical.choose (hch (i + 1)) else c) (fun i hi => by
    show (if i < rQn ρ z then Classical.choose (hch (i + 1)) else c) < N
    by_cases q : i < rQn ρ z
    · rw [if_pos q]
      exact (Classical.choose_spec (hch (i + 1)) (by omega) (by omega)).2.1
    · rw [if_neg q]; exact hc) (fun i j hij hj => by
    show (if i < rQn ρ z then Classical.choose (hch (i + 1)) else c) ≠ (if j < rQn ρ z then Classical.choose (hch (j + 1)) else c)
    have hi := Classical.choose_spec (hch (i + 1)) (by omega) (by omega)
    rw [if_pos (by omega)]
    by_cases q : j < rQn ρ z
    · have hj2 := Classical.choose_spec (hch (j + 1)) (by omega) (by omega)
      rw [if_pos q]
      intro e
      have := hinj (i := i + 1) (j := j + 1) (by omega) (by omega) (by omega) (by omega) (by rw [hi.1, hj2.1, e])
      omega
    · rw [if_neg q]
      intro e
      exact hF (e ▸ hi.2.2))
  omega
theorem rJoin_n {c : Nat} (hn : rQn ρ z ≤ 10) : rQn (rJoin ρ z c) z = rQn ρ z + 1 := by
  unfold rJoin
  show ix (gst (gst ρ 18 z 0 (nI (rQn ρ z + 1))) 18 z (rQn ρ z + 1) (nI c) 18 z 0) = _
  rw [gst_nf (by omega), gst_eq]
  exact ix_nI (by omega)
theorem rJoin_lo {c j : Nat} (h1 : 1 ≤ j) (h2 : j ≤ rQn ρ z) : rJoin ρ z c 18 z j = ρ 18 z j := by
  unfold rJoin
  rw [gst_nf (by omega), gst_nf (by omega)]
theorem rJoin_hi {c : Nat} : rJoin ρ z c 18 z (rQn ρ z + 1) = nI c := by
  unfold rJoin
  rw [gst_eq]
theorem qq.join (h : qq u F N ρ z) (hN : N ≤ 10) {c v : Nat} (hc : c < N) (hF : ¬ F c) (hv : ∀ i, i < N → F i → u i < v) : qq (fun i => if i = c then v else u i) (fun i => F i ∨ i = c) N (rJoin ρ z c) z := by
  have h9 := h.room hN hc hF
  obtain ⟨h1, h2, h3, h4, h5⟩ := h
  have en := rJoin_n (ρ := ρ) (z := z) (c := c) h2
  unfold qq
  rw [en]
  refine ⟨?_, by omega, fun j q1 q2 => ?_, fun i hi hFi => ?_, fun i j a b q1 q2 q3 q4 q5 q6 q7 => ?_⟩
  · unfold rJoin
    rw [gst_nf (by omega), gst_eq]
  · rcases Nat.lt_or_ge (rQn ρ z) j with q | q
    · obtain rfl : j = rQn ρ z + 1 := by omega
      exact ⟨c, rJoin_hi, hc, Or.inr rfl⟩
    · obtain ⟨x, x1, x2, x3⟩ := h3 j q1 q
      exact ⟨x, by rw [rJoin_lo q1 q]; exact x1, x2, Or.inl x3⟩
  · by_cases e : i = c
    · subst e
      exact ⟨rQn ρ z + 1, by omega, Nat.le_refl _, rJoin_hi⟩
    · obtain ⟨k, k1, k2, k3⟩ := h4 i hi (hFi.resolve_right e)
      exact ⟨k, k1, by omega, by rw [rJoin_lo k1 k2]; exact k3⟩
  · have hi : i ≤ rQn ρ z := by omega
    rw [rJoin_lo q1 hi] at q6
    obtain ⟨x, x1, x2, x3⟩ := h3 i q1 hi
    obtain rfl : x = a := nI_inj (by omega) (by omega) (by rw [← x1, q6])
    have hxc : x ≠ c := by rintro rfl; exact hF x3
    show (if x = c then v else u x) < (if b = c then v else u b)
    rw [if_neg hxc]
    rcases Nat.lt_or_ge (rQn ρ z) j with q | q
    · obtain rfl : j = rQn ρ z + 1 := by omega
      rw [rJoin_hi] at q7
      have hcb : c = b := nI_inj (by omega) (by omega) q7
      rw [if_pos hcb.symm]
      exact hv x x2 x3
    · rw [rJoin_lo (by omega) q] at q7
      obtain ⟨y, y1, y2, y3⟩ := h3 j (by omega) q
      obtain rfl : y = b := nI_inj (by omega) (by omega) (by rw [← y1, q7])
      have hyc : y ≠ c := by rintro rfl; exact hF y3
      rw [if_neg hyc]
      exact h5 i j x y q1 q2 q q4 q5 q6 q7
end QQ
section PT
variable {B B' : Nat} {σ ρ σ' ρ' : Mem}
theorem pT.of (h : pT B σ ρ) (h10 : nC σ ≤ 10) (eC : nC σ' = nC σ) (s06 : σ' 0 0 6 = σ 0 0 6) (er : ∀ z j, ρ' 18 z j = ρ 18 z j) (hk : ∀ i, i < nC σ → (σ' 6 i 3 = 1 ↔ σ 6 i 3 = 1) ∧ (σ 6 i 3 = 1 → σ' 6 i 4 = σ 6 i 4 ∧ σ' 6 i 2 = σ 6 i 2)) : pT B σ' ρ' := by
  obtain ⟨u, U, a1, a2, a3, a4⟩ := h
  refine ⟨u, U, s06.trans a1, a2, fun c hc h3 => ?_, fun z hz => pQ_qq.mpr ?_⟩
  · rw [eC] at hc
    obtain ⟨k1, k2⟩ := hk c hc
    rw [(k2 (k1.mp h3)).1]
    exact a3 c hc (k1.mp h3)
  · rw [eC]
    refine (pQ_qq.mp (a4 z hz)).congr h10 (er z) (fun c hc => ?_) (fun _ _ _ => rfl)
    obtain ⟨k1, k2⟩ := hk c hc
    refine ⟨fun q => ⟨k1.mpr q.1, by rw [(k2 q.1).2]; exact q.2⟩, fun q => ⟨k1.mp q.1, by rw [← (k2 (k1.mp q.1)).2]; exact q.2⟩⟩
/-- cab c leaves its queue -/
theorem pT.leave (h : pT B σ ρ) (h10 : nC σ ≤ 10) {c z : Nat} (hc : c < nC σ) (h1 : σ 6 c 3 = 1) (hz : z < 6) (h2 : σ 6 c 2 = nI z) (eC : nC σ' = nC σ) (s06 : σ' 0 0 6 = σ 0 0 6) (er : ∀ z' j, ρ' 18 z' j = rLv ρ z c 18 z' j)
    (hn : ¬ σ' 6 c 3 = 1) (hk : ∀ i, i < nC σ → i ≠ c → σ' 6 i 3 = σ 6 i 3 ∧ σ' 6 i 4 = σ 6 i 4 ∧ σ' 6 i 2 = σ 6 i 2) : pT B σ' ρ' := by
  obtain ⟨u, U, a1, a2, a3, a4⟩ := h
  refine ⟨u, U, s06.trans a1, a2, fun i hi h3 => ?_, fun z' hz' => pQ_qq.mpr ?_⟩
  · rw [eC] at hi
    have e : i ≠ c := by rintro rfl; exact hn h3
    obtain ⟨k1, k2, -⟩ := hk i hi e
    rw [k1] at h3
    rw [k2]
    exact a3 i hi h3
  · rw [eC]
    by_cases ez : z' = z
    · subst ez
      refine ((pQ_qq.mp (a4 z' hz')).leave h10 hc ⟨h1, h2⟩).1.congr h10 (er z') (fun i hi => ?_) (fun _ _ _ => rfl)
      refine ⟨fun ⟨q, e⟩ => ?_, fun q => ?_⟩
      · obtain ⟨k1, -, k3⟩ := hk i hi e
        exact ⟨k1.trans q.1, k3.trans q.2⟩
      · have e : i ≠ c := by rintro rfl; exact hn q.1
        obtain ⟨k1, -, k3⟩ := hk i hi e
        exact ⟨⟨k1.symm.trans q.1, k3.symm.trans q.2⟩, e⟩
    · refine (pQ_qq.mp (a4 z' hz')).congr h10 (fun j => (er z' j).trans (rLv_o (fun q => ez q.2))) (fun i hi => ?_) (fun _ _ _ => rfl)
      by_cases e : i = c
      · subst e
        refine ⟨fun q => ?_, fun q => absurd q.1 hn⟩
        exact absurd (nI_inj (by omega) (by omega) (q.2.symm.trans h2)) ez
      · obtain ⟨k1, -, k3⟩ := hk i hi e
        rw [k1, k3]
/-- cab c comes to the end of zone z's queue -/
theorem pT.join (h : pT B σ ρ) (h10 : nC σ ≤ 10) {c z : Nat} (hc : c < nC σ) (h1 : ¬ σ 6 c 3 = 1) (hz : z < 6) (eC : nC σ' = nC σ) (s06 : σ' 0 0 6 = σ 0 0 6 + 1) (er : ∀ z' j, ρ' 18 z' j = rJoin ρ z c 18 z' j)
    (hf : σ' 6 c 3 = 1) (h4 : σ' 6 c 4 = σ 0 0 6) (h2 : σ' 6 c 2 = nI z) (hk : ∀ i, i < nC σ → i ≠ c → σ' 6 i 3 = σ 6 i 3 ∧ σ' 6 i 4 = σ 6 i 4 ∧ σ' 6 i 2 = σ 6 i 2) : pT (B + 1) σ' ρ' := by
  obtain ⟨u, U, a1, a2, a3, a4⟩ := h
  refine ⟨fun i => if i = c then U else u i, U + 1, by rw [s06, a1]; exact nI_1 U, by omega, fun i hi h3 => ?_, fun z' hz' => pQ_qq.mpr ?_⟩
  · rw [eC] at hi
    by_cases e : i = c
    · subst e
      simp only [if_true]
      exact ⟨h4.trans a1, Nat.lt_succ_self _⟩
    · simp only [if_neg e]
      obtain ⟨k1, k2, -⟩ := hk i hi e
      rw [k1] at h3
      obtain ⟨q1, q2⟩ := a3 i hi h3
      exact ⟨k2.trans q1, by omega⟩
  · rw [eC]
    by_cases ez : z' = z
    · subst ez
      refine ((pQ_qq.mp (a4 z' hz')).join h10 (v := U) hc (fun q => h1 q.1) (fun i hi q => (a3 i hi q.1).2)).congr h10 (er z') (fun i hi => ?_) (fun _ _ _ => rfl)
      by_cases e : i = c
      · subst e
        exact ⟨fun _ => ⟨hf, h2⟩, fun _ => Or.inr rfl⟩
      · obtain ⟨k1, -, k3⟩ := hk i hi e
        rw [k1, k3]
        exact ⟨fun q => q.resolve_right e, Or.inl⟩
    · refine (pQ_qq.mp (a4 z' hz')).congr h10 (fun j => (er z' j).trans (rJoin_o (fun q => ez q.2))) (fun i hi => ?_) (fun i hi q => ?_)
      · by_cases e : i = c
        · subst e
          refine ⟨fun q => absurd q.1 h1, fun q => ?_⟩
          exact absurd (nI_inj (by omega) (by omega) (q.2.symm.trans h2)) ez
        · obtain ⟨k1, -, k3⟩ := hk i hi e
          rw [k1, k3]
      · have e : i ≠ c := by rintro rfl; exact h1 q.1
        simp only [if_neg e]
theorem pT.mono (h : pT B σ ρ) (hB : B ≤ B') : pT B' σ ρ := by
  obtain ⟨u, U, a1, a2, a3⟩ := h
  exact ⟨u, U, a1, Nat.le_trans a2 hB, a3⟩
theorem pT.q (h : pT B σ ρ) {z : Nat} (hz : z < 6) : rQw (nC σ) ρ z := by
  obtain ⟨u, U, a1, a2, a3, a4⟩ := h
  exact (pQ_qq.mp (a4 z hz)).rqw
theorem pT.at (h : pT B σ ρ) {c z : Nat} (hc : c < nC σ) (h1 : σ 6 c 3 = 1) (hz : z < 6) (h2 : σ 6 c 2 = nI z) : rIn ρ z c := by
  obtain ⟨u, U, a1, a2, a3, a4⟩ := h
  exact (pQ_qq.mp (a4 z hz)).at hc ⟨h1, h2⟩
theorem pT.room (h : pT B σ ρ) (h10 : nC σ ≤ 10) {c z : Nat} (hc : c < nC σ) (h1 : ¬ σ 6 c 3 = 1) (hz : z < 6) : rQn ρ z ≤ 9 := by
  obtain ⟨u, U, a1, a2, a3, a4⟩ := h
  exact (pQ_qq.mp (a4 z hz)).room h10 hc (fun q => h1 q.1)
end PT
