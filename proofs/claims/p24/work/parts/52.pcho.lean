/-! the same cab is chosen -/
section CAN
variable {t : Nat} {ag : Nat → Nat} {hs : Nat → Nat × Bool} {B : Nat} {σ ρ : Mem}
theorem xCan_1 {o c : Nat} (h : xCan σ o c = true) : σ 6 c 3 = 1 ∧ σ 6 c 6 = -1 := by
  unfold xCan at h
  split at h
  · next hi =>
    unfold xIdle at hi
    split at hi
    · next h1 =>
      split at hi
      · next h2 => exact ⟨h1, h2⟩
      · cases hi
    · cases hi
  · cases h
theorem pR.m1 (h : pR t ag hs B σ ρ) {c : Nat} (hc : c < nC σ) : ¬ 0 ≤ ρ 16 c 3 ↔ σ 6 c 6 = -1 := by
  have h60 := h.o60
  obtain ⟨-, -, -, -, e6, -⟩ := h.cab hc
  rw [← e6]
  by_cases q : σ 6 c 6 = -1
  · rw [q]; exact ⟨fun _ => rfl, fun _ => by decide⟩
  · obtain ⟨o, ho, eo, -⟩ := h.of6 hc q
    rw [eo]
    exact ⟨fun z => absurd (nI_0le (by omega)) z, fun z => absurd z (nI_nm (by omega))⟩
theorem pR.can (h : pR t ag hs B σ ρ) {o c : Nat} (ho : o < nO σ) (hc : c < nC σ) (h1 : σ 6 c 3 = 1) : xCan σ o c = true ↔ (¬ 0 ≤ ρ 16 c 3 ∧ ¬ ρ 16 c 0 < ρ 17 o 2 ∧ ρ 19 o c = 0) := by
  have h10 := h.c10
  have hm := h.m1 hc
  obtain ⟨e0, e1, -⟩ := h.cab hc
  obtain ⟨⟨-, -, -, f3, -⟩, -⟩ := h.ord ho
  have hb := (h.bit ho).2.1 c (by omega)
  unfold xCan xIdle xBit
  rw [if_pos h1, e0, hm, ← hb, ← e1, ← f3]
  by_cases c2 : σ 6 c 6 = -1
  · rw [if_pos c2, if_pos rfl]
    by_cases c3 : σ 6 c 1 < σ 7 o 3
    · rw [if_pos c3]; exact ⟨fun q => (nomatch q), fun q => absurd c3 q.2.1⟩
    · rw [if_neg c3]
      by_cases c4 : σ 7 o 8 &&& ((1 : Int32) <<< (nI c &&& 31)) = 0
      · rw [if_pos c4]; exact ⟨fun _ => ⟨c2, c3, c4⟩, fun _ => rfl⟩
      · rw [if_neg c4]; exact ⟨fun q => (nomatch q), fun q => absurd q.2.2 c4⟩
  · rw [if_neg c2]
    exact ⟨fun q => (nomatch q), fun q => absurd q.1 c2⟩
/-- no cab of zone z can come; cab c is the first of zone z that can -/
def pNC (σ : Mem) (o z : Nat) : Prop := ∀ c, c < nC σ → σ 6 c 2 = nI z → ¬ xCan σ o c = true
def pBZ (σ : Mem) (o z c : Nat) : Prop := c < nC σ ∧ xCan σ o c = true ∧ σ 6 c 2 = nI z ∧ ∀ d, d < nC σ → σ 6 d 2 = nI z → xCan σ o d = true → σ 6 c 4 ≤ σ 6 d 4
theorem pR.fiGo (h : pR t ag hs B σ ρ) {o z : Nat} (ho : o < nO σ) {u : Nat → Nat} (hq : pQ u σ ρ z) : ∀ (r k : Nat), 1 ≤ k → k + r = rQn ρ z + 1 →
    (rFiGo ρ o z r k = -1 ∧ ∀ j c, k ≤ j → j ≤ rQn ρ z → ρ 18 z j = nI c → c < nC σ → ¬ xCan σ o c = true) ∨
    ∃ j c, k ≤ j ∧ j ≤ rQn ρ z ∧ ρ 18 z j = nI c ∧ c < nC σ ∧ rFiGo ρ o z r k = nI c ∧ xCan σ o c = true ∧ ∀ i d, k ≤ i → i < j → ρ 18 z i = nI d → d < nC σ → ¬ xCan σ o d = true
  | 0, k, h1, h2 => Or.inl ⟨rfl, fun j c a b => by omega⟩
  | r + 1, k, h1, h2 => by
    have h10 := h.c10
    obtain ⟨c, ec, hc, hf, hz⟩ := hq.2.2.1 k h1 (by omega)
    have hix : ix (ρ 18 z k) = c := by rw [ec]; exact ix_nI (by omega)
    have hcan := h.can ho hc hf
    have hskip : ¬ xCan σ o c = true → rFiGo ρ o z (r + 1) k = rFiGo ρ o z r (k + 1) → ((rFiGo ρ o z (r + 1) k = -1 ∧ ∀ j c, k ≤ j → j ≤ rQn ρ z → ρ 18 z j = nI c → c < nC σ → ¬ xCan σ o c = true) ∨
    ∃ j c, k ≤ j ∧ j ≤ rQn ρ z ∧ ρ 18 z j = nI c ∧ c < nC σ ∧ rFiGo ρ o z (r + 1) k = nI c ∧ xCan σ o c = true ∧ ∀ i d, k ≤ i → i < j → ρ 18 z i = nI d → d < nC σ → ¬ xCan σ o d = true) := fun hn he => by
      rcases h.fiGo ho hq r (k + 1) (by omega) (by omega) with ⟨q1, q2⟩ | ⟨j, d, q1, q2, q3, q4, q5, q6, q7⟩
      · exact (Or.inl ⟨he.trans q1, fun j d a b e1 e2 => by
          by_cases ej : j = k
          · subst ej
            obtain rfl : c = d := nI_inj (by omega) (by omega) (by rw [← ec, e1])
            exact hn
          · exact q2 j d (by omega) b e1 e2⟩)
      · exact Or.inr ⟨j, d, by omega, q2, q3, q4, he.trans q5, q6, fun i x a b e1 e2 => by
          by_cases ei : i = k
          · subst ei
            obtain rfl : c = x := nI_inj (by omega) (by omega) (by rw [← ec, e1])
            exact hn
          · exact q7 i x (by omega) b e1 e2⟩
    by_cases c1 : 0 ≤ ρ 16 c 3
    · exact hskip (fun q => (hcan.mp q).1 c1) (by simp only [rFiGo, hix, c1, if_true])
    · by_cases c2 : ρ 16 c 0 < ρ 17 o 2
      · exact hskip (fun q => (hcan.mp q).2.1 c2) (by simp only [rFiGo, hix, c1, c2, if_true, if_false])
      · by_cases c3 : ρ 19 o c = 0
        · exact Or.inr ⟨k, c, Nat.le_refl _, by omega, ec, hc, by simp only [rFiGo, hix, c1, c2, c3, if_true, if_false]; exact ec, hcan.mpr ⟨c1, c2, c3⟩, fun i d a b => by omega⟩
        · exact hskip (fun q => c3 (hcan.mp q).2.2) (by simp only [rFiGo, hix, c1, c2, c3, if_false])
theorem pR.fi (h : pR t ag hs B σ ρ) (hB : B < 2 ^ 31) {o z : Nat} (ho : o < nO σ) (hz : z < 6) : (rFi ρ o z = -1 ∧ pNC σ o z) ∨ ∃ c, rFi ρ o z = nI c ∧ pBZ σ o z c := by
  have h10 := h.c10
  obtain ⟨u, U, a1, a2, a3, a4⟩ := h.tq
  have hq := a4 z hz
  have hu : ∀ c d, c < nC σ → d < nC σ → σ 6 c 3 = 1 → σ 6 d 3 = 1 → u c ≤ u d → σ 6 c 4 ≤ σ 6 d 4 := fun c d hc hd h1 h2 hl => by
    obtain ⟨k1, k2⟩ := a3 c hc h1
    obtain ⟨k3, k4⟩ := a3 d hd h2
    rw [k1, k3]
    exact nI_le hl (by omega)
  rcases h.fiGo ho hq (rQn ρ z) 1 (Nat.le_refl _) (by omega) with ⟨q1, q2⟩ | ⟨j, c, q1, q2, q3, q4, q5, q6, q7⟩
  · refine Or.inl ⟨q1, fun c hc e hcan => ?_⟩
    obtain ⟨j, k1, k2, k3⟩ := hq.2.2.2.1 c hc (xCan_1 hcan).1 e
    exact q2 j c k1 k2 k3 hc hcan
  · obtain ⟨c', e1, e2, e3, e4⟩ := hq.2.2.1 j q1 q2
    obtain rfl : c = c' := nI_inj (by omega) (by omega) (by rw [← q3, e1])
    refine Or.inr ⟨c, q5, q4, q6, e4, fun d hd ed hcan => ?_⟩
    obtain ⟨i, k1, k2, k3⟩ := hq.2.2.2.1 d hd (xCan_1 hcan).1 ed
    refine hu c d q4 hd e3 (xCan_1 hcan).1 ?_
    rcases Nat.lt_trichotomy i j with q | q | q
    · exact absurd hcan (q7 i d k1 q k3 hd)
    · subst q
      obtain rfl : c = d := nI_inj (by omega) (by omega) (by rw [← q3, k3])
      exact Nat.le_refl _
    · exact Nat.le_of_lt (hq.2.2.2.2 j i c d q1 q k2 q4 hd q3 k3)
def pWy (ρ : Mem) (z a : Nat) : Nat := ix (ρ 15 z a)
theorem pR.wy (h : pR t ag hs B σ ρ) {z a : Nat} (hz : z < 6) (ha : a < 6) : ρ 15 z a = nI (pWy ρ z a) ∧ 1 ≤ pWy ρ z a ∧ pWy ρ z a ≤ 120 ∧ xWay σ (nI z) (nI a) = nI (pWy ρ z a) := by
  obtain ⟨n, h1, h2, e1, e2⟩ := h.way hz ha
  have e : pWy ρ z a = n := by unfold pWy; rw [e2]; exact ix_nI (by omega)
  rw [e]
  exact ⟨e2, h1, h2, e1⟩
theorem rChZ_p {o mi : Nat} : ∀ (r z : Nat) {c : Int32}, 0 ≤ c → rChZ ρ o mi r z c = c
  | 0, _, _, _ => rfl
  | r + 1, z, c, hc => by rw [rChZ, if_pos hc]
theorem rChM_p {o : Nat} : ∀ (r mi : Nat) {c : Int32}, 0 ≤ c → rChM ρ o r mi c = c
  | 0, _, _, _ => rfl
  | r + 1, mi, c, hc => by rw [rChM, if_pos hc]
theorem pR.chZ (h : pR t ag hs B σ ρ) (hB : B < 2 ^ 31) {o a mi : Nat} (ho : o < nO σ) (ha : a < 6) (ea : ρ 17 o 0 = nI a) (hmi : mi ≤ 120) : ∀ (r z : Nat), z + r = 6 →
    (rChZ ρ o mi r z (-1) = -1 ∧ ∀ z', z ≤ z' → z' < 6 → z' ≠ a → pWy ρ z' a = mi → pNC σ o z') ∨
    ∃ z' c, z ≤ z' ∧ z' < 6 ∧ z' ≠ a ∧ pWy ρ z' a = mi ∧ rChZ ρ o mi r z (-1) = nI c ∧ pBZ σ o z' c ∧ ∀ y, z ≤ y → y < z' → y ≠ a → pWy ρ y a = mi → pNC σ o y
  | 0, z, hz => Or.inl ⟨rfl, fun z' q1 q2 => by omega⟩
  | r + 1, z, hz => by
    have h10 := h.c10
    have hia : ix (nI a) = a := ix_nI (by omega)
    have hm : ¬ (0 : Int32) ≤ -1 := by decide
    have hskip : (z ≠ a → pWy ρ z a = mi → pNC σ o z) → rChZ ρ o mi (r + 1) z (-1) = rChZ ρ o mi r (z + 1) (-1) →
      ((rChZ ρ o mi (r + 1) z (-1) = -1 ∧ ∀ z', z ≤ z' → z' < 6 → z' ≠ a → pWy ρ z' a = mi → pNC σ o z') ∨
    ∃ z' c, z ≤ z' ∧ z' < 6 ∧ z' ≠ a ∧ pWy ρ z' a = mi ∧ rChZ ρ o mi (r + 1) z (-1) = nI c ∧ pBZ σ o z' c ∧ ∀ y, z ≤ y → y < z' → y ≠ a → pWy ρ y a = mi → pNC σ o y) := fun hn he => by
      rcases h.chZ hB ho ha ea hmi r (z + 1) (by omega) with ⟨q1, q2⟩ | ⟨z', c, q1, q2, q3, q4, q5, q6, q7⟩
      · refine Or.inl ⟨he.trans q1, fun y k1 k2 k3 k4 => ?_⟩
        by_cases e : y = z
        · subst e; exact hn k3 k4
        · exact q2 y (by omega) k2 k3 k4
      · refine Or.inr ⟨z', c, by omega, q2, q3, q4, he.trans q5, q6, fun y k1 k2 k3 k4 => ?_⟩
        by_cases e : y = z
        · subst e; exact hn k3 k4
        · exact q7 y (by omega) k2 k3 k4
    obtain ⟨ew, w1, w2, -⟩ := h.wy (z := z) (by omega) ha
    by_cases c1 : z = a
    · exact hskip (fun q => absurd c1 q) (by rw [rChZ, if_neg hm, ea, if_pos (by rw [c1])])
    · have c1' : ¬ nI z = nI a := fun q => c1 (nI_inj (by omega) (by omega) q)
      by_cases c2 : pWy ρ z a = mi
      · have e : rChZ ρ o mi (r + 1) z (-1) = rChZ ρ o mi r (z + 1) (rFi ρ o z) := by rw [rChZ, if_neg hm, ea, if_neg c1', hia, if_pos (by rw [ew, c2])]
        rcases h.fi hB ho (z := z) (by omega) with ⟨q1, q2⟩ | ⟨c, q1, q2⟩
        · exact hskip (fun _ _ => q2) (by rw [e, q1])
        · exact Or.inr ⟨z, c, Nat.le_refl _, by omega, c1, c2, by rw [e, q1]; exact rChZ_p r _ (nI_0le (by have := q2.1; omega)), q2, fun y k1 k2 => by omega⟩
      · exact hskip (fun _ q => absurd q c2) (by rw [rChZ, if_neg hm, ea, if_neg c1', hia, if_neg (fun q => c2 (nI_inj (by omega) (by omega) (by rw [← ew, q])))])
theorem pR.chM (h : pR t ag hs B σ ρ) (hB : B < 2 ^ 31) {o a : Nat} (ho : o < nO σ) (ha : a < 6) (ea : ρ 17 o 0 = nI a) : ∀ (r mi : Nat), mi + r = 121 → (∀ z, z < 6 → z ≠ a → pWy ρ z a < mi → pNC σ o z) →
    (rChM ρ o r mi (-1) = -1 ∧ ∀ z, z < 6 → z ≠ a → pNC σ o z) ∨
    ∃ z c, z < 6 ∧ z ≠ a ∧ rChM ρ o r mi (-1) = nI c ∧ pBZ σ o z c ∧ ∀ y, y < 6 → y ≠ a → (pWy ρ y a < pWy ρ z a ∨ (pWy ρ y a = pWy ρ z a ∧ y < z)) → pNC σ o y
  | 0, mi, hm, hn => Or.inl ⟨rfl, fun z hz hne => hn z hz hne (by have := (h.wy hz ha).2.2.1; omega)⟩
  | r + 1, mi, hm, hn => by
    have h10 := h.c10
    have hm1 : ¬ (0 : Int32) ≤ -1 := by decide
    rcases h.chZ hB ho ha ea (mi := mi) (by omega) 6 0 (by omega) with ⟨q1, q2⟩ | ⟨z, c, q1, q2, q3, q4, q5, q6, q7⟩
    · have e : rChM ρ o (r + 1) mi (-1) = rChM ρ o r (mi + 1) (-1) := by rw [rChM, if_neg hm1, q1]
      rw [e]
      refine h.chM hB ho ha ea r (mi + 1) (by omega) (fun z hz hne hw => ?_)
      by_cases ew : pWy ρ z a = mi
      · exact q2 z (Nat.zero_le _) hz hne ew
      · exact hn z hz hne (by omega)
    · refine Or.inr ⟨z, c, q2, q3, ?_, q6, fun y k1 k2 k3 => ?_⟩
      · rw [rChM, if_neg hm1, q5]
        exact rChM_p r _ (nI_0le (by have := q6.1; omega))
      · rcases k3 with k3 | ⟨k3, k4⟩
        · exact hn y k1 k2 (by omega)
        · exact q7 y (Nat.zero_le _) k4 k2 (by omega)
/-- a rank as a number -/
def pRk (ρ : Mem) (a z : Nat) : Nat := if z = a then 0 else pWy ρ z a * 6 + z
theorem pR.rk (h : pR t ag hs B σ ρ) {z a : Nat} (hz : z < 6) (ha : a < 6) : xRank σ (nI z) (nI a) = nI (pRk ρ a z) ∧ pRk ρ a z < 1000 := by
  obtain ⟨-, w1, w2, ew⟩ := h.wy hz ha
  unfold xRank pRk
  by_cases e : z = a
  · rw [if_pos (by rw [e]), if_pos e]
    exact ⟨rfl, by decide⟩
  · rw [if_neg (fun q => e (nI_inj (by omega) (by omega) q)), if_neg e, ew, show (6 : Int32) = nI 6 from rfl, pk_mul, nI_add]
    exact ⟨rfl, by omega⟩
/-- cab c is the one for order o -/
def pBest (σ ρ : Mem) (o a c : Nat) : Prop := c < nC σ ∧ xCan σ o c = true ∧ ∃ z, z < 6 ∧ σ 6 c 2 = nI z ∧ ∀ d y, d < nC σ → xCan σ o d = true → y < 6 → σ 6 d 2 = nI y → pRk ρ a z < pRk ρ a y ∨ (pRk ρ a z = pRk ρ a y ∧ σ 6 c 4 ≤ σ 6 d 4)
theorem pR.ch (h : pR t ag hs B σ ρ) (hB : B < 2 ^ 31) {o a : Nat} (ho : o < nO σ) (ha : a < 6) (ea : ρ 17 o 0 = nI a) : (rCh ρ o = -1 ∧ ∀ c, c < nC σ → ¬ xCan σ o c = true) ∨ ∃ c, rCh ρ o = nI c ∧ pBest σ ρ o a c := by
  have h10 := h.c10
  have hia : ix (ρ 17 o 0) = a := by rw [ea]; exact ix_nI (by omega)
  have hrk : ∀ z y, z < 6 → y < 6 → z ≠ a → y ≠ a → ¬ (pWy ρ y a < pWy ρ z a ∨ (pWy ρ y a = pWy ρ z a ∧ y < z)) → y ≠ z → pRk ρ a z < pRk ρ a y := fun z y hz hy n1 n2 hn hne => by
    unfold pRk
    rw [if_neg n1, if_neg n2]
    omega
  unfold rCh
  rw [hia]
  rcases h.fi hB ho (z := a) ha with ⟨q1, q2⟩ | ⟨c, q1, q2⟩
  · rw [q1]
    rcases h.chM hB ho ha ea 120 1 (by omega) (fun z hz hne hw => by have := (h.wy hz ha).2.1; omega) with ⟨k1, k2⟩ | ⟨z, c, k1, k2, k3, k4, k5⟩
    · refine Or.inl ⟨k1, fun c hc => ?_⟩
      obtain ⟨-, -, -, -, -, y, hy, ey⟩ := h.cab hc
      by_cases e : y = a
      · subst e; exact q2 c hc ey
      · exact k2 y hy e c hc ey
    · refine Or.inr ⟨c, k3, k4.1, k4.2.1, z, k1, k4.2.2.1, fun d y hd hcan hy ey => ?_⟩
      by_cases e : y = z
      · subst e
        exact Or.inr ⟨rfl, k4.2.2.2 d hd ey hcan⟩
      · left
        by_cases e2 : y = a
        · subst e2; exact absurd hcan (q2 d hd ey)
        · exact hrk z y k1 hy k2 e2 (fun q => k5 y hy e2 q d hd ey hcan) e
  · rw [q1, rChM_p _ _ (nI_0le (by have := q2.1; omega))]
    refine Or.inr ⟨c, rfl, q2.1, q2.2.1, a, ha, q2.2.2.1, fun d y hd hcan hy ey => ?_⟩
    by_cases e : y = a
    · subst e
      exact Or.inr ⟨rfl, q2.2.2.2 d hd ey hcan⟩
    · left
      have := (h.wy hy ha).2.1
      unfold pRk
      rw [if_pos rfl, if_neg e]
      omega
theorem pR.turn (h : pR t ag hs B σ ρ) (hB : B < 2 ^ 31) {c d : Nat} (hc : c < nC σ) (hd : d < nC σ) (h1 : σ 6 c 3 = 1) (h2 : σ 6 d 3 = 1) (e : σ 6 c 2 = σ 6 d 2) (e4 : σ 6 c 4 = σ 6 d 4) : c = d := by
  have h10 := h.c10
  obtain ⟨u, U, a1, a2, a3, a4⟩ := h.tq
  obtain ⟨-, -, -, -, -, z, hz, ez⟩ := h.cab hc
  have hq := a4 z hz
  obtain ⟨i, i1, i2, i3⟩ := hq.2.2.2.1 c hc h1 ez
  obtain ⟨j, j1, j2, j3⟩ := hq.2.2.2.1 d hd h2 (e ▸ ez)
  obtain ⟨k1, k2⟩ := a3 c hc h1
  obtain ⟨k3, k4⟩ := a3 d hd h2
  have eu : u c = u d := nI_inj (by omega) (by omega) (by rw [← k1, e4, k3])
  rcases Nat.lt_trichotomy i j with q | q | q
  · have := hq.2.2.2.2 i j c d i1 q j2 hc hd i3 j3; omega
  · subst q; exact nI_inj (by omega) (by omega) (by rw [← i3, j3])
  · have := hq.2.2.2.2 j i d c j1 q i2 hd hc j3 i3; omega
theorem pR.best1 (h : pR t ag hs B σ ρ) (hB : B < 2 ^ 31) {o a c d : Nat} (ha : a < 6) (hc : pBest σ ρ o a c) (hd : pBest σ ρ o a d) : c = d := by
  obtain ⟨c1, c2, z, hz, ez, c3⟩ := hc
  obtain ⟨d1, d2, y, hy, ey, d3⟩ := hd
  have k1 := c3 d y d1 d2 hy ey
  have k2 := d3 c z c1 c2 hz ez
  have er : pRk ρ a z = pRk ρ a y := by rcases k1 with q | q <;> rcases k2 with q' | q' <;> omega
  have ezy : z = y := by
    have w1 := (h.wy hz ha).2.1
    have w2 := (h.wy hy ha).2.1
    unfold pRk at er
    by_cases e1 : z = a
    · by_cases e2 : y = a
      · rw [e1, e2]
      · rw [if_pos e1, if_neg e2] at er; omega
    · by_cases e2 : y = a
      · rw [if_neg e1, if_pos e2] at er; omega
      · rw [if_neg e1, if_neg e2] at er; omega
  refine h.turn hB c1 d1 (xCan_1 c2).1 (xCan_1 d2).1 (by rw [ez, ey, ezy]) ?_
  rcases k1 with q | q
  · omega
  · rcases k2 with q' | q'
    · omega
    · exact Int32.le_antisymm q.2 q'.2
theorem pR.xcf (h : pR t ag hs B σ ρ) {o a : Nat} (ha : a < 6) (ea : σ 7 o 1 = nI a) : (xCabFor σ o = -1 ∧ ∀ c, c < nC σ → ¬ xCan σ o c = true) ∨ ∃ c, xCabFor σ o = nI c ∧ pBest σ ρ o a c := by
  have h10 := h.c10
  have hrk : ∀ c y, c < nC σ → y < 6 → σ 6 c 2 = nI y → xRank σ (σ 6 c 2) (σ 7 o 1) = nI (pRk ρ a y) ∧ pRk ρ a y < 1000 := fun c y hc hy ey => by rw [ey, ea]; exact h.rk hy ha
  have go : ∀ (r k : Nat) (best rk : Int32), k + r = nC σ →
      ((best = -1 ∧ ∀ c, c < k → ¬ xCan σ o c = true) ∨ ∃ b z, b < k ∧ best = nI b ∧ z < 6 ∧ σ 6 b 2 = nI z ∧ rk = nI (pRk ρ a z) ∧ xCan σ o b = true ∧ ∀ d y, d < k → xCan σ o d = true → y < 6 → σ 6 d 2 = nI y → pRk ρ a z < pRk ρ a y ∨ (pRk ρ a z = pRk ρ a y ∧ σ 6 b 4 ≤ σ 6 d 4)) →
      (xCfGo σ o r k best rk = -1 ∧ ∀ c, c < nC σ → ¬ xCan σ o c = true) ∨ ∃ c, xCfGo σ o r k best rk = nI c ∧ pBest σ ρ o a c := by
    intro r
    induction r with
    | zero =>
      intro k best rk hk hb
      obtain rfl : k = nC σ := by omega
      rcases hb with ⟨q1, q2⟩ | ⟨b, z, q1, q2, q3, q4, q5, q6, q7⟩
      · exact Or.inl ⟨q1, q2⟩
      · exact Or.inr ⟨b, q2, q1, q6, z, q3, q4, fun d y hd hcan hy ey => q7 d y hd hcan hy ey⟩
    | succ r ih =>
      intro k best rk hk hb
      have hkc : k < nC σ := by omega
      obtain ⟨-, -, -, -, -, y, hy, ey⟩ := h.cab hkc
      obtain ⟨er, hr⟩ := hrk k y hkc hy ey
      simp only [xCfGo]
      rw [er]
      by_cases c1 : xCan σ o k = true
      · rw [if_pos c1]
        -- k is taken
        have htake : (∀ d x, d < k → xCan σ o d = true → x < 6 → σ 6 d 2 = nI x → pRk ρ a y < pRk ρ a x ∨ (pRk ρ a y = pRk ρ a x ∧ σ 6 k 4 ≤ σ 6 d 4)) → (xCfGo σ o r (k + 1) (nI k) (nI (pRk ρ a y)) = -1 ∧ ∀ c, c < nC σ → ¬ xCan σ o c = true) ∨ ∃ c, xCfGo σ o r (k + 1) (nI k) (nI (pRk ρ a y)) = nI c ∧ pBest σ ρ o a c := fun hd => by
          refine ih (k + 1) (nI k) (nI (pRk ρ a y)) (by omega) (Or.inr ⟨k, y, by omega, rfl, hy, ey, rfl, c1, fun d x h1 h2 h3 h4 => ?_⟩)
          by_cases e : d = k
          · subst e
            obtain rfl : y = x := nI_inj (by omega) (by omega) (by rw [← ey, h4])
            exact Or.inr ⟨rfl, Int32.le_refl _⟩
          · exact hd d x (by omega) h2 h3 h4
        rcases hb with ⟨q1, q2⟩ | ⟨b, z, q1, q2, q3, q4, q5, q6, q7⟩
        · rw [if_pos q1]
          exact htake (fun d x h1 h2 => absurd h2 (q2 d h1))
        · have hbk : ¬ best = -1 := by rw [q2]; exact nI_nm (by omega)
          have hix : ix best = b := by rw [q2]; exact ix_nI (by omega)
          obtain ⟨-, hrz⟩ := hrk b z (by omega) q3 q4
          have hkeep : (pRk ρ a z < pRk ρ a y ∨ (pRk ρ a z = pRk ρ a y ∧ σ 6 b 4 ≤ σ 6 k 4)) → (xCfGo σ o r (k + 1) best rk = -1 ∧ ∀ c, c < nC σ → ¬ xCan σ o c = true) ∨ ∃ c, xCfGo σ o r (k + 1) best rk = nI c ∧ pBest σ ρ o a c := fun hle => by
            refine ih (k + 1) best rk (by omega) (Or.inr ⟨b, z, by omega, q2, q3, q4, q5, q6, fun d x h1 h2 h3 h4 => ?_⟩)
            by_cases e : d = k
            · subst e
              obtain rfl : y = x := nI_inj (by omega) (by omega) (by rw [← ey, h4])
              exact hle
            · exact q7 d x (by omega) h2 h3 h4
          rw [if_neg hbk, hix, q5]
          by_cases c3 : pRk ρ a y < pRk ρ a z
          · rw [if_pos (nI_lt c3 (by omega))]
            exact htake (fun d x h1 h2 h3 h4 => by rcases q7 d x h1 h2 h3 h4 with q | q <;> left <;> omega)
          · rw [if_neg (nI_nlt (by omega) (by omega))]
            by_cases c4 : pRk ρ a y = pRk ρ a z
            · rw [if_pos (by rw [c4])]
              by_cases c5 : σ 6 b 4 ≤ σ 6 k 4
              · rw [if_pos c5, ← q5]; exact hkeep (Or.inr ⟨c4.symm, c5⟩)
              · rw [if_neg c5]
                refine htake (fun d x h1 h2 h3 h4 => ?_)
                rcases q7 d x h1 h2 h3 h4 with q | q
                · left; omega
                · exact Or.inr ⟨c4.trans q.1, Int32.le_trans (Int32.le_of_lt (Int32.not_le.mp c5)) q.2⟩
            · rw [if_neg (fun q => c4 (nI_inj (by omega) (by omega) q)), ← q5]
              exact hkeep (Or.inl (by omega))
      · rw [if_neg c1]
        refine ih (k + 1) best rk (by omega) ?_
        rcases hb with ⟨q1, q2⟩ | ⟨b, z, q1, q2, q3, q4, q5, q6, q7⟩
        · exact Or.inl ⟨q1, fun c hc => by
            by_cases e : c = k
            · subst e; exact c1
            · exact q2 c (by omega)⟩
        · exact Or.inr ⟨b, z, by omega, q2, q3, q4, q5, q6, fun d x h1 h2 h3 h4 => by
            by_cases e : d = k
            · subst e; exact absurd h2 c1
            · exact q7 d x (by omega) h2 h3 h4⟩
  exact go (nC σ) 0 (-1) 0 (by omega) (Or.inl ⟨rfl, fun c hc => absurd hc (Nat.not_lt_zero _)⟩)
/-- the same cab -/
theorem pR.cf (h : pR t ag hs B σ ρ) (hB : B < 2 ^ 31) {o : Nat} (ho : o < nO σ) : rCh ρ o = xCabFor σ o ∧ ((xCabFor σ o = -1 ∧ ∀ c, c < nC σ → ¬ xCan σ o c = true) ∨ ∃ c, xCabFor σ o = nI c ∧ c < nC σ ∧ xCan σ o c = true) := by
  have h10 := h.c10
  obtain ⟨⟨-, f1, -⟩, ⟨a, ha, ea⟩, -⟩ := h.ord ho
  have ea2 : ρ 17 o 0 = nI a := by rw [← f1, ea]
  rcases h.ch hB ho ha ea2 with ⟨q1, q2⟩ | ⟨c, q1, q2⟩
  · rcases h.xcf ha ea with ⟨k1, k2⟩ | ⟨d, k1, k2⟩
    · exact ⟨by rw [q1, k1], Or.inl ⟨k1, k2⟩⟩
    · exact absurd k2.2.1 (q2 d k2.1)
  · rcases h.xcf ha ea with ⟨k1, k2⟩ | ⟨d, k1, k2⟩
    · exact absurd q2.2.1 (k2 c q2.1)
    · obtain rfl := h.best1 hB ha q2 k2
      exact ⟨by rw [q1, k1], Or.inr ⟨c, k1, q2.1, q2.2.1⟩⟩
end CAN
