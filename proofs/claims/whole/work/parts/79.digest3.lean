/-- how many below n are in P with a turn before x -/
def qcnt (P : Nat → Bool) (u : Nat → Nat) (x : Nat) : Nat → Nat
  | 0 => 0
  | n + 1 => if P n = true ∧ u n < x then qcnt P u x n + 1 else qcnt P u x n
section QCNT
variable {P : Nat → Bool} {u : Nat → Nat}
theorem qcnt_no {x : Nat} : ∀ n, (∀ j, j < n → P j = true → u j ≠ x) → qcnt P u (x + 1) n = qcnt P u x n
  | 0, _ => rfl
  | n + 1, h => by
    have ih := qcnt_no n (fun j hj => h j (by omega))
    have hn := h n (by omega)
    simp only [qcnt]
    by_cases c : P n = true
    · have hc := hn c
      by_cases d : u n < x
      · rw [if_pos ⟨c, by omega⟩, if_pos ⟨c, d⟩, ih]
      · rw [if_neg (fun z => by have := z.2; omega), if_neg (fun z => d z.2), ih]
    · rw [if_neg (fun z => c z.1), if_neg (fun z => c z.1), ih]
theorem qcnt_1 {x : Nat} : ∀ n, (∀ i j, i < n → j < n → P i = true → P j = true → u i = u j → i = j) → qcnt P u (x + 1) n ≤ qcnt P u x n + 1
  | 0, _ => by simp [qcnt]
  | n + 1, h => by
    by_cases c : P n = true ∧ u n = x
    · have e := qcnt_no (P := P) (u := u) (x := x) n (fun j hj pj ej => by
        have := h j n (by omega) (by omega) pj c.1 (by rw [ej, c.2])
        omega)
      simp only [qcnt]
      rw [if_pos ⟨c.1, by have := c.2; omega⟩, if_neg (fun z => by have := z.2; have := c.2; omega), e]
      exact Nat.le_refl _
    · have ih := qcnt_1 (x := x) n (fun i j hi hj => h i j (by omega) (by omega))
      simp only [qcnt]
      by_cases d : P n = true ∧ u n < x
      · rw [if_pos ⟨d.1, by have := d.2; omega⟩, if_pos d]
        omega
      · rw [if_neg (fun z => by
          rcases Nat.lt_or_ge (u n) x with q | q
          · exact d ⟨z.1, q⟩
          · exact c ⟨z.1, by have := z.2; omega⟩), if_neg d]
        exact ih
theorem qcnt_0 : ∀ n, qcnt P u 0 n = 0
  | 0 => rfl
  | n + 1 => by
    simp only [qcnt]
    rw [if_neg (fun z => by have := z.2; omega), qcnt_0 n]
theorem qcnt_le {x : Nat} : ∀ n, qcnt P u x n ≤ n
  | 0 => Nat.le_refl _
  | n + 1 => by
    have ih := qcnt_le (x := x) n
    simp only [qcnt]
    split <;> omega
theorem qcnt_b {x k : Nat} (hx : ¬ u k < x) : ∀ n, k < n → qcnt P u x n < n
  | 0, h => by omega
  | n + 1, h => by
    by_cases e : k = n
    · subst e
      have := qcnt_le (P := P) (u := u) (x := x) k
      simp only [qcnt]
      rw [if_neg (fun z => hx z.2)]
      omega
    · have ih := qcnt_b hx n (by omega)
      simp only [qcnt]
      split <;> omega
theorem qcnt_s {N : Nat} (hi : ∀ i j, i < N → j < N → P i = true → P j = true → u i = u j → i = j) : ∀ (x q : Nat), q < qcnt P u x N → ∃ j, j < N ∧ P j = true ∧ qcnt P u (u j) N = q
  | 0, q, h => by rw [qcnt_0] at h; omega
  | x + 1, q, h => by
    by_cases e : ∃ j, j < N ∧ P j = true ∧ u j = x
    · obtain ⟨j, hj, pj, ej⟩ := e
      have h1 := qcnt_1 (x := x) N hi
      by_cases c : q < qcnt P u x N
      · exact qcnt_s hi x q c
      · exact ⟨j, hj, pj, by rw [ej]; omega⟩
    · rw [qcnt_no N (fun j hj pj ej => e ⟨j, hj, pj, ej⟩)] at h
      exact qcnt_s hi x q h
end QCNT
section DIG3
variable {B : Nat} {σ μ : Mem} {g : gG}
theorem xInQ_iff {k : Nat} {z : Int32} : xInQ σ k z = true ↔ σ 6 k 3 = 1 ∧ σ 6 k 2 = z := by
  unfold xInQ
  by_cases a : σ 6 k 3 = 1
  · by_cases b : σ 6 k 2 = z
    · simp [a, b]
    · simp [a, b]
  · simp [a]
theorem rlR.plN (h : rlR B σ μ) (hB : B < 2 ^ 31) : ∃ u : Nat → Nat, (∀ c d, c < nC σ → d < nC σ → σ 6 c 3 = 1 → σ 6 d 3 = 1 → u c = u d → c = d) ∧ ∀ c, c < nC σ → σ 6 c 3 = 1 → xPlace σ c = nI (qcnt (fun j => xInQ σ j (σ 6 c 2)) u (u c) (nC σ)) := by
  obtain ⟨u, v, U, V, -, -, hU, hV, ht, ho⟩ := h.2.2.2.1
  refine ⟨u, fun c d hc hd h1 h2 e => Decidable.byContradiction (fun ne => (ho c d hc hd h1 h2 ne).1 e), fun c hc h1 => ?_⟩
  unfold xPlace
  rw [if_pos h1]
  have go : ∀ r k, k + r = nC σ → xPlGo σ c r k (nI (qcnt (fun j => xInQ σ j (σ 6 c 2)) u (u c) k)) = nI (qcnt (fun j => xInQ σ j (σ 6 c 2)) u (u c) (k + r)) := by
    intro r
    induction r with
    | zero => intro k _; rfl
    | succ r ih =>
      intro k hk
      have ih' := ih (k + 1) (by omega)
      have e0 : k + (r + 1) = k + 1 + r := by omega
      rw [e0, ← ih']
      simp only [xPlGo, qcnt]
      by_cases h2 : xInQ σ k (σ 6 c 2) = true
      · have k3 := (xInQ_iff.mp h2).1
        have e : (σ 6 c 4 ≤ σ 6 k 4) ↔ ¬ (u k < u c) := by
          obtain ⟨a1, a2, -, -⟩ := ht c hc h1
          obtain ⟨b1, b2, -, -⟩ := ht k (by omega) k3
          rw [a1, b1, nI_leI (by omega) (by omega)]
          omega
        by_cases h3 : σ 6 c 4 ≤ σ 6 k 4
        · rw [if_pos h2, if_pos h3, if_neg (fun z => e.mp h3 z.2)]
        · rw [if_pos h2, if_neg h3, if_pos ⟨h2, Decidable.not_not.mp (fun z => h3 (e.mpr z))⟩, nI_1]
      · rw [if_neg h2, if_neg (fun z => h2 z.1)]
  have k := go (nC σ) 0 (by omega)
  rw [Nat.zero_add] at k
  exact k
theorem xCi_or {z p : Int32} : ∀ r k, (xCiGo σ z p r k = -1 ∧ ∀ j, k ≤ j → j < k + r → xInQ σ j z = true → ¬ xPlace σ j = p) ∨ ∃ j, k ≤ j ∧ j < k + r ∧ xInQ σ j z = true ∧ xPlace σ j = p ∧ xCiGo σ z p r k = nI j
  | 0, k => Or.inl ⟨rfl, fun j h1 h2 => by omega⟩
  | r + 1, k => by
    simp only [xCiGo]
    by_cases a : xInQ σ k z = true
    · by_cases b : xPlace σ k = p
      · rw [if_pos a, if_pos b]
        exact Or.inr ⟨k, Nat.le_refl _, by omega, a, b, rfl⟩
      · rw [if_pos a, if_neg b]
        rcases xCi_or (z := z) (p := p) r (k + 1) with ⟨e, q⟩ | ⟨j, h1, h2, h3, h4, h5⟩
        · refine Or.inl ⟨e, fun j h1 h2 h3 => ?_⟩
          by_cases ej : j = k
          · rw [ej]; exact b
          · exact q j (by omega) (by omega) h3
        · exact Or.inr ⟨j, by omega, by omega, h3, h4, h5⟩
    · rw [if_neg a]
      rcases xCi_or (z := z) (p := p) r (k + 1) with ⟨e, q⟩ | ⟨j, h1, h2, h3, h4, h5⟩
      · refine Or.inl ⟨e, fun j h1 h2 h3 => ?_⟩
        by_cases ej : j = k
        · rw [ej] at h3; exact absurd h3 a
        · exact q j (by omega) (by omega) h3
      · exact Or.inr ⟨j, by omega, by omega, h3, h4, h5⟩
/-- the places of a queue have no gap -/
theorem rlR.gap (h : rlR B σ μ) (hB : B < 2 ^ 31) {z : Int32} {p q : Nat} (hpq : p ≤ q) (hq : q < 2 ^ 31) (e : xCiq σ z (nI p) = -1) : xCiq σ z (nI q) = -1 := by
  have h10 := h.c10
  by_cases epq : p = q
  · rw [← epq]; exact e
  unfold xCiq at e ⊢
  rcases xCi_or (σ := σ) (z := z) (p := nI q) (nC σ) 0 with ⟨e1, -⟩ | ⟨j, -, hj, hin, hpl, -⟩
  · exact e1
  · exfalso
    obtain ⟨u, hi, hu⟩ := h.plN hB
    obtain ⟨j3, j2⟩ := xInQ_iff.mp hin
    have hjn : j < nC σ := by omega
    rw [hu j hjn j3, j2] at hpl
    have hb := qcnt_le (P := fun i => xInQ σ i z) (u := u) (x := u j) (nC σ)
    have hq2 := nI_inj (by omega) hq hpl
    obtain ⟨i, hin2, pi, ei⟩ := qcnt_s (P := fun i => xInQ σ i z) (u := u) (N := nC σ) (fun a b ha hb pa pb => hi a b ha hb (xInQ_iff.mp pa).1 (xInQ_iff.mp pb).1) (u j) p (by omega)
    obtain ⟨i3, i2⟩ := xInQ_iff.mp pi
    have hpi := hu i hin2 i3
    rw [i2, ei] at hpi
    rcases xCi_or (σ := σ) (z := z) (p := nI p) (nC σ) 0 with ⟨-, e2⟩ | ⟨j', -, hj', -, -, e2⟩
    · exact e2 i (Nat.zero_le _) (by omega) pi hpi
    · rw [e] at e2
      exact nI_nm (by omega) e2.symm
theorem rlR.noN (h : rlR B σ μ) (hB : B < 2 ^ 31) {z : Int32} : xCiq σ z (nI (nC σ)) = -1 := by
  have h10 := h.c10
  unfold xCiq
  rcases xCi_or (σ := σ) (z := z) (p := nI (nC σ)) (nC σ) 0 with ⟨e1, -⟩ | ⟨j, -, hj, hin, hpl, -⟩
  · exact e1
  · exfalso
    obtain ⟨u, hi, hu⟩ := h.plN hB
    obtain ⟨j3, j2⟩ := xInQ_iff.mp hin
    have hjn : j < nC σ := by omega
    rw [hu j hjn j3, j2] at hpl
    have hb := qcnt_b (P := fun i => xInQ σ i z) (u := u) (x := u j) (k := j) (Nat.lt_irrefl _) (nC σ) hjn
    have := nI_inj (by omega) (by omega) hpl
    omega
theorem xMq_no {z : Int32} : ∀ (r k : Nat) (d : Int64), (∀ q, k ≤ q → q < k + r → xCiq σ z (nI q) = -1) → xMqGo σ z r k d = d
  | 0, _, _, _ => rfl
  | r + 1, k, d, h => by
    simp only [xMqGo]
    rw [if_pos (h k (Nat.le_refl _) (by omega))]
    exact xMq_no r (k + 1) d (fun q h1 h2 => h q (by omega) (by omega))
theorem rlR.mqu (h : rlR B σ μ) (hB : B < 2 ^ 31) {z : Int32} : ∀ (r r' k : Nat) (d : Int64), k + r = nC σ → r < r' → mQuGo μ z r' k d = xMqGo σ z r k d
  | 0, r' + 1, k, d, hk, _ => by
    have h10 := h.c10
    have e := h.noN hB (z := z)
    have ek : k = nC σ := by omega
    have e2 : mQd μ z (nI k) = -1 := by rw [← h.ciq hB (nI_nm (by omega)), ek]; exact e
    simp only [mQuGo, xMqGo]
    rw [if_pos e2]
  | r + 1, r' + 1, k, d, hk, hr => by
    have h10 := h.c10
    have e := h.ciq hB (z := z) (p := nI k) (nI_nm (by omega))
    simp only [mQuGo, xMqGo]
    rw [← e]
    by_cases c : xCiq σ z (nI k) = -1
    · rw [if_pos c, if_pos c]
      exact (xMq_no r (k + 1) d (fun q h1 h2 => h.gap hB (p := k) (by omega) (by omega) c)).symm
    · rw [if_neg c, if_neg c]
      exact h.mqu hB r r' (k + 1) _ (by omega) (by omega)
  | 0, 0, _, _, _, hr => by omega
  | _ + 1, 0, _, _, _, hr => by omega
theorem rlR.dig (h : rlR B σ μ) (hB : B < 2 ^ 31) (hM : Mok g μ) (hk : ∀ o, o < nO σ → σ 7 o 6 = -1 ∨ ∃ j, j < nC σ ∧ σ 7 o 6 = nI j) : xDigest σ = mDig μ := by
  have h10 := h.c10
  have cdet : ∀ c, c < nC σ → ∀ d, xMc σ d c = mDc μ c d := by
    intro c hc d
    obtain ⟨-, -, -, -, -, k7, k8, -⟩ := h.cab hc
    have go : ∀ (r q : Nat) (d : Int64), xMcGo σ c r q d = mD1i μ c r q d := by
      intro r
      induction r with
      | zero => intro q d; rfl
      | succ r ih =>
        intro q d
        simp only [xMcGo, mD1i]
        rw [h.cabDet hB hc, ih]
        rfl
    unfold xMc mDc
    rw [go, k7, k8]
    rfl
  have odet : ∀ o, o < nO σ → ∀ d, xMord σ d o = mDo μ o d := by
    intro o ho d
    have go : ∀ (r q : Nat) (d : Int64), q + r ≤ 5 → xMoGo2 σ o r q d = mD2i μ o r q d := by
      intro r
      induction r with
      | zero => intro q d _; rfl
      | succ r ih =>
        intro q d hq
        simp only [xMoGo2, mD2i]
        rw [h.ordDet ho (hk o ho) q (by omega), ih _ _ (by omega)]
        rfl
    have e4 : mFare μ o 4 = mSum μ o := if_pos (by decide)
    unfold xMord mDo
    rw [go 5 0 d (by omega), h.whole ho, e4]
    rfl
  have d1 : ∀ (r k : Nat) (d : Int64), k + r = nC σ → xD1 σ r k d = mD1 μ r k d := by
    intro r
    induction r with
    | zero => intro k d _; rfl
    | succ r ih =>
      intro k d hk2
      simp only [xD1, mD1]
      rw [cdet k (by omega), ih _ _ (by omega)]
  have d2 : ∀ (r k : Nat) (d : Int64), k + r = nO σ → xD2 σ r k d = mD2 μ r k d := by
    intro r
    induction r with
    | zero => intro k d _; rfl
    | succ r ih =>
      intro k d hk2
      simp only [xD2, mD2]
      rw [odet k (by omega), ih _ _ (by omega)]
  have d3 : ∀ (r k : Nat) (d : Int64), xD3 σ r k d = mD3 μ r k d := by
    intro r
    induction r with
    | zero => intro k d; rfl
    | succ r ih =>
      intro k d
      simp only [xD3, mD3]
      rw [h.mqu hB (nC σ) 12 0 d (by omega) (by omega), ih]
      rfl
  have ea : xDa σ = mDa μ := by
    unfold xDa mDa xMix
    rw [d1 _ _ _ (by omega), ← h.ec, ← h.now, hM.eC, ← h.ec]
    rfl
  unfold xDigest mDig
  rw [d3]
  congr 1
  unfold xDb mDb
  rw [d2 _ _ _ (by omega), ea, ← h.eo, hM.eO, ← h.eo]
  rfl
end DIG3
