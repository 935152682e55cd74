/-! the class's memory and the Rank's, side by side -/
def xMx (a b : Int32) : Int32 := if a < b then b else a
def oSt (x : Int32) : Prop := x = 3 ∨ x = 4 ∨ x = 5
def pA (t : Nat) (σ ρ : Mem) : Prop := (σ 2 0 2 = nI (nC σ) ∧ σ 3 0 2 = nI (nO σ) ∧ nC σ ≤ 10 ∧ nO σ ≤ 60) ∧ (ρ 8 0 6 = nI (nC σ) ∧ ρ 8 0 7 = nI (nO σ) ∧ ∀ o f, nO σ ≤ o → ρ 19 o f = 0) ∧ (σ 0 0 3 = nI t ∧ ρ 8 0 8 = nI t ∧ t ≤ 9999) ∧
  (∀ a b, a < 6 → b < 6 → ∃ n, 1 ≤ n ∧ n ≤ 120 ∧ σ 1 0 (6 * a + b) = nI n ∧ ρ 15 a b = nI n)
def pCr (σ ρ : Mem) (c : Nat) : Prop := σ 6 c 0 = nI c ∧ σ 6 c 1 = ρ 16 c 0 ∧ σ 6 c 2 = ρ 16 c 1 ∧ σ 6 c 3 = ρ 16 c 2 ∧ σ 6 c 6 = ρ 16 c 3 ∧ inN 6 (σ 6 c 2)
def pOe (σ ρ : Mem) (o : Nat) : Prop := (σ 7 o 0 = nI o ∧ σ 7 o 1 = ρ 17 o 0 ∧ σ 7 o 2 = ρ 17 o 1 ∧ σ 7 o 3 = ρ 17 o 2 ∧ σ 7 o 4 = ρ 17 o 3 ∧ σ 7 o 5 = ρ 17 o 4 ∧ σ 7 o 6 = ρ 17 o 5) ∧ inN 6 (σ 7 o 1) ∧ inN 6 (σ 7 o 2)
def pOb (n : Nat) (h : Nat × Bool) (σ ρ : Mem) (o : Nat) : Prop := (∃ x, σ 7 o 8 = nI x ∧ x < 2 ^ n ∧ x ||| h.1 = x) ∧ (∀ c, c < 10 → (σ 7 o 8 &&& ((1 : Int32) <<< (nI c &&& 31)) = 0 ↔ ρ 19 o c = 0)) ∧ (h.2 = true → oSt (σ 7 o 5))
def pOt (t : Nat) (σ : Mem) (o : Nat) : Prop := ∃ d, d ≤ 9999 ∧ σ 7 o 4 = nI d ∧ (σ 7 o 9 = -1 ∨ ∃ b, σ 7 o 9 = nI b ∧ d ≤ b ∧ b ≤ t) ∧ (σ 7 o 5 = 4 → ∃ b e, σ 7 o 9 = nI b ∧ σ 7 o 10 = nI e ∧ b < e ∧ e ≤ t)
/-- a cab and its order -/
def pLk (t ag : Nat) (σ ρ : Mem) (c o : Nat) : Prop := σ 7 o 6 = nI c ∧ σ 7 o 5 = σ 6 c 3 ∧
  ((σ 6 c 3 = 1 ∧ ∃ a d, σ 7 o 7 = nI a ∧ a ≤ t ∧ t ≤ a + ag ∧ ρ 16 c 4 = nI a ∧ σ 7 o 4 = nI d ∧ d ≤ t + 15 ∧ ¬ σ 6 c 1 < σ 7 o 3 ∧ ρ 19 o c = 0) ∨
   (σ 6 c 3 = 2 ∧ σ 6 c 5 = xMx (ρ 16 c 4) (σ 7 o 4) ∧ ∃ r, r ≤ 20000 ∧ ρ 16 c 4 = nI r) ∨
   (σ 6 c 3 = 3 ∧ σ 6 c 5 = ρ 16 c 4 ∧ ∃ b e, σ 7 o 9 = nI b ∧ σ 6 c 5 = nI e ∧ b < e ∧ e ≤ 20000))
def pL1 (t : Nat) (ag : Nat → Nat) (σ ρ : Mem) (c : Nat) : Prop := ((σ 6 c 3 = 0 ∨ σ 6 c 3 = 1) ∧ σ 6 c 6 = -1) ∨ ∃ o, o < nO σ ∧ σ 6 c 6 = nI o ∧ pLk t (ag c) σ ρ c o
def pL2 (σ : Mem) (o : Nat) : Prop := (σ 7 o 5 = 0 ∧ σ 7 o 6 = -1) ∨ (∃ c, c < nC σ ∧ σ 6 c 6 = nI o ∧ σ 7 o 6 = nI c) ∨ σ 7 o 5 = 4 ∨ σ 7 o 5 = 5
/-- a zone's queue -/
def pQ (u : Nat → Nat) (σ ρ : Mem) (z : Nat) : Prop := ρ 18 z 0 = nI (rQn ρ z) ∧ rQn ρ z ≤ 10 ∧
  (∀ j, 1 ≤ j → j ≤ rQn ρ z → ∃ c, ρ 18 z j = nI c ∧ c < nC σ ∧ σ 6 c 3 = 1 ∧ σ 6 c 2 = nI z) ∧
  (∀ c, c < nC σ → σ 6 c 3 = 1 → σ 6 c 2 = nI z → ∃ j, 1 ≤ j ∧ j ≤ rQn ρ z ∧ ρ 18 z j = nI c) ∧
  (∀ i j a b, 1 ≤ i → i < j → j ≤ rQn ρ z → a < nC σ → b < nC σ → ρ 18 z i = nI a → ρ 18 z j = nI b → u a < u b)
def pT (B : Nat) (σ ρ : Mem) : Prop := ∃ (u : Nat → Nat) (U : Nat), σ 0 0 6 = nI U ∧ U ≤ B ∧ (∀ c, c < nC σ → σ 6 c 3 = 1 → σ 6 c 4 = nI (u c) ∧ u c < U) ∧ ∀ z, z < 6 → pQ u σ ρ z
def pR (t : Nat) (ag : Nat → Nat) (hs : Nat → Nat × Bool) (B : Nat) (σ ρ : Mem) : Prop := pA t σ ρ ∧ (∀ c, c < nC σ → pCr σ ρ c) ∧ (∀ o, o < nO σ → pOe σ ρ o ∧ pOb (nC σ) (hs o) σ ρ o ∧ pOt t σ o) ∧ ((∀ c, c < nC σ → pL1 t ag σ ρ c) ∧ ∀ o, o < nO σ → pL2 σ o) ∧ pT B σ ρ
section PR
variable {t : Nat} {ag : Nat → Nat} {hs : Nat → Nat × Bool} {B : Nat} {σ ρ : Mem}
theorem pR.c10 (h : pR t ag hs B σ ρ) : nC σ ≤ 10 := h.1.1.2.2.1
theorem pR.o60 (h : pR t ag hs B σ ρ) : nO σ ≤ 60 := h.1.1.2.2.2
theorem pR.now (h : pR t ag hs B σ ρ) : σ 0 0 3 = nI t := h.1.2.2.1.1
theorem pR.rnow (h : pR t ag hs B σ ρ) : ρ 8 0 8 = nI t := h.1.2.2.1.2.1
theorem pR.t9 (h : pR t ag hs B σ ρ) : t ≤ 9999 := h.1.2.2.1.2.2
theorem pR.cab (h : pR t ag hs B σ ρ) {c : Nat} (hc : c < nC σ) : pCr σ ρ c := h.2.1 c hc
theorem pR.ord (h : pR t ag hs B σ ρ) {o : Nat} (ho : o < nO σ) : pOe σ ρ o := (h.2.2.1 o ho).1
theorem pR.bit (h : pR t ag hs B σ ρ) {o : Nat} (ho : o < nO σ) : pOb (nC σ) (hs o) σ ρ o := (h.2.2.1 o ho).2.1
theorem pR.tim (h : pR t ag hs B σ ρ) {o : Nat} (ho : o < nO σ) : pOt t σ o := (h.2.2.1 o ho).2.2
theorem pR.l1 (h : pR t ag hs B σ ρ) {c : Nat} (hc : c < nC σ) : pL1 t ag σ ρ c := h.2.2.2.1.1 c hc
theorem pR.l2 (h : pR t ag hs B σ ρ) {o : Nat} (ho : o < nO σ) : pL2 σ o := h.2.2.2.1.2 o ho
theorem pR.tq (h : pR t ag hs B σ ρ) : pT B σ ρ := h.2.2.2.2
/-- the order of a cab -/
theorem pR.lc (h : pR t ag hs B σ ρ) {c o : Nat} (hc : c < nC σ) (ho : o < 2 ^ 31) (e : σ 6 c 6 = nI o) : o < nO σ ∧ pLk t (ag c) σ ρ c o := by
  have h60 := h.o60
  rcases h.l1 hc with ⟨-, q⟩ | ⟨o', ho', e', r⟩
  · rw [e] at q; exact absurd q (nI_nm ho)
  · obtain rfl : o = o' := nI_inj ho (by omega) (by rw [← e, e'])
    exact ⟨ho', r⟩
theorem pR.of6 (h : pR t ag hs B σ ρ) {c : Nat} (hc : c < nC σ) (h6 : ¬ σ 6 c 6 = -1) : ∃ o, o < nO σ ∧ σ 6 c 6 = nI o ∧ ix (σ 6 c 6) = o ∧ pLk t (ag c) σ ρ c o := by
  have h60 := h.o60
  rcases h.l1 hc with ⟨-, q⟩ | ⟨o, ho, e, r⟩
  · exact absurd q h6
  · exact ⟨o, ho, e, by rw [e, ix_nI (by omega)], r⟩
theorem pR.idle (h : pR t ag hs B σ ρ) {c : Nat} (hc : c < nC σ) (h6 : σ 6 c 6 = -1) : σ 6 c 3 = 0 ∨ σ 6 c 3 = 1 := by
  have h60 := h.o60
  rcases h.l1 hc with ⟨q, -⟩ | ⟨o, ho, e, -⟩
  · exact q
  · rw [h6] at e; exact absurd e.symm (nI_nm (by omega))
theorem pR.state (h : pR t ag hs B σ ρ) {c : Nat} (hc : c < nC σ) : σ 6 c 3 = 0 ∨ σ 6 c 3 = 1 ∨ σ 6 c 3 = 2 ∨ σ 6 c 3 = 3 := by
  rcases h.l1 hc with ⟨q | q, -⟩ | ⟨o, ho, e, -, -, ⟨q, -⟩ | ⟨q, -⟩ | ⟨q, -⟩⟩
  · exact Or.inl q
  · exact Or.inr (Or.inl q)
  · exact Or.inr (Or.inl q)
  · exact Or.inr (Or.inr (Or.inl q))
  · exact Or.inr (Or.inr (Or.inr q))
theorem pR.way (h : pR t ag hs B σ ρ) {a b : Nat} (ha : a < 6) (hb : b < 6) : ∃ n, 1 ≤ n ∧ n ≤ 120 ∧ xWay σ (nI a) (nI b) = nI n ∧ ρ 15 a b = nI n := by
  obtain ⟨n, h1, h2, e1, e2⟩ := h.1.2.2.2 a b ha hb
  refine ⟨n, h1, h2, ?_, e2⟩
  have e : nI a * 6 + nI b = nI (6 * a + b) := by rw [show (6 : Int32) = nI 6 from rfl, pk_mul, nI_add, Nat.mul_comm]
  unfold xWay
  rw [e, if_neg (nI_pos (by omega)), if_neg (fun z => by have := le_of_nIle (n := 36) z (by omega) (by omega); omega : ¬ (36 : Int32) ≤ nI (6 * a + b)), ix_nI (by omega)]
  exact e1
theorem pR.mono (h : pR t ag hs B σ ρ) {B' : Nat} (hB : B ≤ B') : pR t ag hs B' σ ρ := by
  obtain ⟨a, b, c, d, u, U, e1, e2, e3⟩ := h
  exact ⟨a, b, c, d, u, U, e1, Nat.le_trans e2 hB, e3⟩
theorem pLk.age {ag ag' c o : Nat} (h : pLk t ag σ ρ c o) (hg : ag ≤ ag') : pLk t ag' σ ρ c o := by
  obtain ⟨h1, h2, h3⟩ := h
  refine ⟨h1, h2, ?_⟩
  rcases h3 with ⟨q1, a, d, q2, q3, q4, q5⟩ | q | q
  · exact Or.inl ⟨q1, a, d, q2, q3, by omega, q5⟩
  · exact Or.inr (Or.inl q)
  · exact Or.inr (Or.inr q)
theorem pR.age (h : pR t ag hs B σ ρ) {ag' : Nat → Nat} (hg : ∀ c, c < nC σ → σ 6 c 3 = 1 → ag c ≤ ag' c) : pR t ag' hs B σ ρ := by
  obtain ⟨a, b, c, ⟨d1, d2⟩, e⟩ := h
  refine ⟨a, b, c, ⟨fun i hi => ?_, d2⟩, e⟩
  rcases d1 i hi with q | ⟨o, ho, q, r1, r2, ⟨k1, k2⟩ | r3⟩
  · exact Or.inl q
  · exact Or.inr ⟨o, ho, q, pLk.age ⟨r1, r2, Or.inl ⟨k1, k2⟩⟩ (hg i hi k1)⟩
  · refine Or.inr ⟨o, ho, q, r1, r2, Or.inr r3⟩
/-- the history begins anew -/
theorem pR.base (h : pR t ag hs B σ ρ) {hs' : Nat → Nat × Bool} (hh : ∀ o, o < nO σ → (hs' o).1 = ix (σ 7 o 8) ∧ ((hs' o).2 = true → oSt (σ 7 o 5))) : pR t ag hs' B σ ρ := by
  have h10 := h.c10
  obtain ⟨a, b, c, d⟩ := h
  refine ⟨a, b, fun o ho => ?_, d⟩
  obtain ⟨c1, ⟨⟨x, k1, k2, k3⟩, k4, k5⟩, c3⟩ := c o ho
  obtain ⟨q1, q2⟩ := hh o ho
  have hx : x < 2 ^ 31 := Nat.lt_of_lt_of_le k2 (Nat.pow_le_pow_right (by decide) (by omega))
  exact ⟨c1, ⟨⟨x, k1, k2, by rw [q1, k1, ix_nI hx, Nat.or_self]⟩, k4, q2⟩, c3⟩
end PR
theorem pCr.of {σ ρ σ' ρ' : Mem} {c : Nat} (h : pCr σ ρ c) (s : ∀ f, σ' 6 c f = σ 6 c f) (t : ∀ f, ρ' 16 c f = ρ 16 c f) : pCr σ' ρ' c := by
  unfold pCr
  rw [s, s, s, s, s, t, t, t, t]
  exact h
theorem pOe.of {σ ρ σ' ρ' : Mem} {o : Nat} (h : pOe σ ρ o) (s : ∀ f, σ' 7 o f = σ 7 o f) (t : ∀ f, ρ' 17 o f = ρ 17 o f) : pOe σ' ρ' o := by
  unfold pOe
  rw [s, s, s, s, s, s, s, t, t, t, t, t, t]
  exact h
theorem pOb.of {σ ρ σ' ρ' : Mem} {n o : Nat} {hh : Nat × Bool} (h : pOb n hh σ ρ o) (s8 : σ' 7 o 8 = σ 7 o 8) (s5 : σ' 7 o 5 = σ 7 o 5) (t : ∀ f, ρ' 19 o f = ρ 19 o f) : pOb n hh σ' ρ' o := by
  unfold pOb
  rw [s8, s5]
  exact ⟨h.1, fun c hc => by rw [t]; exact h.2.1 c hc, h.2.2⟩
theorem pOt.of {σ σ' : Mem} {tt tt' o : Nat} (h : pOt tt σ o) (ht : tt ≤ tt') (s4 : σ' 7 o 4 = σ 7 o 4) (s5 : σ' 7 o 5 = σ 7 o 5) (s9 : σ' 7 o 9 = σ 7 o 9) (s10 : σ' 7 o 10 = σ 7 o 10) : pOt tt' σ' o := by
  obtain ⟨d, k1, k2, k3, k4⟩ := h
  refine ⟨d, k1, s4.trans k2, ?_, fun q => ?_⟩
  · rw [s9]
    rcases k3 with q | ⟨b, q1, q2, q3⟩
    · exact Or.inl q
    · exact Or.inr ⟨b, q1, q2, by omega⟩
  · rw [s5] at q
    obtain ⟨b, e, q1, q2, q3, q4⟩ := k4 q
    exact ⟨b, e, s9.trans q1, s10.trans q2, q3, by omega⟩
theorem pLk.of {σ ρ σ' ρ' : Mem} {tt ag c o : Nat} (h : pLk tt ag σ ρ c o) (s6 : ∀ f, σ' 6 c f = σ 6 c f) (s7 : ∀ f, σ' 7 o f = σ 7 o f) (t4 : ρ' 16 c 4 = ρ 16 c 4) (t19 : ρ' 19 o c = ρ 19 o c) : pLk tt ag σ' ρ' c o := by
  unfold pLk
  rw [s7, s7, s7, s7, s7, s7, s6, s6, s6, t4, t19]
  exact h
section PUPD
variable {t : Nat} {ag ag' : Nat → Nat} {hs : Nat → Nat × Bool} {B B' : Nat} {σ ρ σ' ρ' : Mem}
/-- a cab and an order that have to do with each other, or are to -/
theorem pR.upd (h : pR t ag hs B σ ρ) {c o : Nat} (hc : c < nC σ) (ho : o < nO σ) (w6 : σ 6 c 6 = nI o ∨ σ 6 c 6 = -1) (w7 : σ 7 o 6 = nI c ∨ σ 7 o 6 = -1)
    (eC : nC σ' = nC σ) (eO : nO σ' = nO σ) (hA : pA t σ' ρ') (hg : ∀ i, i ≠ c → ag i ≤ ag' i)
    (s6 : ∀ i f, i ≠ c → σ' 6 i f = σ 6 i f) (s7 : ∀ i f, i ≠ o → σ' 7 i f = σ 7 i f) (t6 : ∀ i f, i ≠ c → ρ' 16 i f = ρ 16 i f) (t7 : ∀ i f, i ≠ o → ρ' 17 i f = ρ 17 i f) (t9 : ∀ i f, i ≠ o → ρ' 19 i f = ρ 19 i f)
    (hCc : pCr σ' ρ' c) (hOo : pOe σ' ρ' o ∧ pOb (nC σ) (hs o) σ' ρ' o ∧ pOt t σ' o) (hT : pT B' σ' ρ')
    (hL : ((σ' 6 c 3 = 0 ∨ σ' 6 c 3 = 1) ∧ σ' 6 c 6 = -1 ∧ ((σ' 7 o 5 = 0 ∧ σ' 7 o 6 = -1) ∨ σ' 7 o 5 = 4 ∨ σ' 7 o 5 = 5)) ∨ (σ' 6 c 6 = nI o ∧ pLk t (ag' c) σ' ρ' c o)) : pR t ag' hs B' σ' ρ' := by
  have h60 := h.o60
  have h10 := h.c10
  have d1 : ∀ i j, i < nC σ → i ≠ c → j < nO σ → σ 6 i 6 = nI j → j ≠ o := by
    rintro i j hi hne hj e rfl
    obtain ⟨-, r, -⟩ := h.lc hi (by omega) e
    rcases w7 with q | q
    · exact hne (nI_inj (by omega) (by omega) (by rw [← r, q]))
    · rw [q] at r; exact absurd r.symm (nI_nm (by omega))
  have d2 : ∀ i j, i < nO σ → i ≠ o → σ 6 j 6 = nI i → j ≠ c := by
    rintro i j hi hne e rfl
    rcases w6 with q | q
    · exact hne (nI_inj (by omega) (by omega) (by rw [← e, q]))
    · rw [q] at e; exact absurd e.symm (nI_nm (by omega))
  refine ⟨hA, fun i hi => ?_, fun i hi => ?_, ⟨fun i hi => ?_, fun i hi => ?_⟩, hT⟩
  · rw [eC] at hi
    by_cases e : i = c
    · subst e; exact hCc
    · exact pCr.of (h.cab hi) (fun f => s6 i f e) (fun f => t6 i f e)
  · rw [eO] at hi
    rw [eC]
    by_cases e : i = o
    · subst e; exact hOo
    · exact ⟨(h.ord hi).of (fun f => s7 i f e) (fun f => t7 i f e), (h.bit hi).of (s7 i 8 e) (s7 i 5 e) (fun f => t9 i f e), (h.tim hi).of (Nat.le_refl _) (s7 i 4 e) (s7 i 5 e) (s7 i 9 e) (s7 i 10 e)⟩
  · rw [eC] at hi
    unfold pL1
    rw [eO]
    by_cases e : i = c
    · subst e
      rcases hL with ⟨q1, q2, -⟩ | ⟨q1, q2⟩
      · exact Or.inl ⟨q1, q2⟩
      · exact Or.inr ⟨o, ho, q1, q2⟩
    · rw [s6 i 3 e, s6 i 6 e]
      rcases h.l1 hi with q | ⟨j, hj, r1, r2⟩
      · exact Or.inl q
      · have hne := d1 i j hi e hj r1
        exact Or.inr ⟨j, hj, r1, (r2.age (hg i e)).of (fun f => s6 i f e) (fun f => s7 j f hne) (t6 i 4 e) (t9 j i hne)⟩
  · rw [eO] at hi
    unfold pL2
    rw [eC]
    by_cases e : i = o
    · subst e
      rcases hL with ⟨q1, q2, q3⟩ | ⟨q1, q2⟩
      · rcases q3 with q3 | q3 | q3
        · exact Or.inl q3
        · exact Or.inr (Or.inr (Or.inl q3))
        · exact Or.inr (Or.inr (Or.inr q3))
      · exact Or.inr (Or.inl ⟨c, hc, q1, q2.1⟩)
    · rw [s7 i 5 e, s7 i 6 e]
      rcases h.l2 hi with q | ⟨j, hj, r1, r2⟩ | q | q
      · exact Or.inl q
      · have hne := d2 i j hi e r1
        exact Or.inr (Or.inl ⟨j, hj, by rw [s6 j 6 hne]; exact r1, r2⟩)
      · exact Or.inr (Or.inr (Or.inl q))
      · exact Or.inr (Or.inr (Or.inr q))
/-- a cab that has to do with no order -/
theorem pR.updC (h : pR t ag hs B σ ρ) {c : Nat} (hc : c < nC σ) (w6 : σ 6 c 6 = -1)
    (eC : nC σ' = nC σ) (eO : nO σ' = nO σ) (hA : pA t σ' ρ')
    (s6 : ∀ i f, i ≠ c → σ' 6 i f = σ 6 i f) (s7 : ∀ i f, σ' 7 i f = σ 7 i f) (t6 : ∀ i f, i ≠ c → ρ' 16 i f = ρ 16 i f) (t7 : ∀ i f, ρ' 17 i f = ρ 17 i f) (t9 : ∀ i f, ρ' 19 i f = ρ 19 i f)
    (hCc : pCr σ' ρ' c) (hT : pT B' σ' ρ') (hL : (σ' 6 c 3 = 0 ∨ σ' 6 c 3 = 1) ∧ σ' 6 c 6 = -1) : pR t ag hs B' σ' ρ' := by
  have h60 := h.o60
  have h10 := h.c10
  have d2 : ∀ i j, i < nO σ → σ 6 j 6 = nI i → j ≠ c := by
    rintro i j hi e rfl
    rw [w6] at e; exact absurd e.symm (nI_nm (by omega))
  refine ⟨hA, fun i hi => ?_, fun i hi => ?_, ⟨fun i hi => ?_, fun i hi => ?_⟩, hT⟩
  · rw [eC] at hi
    by_cases e : i = c
    · subst e; exact hCc
    · exact pCr.of (h.cab hi) (fun f => s6 i f e) (fun f => t6 i f e)
  · rw [eO] at hi
    rw [eC]
    exact ⟨(h.ord hi).of (fun f => s7 i f) (fun f => t7 i f), (h.bit hi).of (s7 i 8) (s7 i 5) (fun f => t9 i f), (h.tim hi).of (Nat.le_refl _) (s7 i 4) (s7 i 5) (s7 i 9) (s7 i 10)⟩
  · rw [eC] at hi
    unfold pL1
    rw [eO]
    by_cases e : i = c
    · subst e
      exact Or.inl hL
    · rw [s6 i 3 e, s6 i 6 e]
      rcases h.l1 hi with q | ⟨j, hj, r1, r2⟩
      · exact Or.inl q
      · exact Or.inr ⟨j, hj, r1, r2.of (fun f => s6 i f e) (fun f => s7 j f) (t6 i 4 e) (t9 j i)⟩
  · rw [eO] at hi
    unfold pL2
    rw [eC, s7 i 5, s7 i 6]
    rcases h.l2 hi with q | ⟨j, hj, r1, r2⟩ | q | q
    · exact Or.inl q
    · have hne := d2 i j hi r1
      exact Or.inr (Or.inl ⟨j, hj, by rw [s6 j 6 hne]; exact r1, r2⟩)
    · exact Or.inr (Or.inr (Or.inl q))
    · exact Or.inr (Or.inr (Or.inr q))
/-- an order that no cab has to do with -/
theorem pR.updO (h : pR t ag hs B σ ρ) {o : Nat} (ho : o < nO σ) (w7 : σ 7 o 6 = -1)
    (eC : nC σ' = nC σ) (eO : nO σ' = nO σ) (hA : pA t σ' ρ')
    (s6 : ∀ i f, σ' 6 i f = σ 6 i f) (s7 : ∀ i f, i ≠ o → σ' 7 i f = σ 7 i f) (t6 : ∀ i f, ρ' 16 i f = ρ 16 i f) (t7 : ∀ i f, i ≠ o → ρ' 17 i f = ρ 17 i f) (t9 : ∀ i f, i ≠ o → ρ' 19 i f = ρ 19 i f)
    (hOo : pOe σ' ρ' o ∧ pOb (nC σ) (hs o) σ' ρ' o ∧ pOt t σ' o) (hT : pT B' σ' ρ') (hL : σ' 7 o 5 = 4 ∨ σ' 7 o 5 = 5) : pR t ag hs B' σ' ρ' := by
  have h60 := h.o60
  have h10 := h.c10
  have d1 : ∀ i j, i < nC σ → j < nO σ → σ 6 i 6 = nI j → j ≠ o := by
    rintro i j hi hj e rfl
    obtain ⟨-, r, -⟩ := h.lc hi (by omega) e
    rw [w7] at r; exact absurd r.symm (nI_nm (by omega))
  refine ⟨hA, fun i hi => ?_, fun i hi => ?_, ⟨fun i hi => ?_, fun i hi => ?_⟩, hT⟩
  · rw [eC] at hi
    exact pCr.of (h.cab hi) (fun f => s6 i f) (fun f => t6 i f)
  · rw [eO] at hi
    rw [eC]
    by_cases e : i = o
    · subst e; exact hOo
    · exact ⟨(h.ord hi).of (fun f => s7 i f e) (fun f => t7 i f e), (h.bit hi).of (s7 i 8 e) (s7 i 5 e) (fun f => t9 i f e), (h.tim hi).of (Nat.le_refl _) (s7 i 4 e) (s7 i 5 e) (s7 i 9 e) (s7 i 10 e)⟩
  · rw [eC] at hi
    unfold pL1
    rw [eO, s6 i 3, s6 i 6]
    rcases h.l1 hi with q | ⟨j, hj, r1, r2⟩
    · exact Or.inl q
    · have hne := d1 i j hi hj r1
      exact Or.inr ⟨j, hj, r1, r2.of (fun f => s6 i f) (fun f => s7 j f hne) (t6 i 4) (t9 j i hne)⟩
  · rw [eO] at hi
    unfold pL2
    rw [eC]
    by_cases e : i = o
    · subst e
      rcases hL with q | q
      · exact Or.inr (Or.inr (Or.inl q))
      · exact Or.inr (Or.inr (Or.inr q))
    · rw [s7 i 5 e, s7 i 6 e]
      rcases h.l2 hi with q | ⟨j, hj, r1, r2⟩ | q | q
      · exact Or.inl q
      · exact Or.inr (Or.inl ⟨j, hj, by rw [s6 j 6]; exact r1, r2⟩)
      · exact Or.inr (Or.inr (Or.inl q))
      · exact Or.inr (Or.inr (Or.inr q))
end PUPD
