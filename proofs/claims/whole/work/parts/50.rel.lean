/-! the class's memory and the model's, side by side -/
def xMx (a b : Int32) : Int32 := if a < b then b else a
/-- numbers, rates, ways -/
def rlA (σ μ : Mem) : Prop := (nC σ = mC μ ∧ nO σ = mO μ ∧ nC σ ≤ 10 ∧ nO σ ≤ 60) ∧ (σ 0 0 3 = μ 8 0 1 ∧ σ 0 0 4 = μ 8 0 3 ∧ σ 0 0 5 = μ 8 0 4) ∧
  (∀ j, j < 36 → σ 1 0 j = μ 9 0 j ∧ ∃ n, 1 ≤ n ∧ n ≤ 120 ∧ σ 1 0 j = nI n) ∧ (∃ t, t ≤ 9999 ∧ σ 0 0 3 = nI t)
/-- the cabs -/
def rlC (σ μ : Mem) : Prop := ∀ c, c < nC σ → σ 6 c 0 = nI c ∧ σ 6 c 1 = μ 9 1 c ∧ σ 6 c 2 = μ 9 2 c ∧ σ 6 c 3 = μ 9 3 c ∧ σ 6 c 6 = μ 9 4 c ∧ σ 6 c 7 = μ 9 7 c ∧ σ 6 c 8 = μ 9 8 c ∧ mZ (σ 6 c 2)
/-- the orders -/
def rlO (σ μ : Mem) : Prop := ∀ o, o < nO σ → (σ 7 o 0 = nI o ∧ σ 7 o 1 = mT μ o 0 ∧ σ 7 o 2 = mT μ o 1 ∧ σ 7 o 3 = mT μ o 2 ∧ σ 7 o 4 = mT μ o 3 ∧ σ 7 o 5 = mT μ o 4 ∧ σ 7 o 6 = mT μ o 5 ∧ σ 7 o 9 = mT μ o 6 ∧ σ 7 o 10 = mT μ o 7) ∧
  σ 7 o 8 = μ 9 10 o ∧ (σ 7 o 11 = μ 9 11 (4 * o) ∧ σ 7 o 12 = μ 9 11 (4 * o + 1) ∧ σ 7 o 13 = μ 9 11 (4 * o + 2) ∧ σ 7 o 14 = μ 9 11 (4 * o + 3)) ∧ mZ (σ 7 o 1) ∧ mZ (σ 7 o 2)
/-- the turns of the cabs that are FREE have one order -/
def rlT (B : Nat) (σ μ : Mem) : Prop := ∃ (u v : Nat → Nat) (U V : Nat), σ 0 0 6 = nI U ∧ μ 8 0 12 = nI V ∧ U ≤ B ∧ V ≤ B ∧
  (∀ c, c < nC σ → σ 6 c 3 = 1 → σ 6 c 4 = nI (u c) ∧ u c < U ∧ μ 9 6 c = nI (v c) ∧ v c ≤ V) ∧
  (∀ c d, c < nC σ → d < nC σ → σ 6 c 3 = 1 → σ 6 d 3 = 1 → c ≠ d → u c ≠ u d ∧ (u c < u d ↔ v c < v d))
/-- who has to do with whom -/
def rlL (σ : Mem) : Prop := (∀ c, c < nC σ → (σ 6 c 3 = 0 ∧ σ 6 c 6 = -1) ∨ (σ 6 c 3 = 1 ∧ σ 6 c 6 = -1) ∨ (∃ o, o < nO σ ∧ σ 6 c 6 = nI o ∧ σ 7 o 6 = nI c ∧ (σ 6 c 3 = 1 ∨ σ 6 c 3 = 2 ∨ σ 6 c 3 = 3) ∧ σ 7 o 5 = σ 6 c 3)) ∧
  (∀ o, o < nO σ → (σ 7 o 5 = 0 ∧ σ 7 o 6 = -1) ∨ (∃ c, c < nC σ ∧ σ 7 o 6 = nI c ∧ σ 6 c 6 = nI o ∧ (σ 7 o 5 = 1 ∨ σ 7 o 5 = 2 ∨ σ 7 o 5 = 3) ∧ σ 7 o 5 = σ 6 c 3) ∨ σ 7 o 5 = 4 ∨ σ 7 o 5 = 5)
/-- the times -/
def rlM (σ μ : Mem) : Prop := ∀ c o, c < nC σ → o < nO σ → σ 6 c 6 = nI o → (σ 6 c 3 = 1 → μ 9 5 c = σ 7 o 7) ∧ (σ 6 c 3 = 2 → σ 6 c 5 = xMx (μ 9 5 c) (σ 7 o 4)) ∧ (σ 6 c 3 = 3 → σ 6 c 5 = μ 9 5 c)
/-- the model's rows beyond -/
def rlN (σ μ : Mem) : Prop := (∀ c, nC σ ≤ c → c < 10 → μ 9 3 c = 0 ∧ μ 9 4 c = -1 ∧ μ 9 7 c = 0 ∧ μ 9 8 c = 0) ∧ (∀ o, nO σ ≤ o → o < 60 → μ 9 10 o = 0 ∧ μ 9 11 (4 * o) = 0 ∧ μ 9 11 (4 * o + 1) = 0 ∧ μ 9 11 (4 * o + 2) = 0 ∧ μ 9 11 (4 * o + 3) = 0)
def rlR (B : Nat) (σ μ : Mem) : Prop := rlA σ μ ∧ rlC σ μ ∧ rlO σ μ ∧ rlT B σ μ ∧ rlL σ ∧ rlM σ μ ∧ rlN σ μ
section REL
variable {B : Nat} {σ μ : Mem}
theorem rlR.ec (h : rlR B σ μ) : nC σ = mC μ := h.1.1.1
theorem rlR.eo (h : rlR B σ μ) : nO σ = mO μ := h.1.1.2.1
theorem rlR.c10 (h : rlR B σ μ) : nC σ ≤ 10 := h.1.1.2.2.1
theorem rlR.o60 (h : rlR B σ μ) : nO σ ≤ 60 := h.1.1.2.2.2
theorem rlR.now (h : rlR B σ μ) : σ 0 0 3 = μ 8 0 1 := h.1.2.1.1
theorem rlR.base (h : rlR B σ μ) : σ 0 0 4 = μ 8 0 3 := h.1.2.1.2.1
theorem rlR.rate (h : rlR B σ μ) : σ 0 0 5 = μ 8 0 4 := h.1.2.1.2.2
theorem rlR.way (h : rlR B σ μ) {j : Nat} (hj : j < 36) : σ 1 0 j = μ 9 0 j := (h.1.2.2.1 j hj).1
theorem mZ_6 {a b : Int32} (ha : mZ a) (hb : mZ b) : ∃ j, j < 36 ∧ a * 6 + b = nI j ∧ 6 * a + b = nI j := by
  obtain ⟨x, hx, rfl⟩ := ha
  obtain ⟨y, hy, rfl⟩ := hb
  refine ⟨6 * x + y, by omega, ?_, ?_⟩
  · rw [show (6 : Int32) = nI 6 from rfl, pk_mul, nI_add, Nat.mul_comm]
  · rw [show (6 : Int32) = nI 6 from rfl, pk_mul, nI_add]
theorem rlR.xway (h : rlR B σ μ) {a b : Int32} (ha : mZ a) (hb : mZ b) : xWay σ a b = mWay μ a b := by
  obtain ⟨j, hj, e1, e2⟩ := mZ_6 ha hb
  unfold xWay mWay
  rw [e1, e2, if_neg (nI_pos (by omega)), if_neg (fun z => by have := le_of_nIle (n := 36) z (by omega) (by omega); omega : ¬ (36 : Int32) ≤ nI j), ix_nI (by omega)]
  exact h.way hj
theorem rlR.way1 (h : rlR B σ μ) {a b : Int32} (ha : mZ a) (hb : mZ b) : ∃ n, 1 ≤ n ∧ n ≤ 120 ∧ xWay σ a b = nI n := by
  obtain ⟨j, hj, e1, e2⟩ := mZ_6 ha hb
  unfold xWay
  rw [e1, if_neg (nI_pos (by omega)), if_neg (fun z => by have := le_of_nIle (n := 36) z (by omega) (by omega); omega : ¬ (36 : Int32) ≤ nI j), ix_nI (by omega)]
  exact (h.1.2.2.1 j hj).2
theorem rlR.cab (h : rlR B σ μ) {c : Nat} (hc : c < nC σ) : σ 6 c 0 = nI c ∧ σ 6 c 1 = μ 9 1 c ∧ σ 6 c 2 = μ 9 2 c ∧ σ 6 c 3 = μ 9 3 c ∧ σ 6 c 6 = μ 9 4 c ∧ σ 6 c 7 = μ 9 7 c ∧ σ 6 c 8 = μ 9 8 c ∧ mZ (σ 6 c 2) := h.2.1 c hc
theorem rlR.ord (h : rlR B σ μ) {o : Nat} (ho : o < nO σ) : (σ 7 o 0 = nI o ∧ σ 7 o 1 = mT μ o 0 ∧ σ 7 o 2 = mT μ o 1 ∧ σ 7 o 3 = mT μ o 2 ∧ σ 7 o 4 = mT μ o 3 ∧ σ 7 o 5 = mT μ o 4 ∧ σ 7 o 6 = mT μ o 5 ∧ σ 7 o 9 = mT μ o 6 ∧ σ 7 o 10 = mT μ o 7) ∧
  σ 7 o 8 = μ 9 10 o ∧ (σ 7 o 11 = μ 9 11 (4 * o) ∧ σ 7 o 12 = μ 9 11 (4 * o + 1) ∧ σ 7 o 13 = μ 9 11 (4 * o + 2) ∧ σ 7 o 14 = μ 9 11 (4 * o + 3)) ∧ mZ (σ 7 o 1) ∧ mZ (σ 7 o 2) := h.2.2.1 o ho
/-- one turn before another -/
theorem rlR.turn (h : rlR B σ μ) (hB : B < 2 ^ 31) {c d : Nat} (hc : c < nC σ) (hd : d < nC σ) (h1 : σ 6 c 3 = 1) (h2 : σ 6 d 3 = 1) : (σ 6 c 4 ≤ σ 6 d 4 ↔ μ 9 6 c ≤ μ 9 6 d) := by
  obtain ⟨u, v, U, V, -, -, hU, hV, ht, ho⟩ := h.2.2.2.1
  obtain ⟨a1, a2, a3, a4⟩ := ht c hc h1
  obtain ⟨b1, b2, b3, b4⟩ := ht d hd h2
  rw [a1, a3, b1, b3, nI_leI (by omega) (by omega), nI_leI (by omega) (by omega)]
  by_cases e : c = d
  · subst e
    exact ⟨fun _ => Nat.le_refl _, fun _ => Nat.le_refl _⟩
  · obtain ⟨n1, i1⟩ := ho c d hc hd h1 h2 e
    obtain ⟨n2, i2⟩ := ho d c hd hc h2 h1 (Ne.symm e)
    omega
theorem rlR.turn2 (h : rlR B σ μ) (hB : B < 2 ^ 31) {c d : Nat} (hc : c < nC σ) (hd : d < nC σ) (h1 : σ 6 c 3 = 1) (h2 : σ 6 d 3 = 1) (hne : c ≠ d) : ¬ σ 6 c 4 = σ 6 d 4 := by
  obtain ⟨u, v, U, V, -, -, hU, hV, ht, ho⟩ := h.2.2.2.1
  obtain ⟨a1, a2, a3, a4⟩ := ht c hc h1
  obtain ⟨b1, b2, b3, b4⟩ := ht d hd h2
  rw [a1, b1]
  intro z
  exact (ho c d hc hd h1 h2 hne).1 (nI_inj (by omega) (by omega) z)
theorem rlR.pl (h : rlR B σ μ) (hB : B < 2 ^ 31) {c : Nat} (hc : c < nC σ) : xPlace σ c = mPl μ c := by
  obtain ⟨-, -, ez, es, -⟩ := h.cab hc
  unfold xPlace mPl
  rw [← h.ec, ← es]
  by_cases hf : σ 6 c 3 = 1
  · rw [if_pos hf, if_pos hf]
    have go : ∀ (r k : Nat) (acc : Int32), k + r = nC σ → xPlGo σ c r k acc = mPlGo μ c r k acc := by
      intro r
      induction r with
      | zero => intro k acc _; rfl
      | succ r ih =>
        intro k acc hk
        obtain ⟨-, -, kz, ks, -⟩ := h.cab (c := k) (by omega)
        have e0 : acc + 0 = acc := Int32.add_zero _
        simp only [xPlGo, mPlGo, xInQ]
        rw [e0, ← ks, ← kz, ← ez]
        by_cases h1 : σ 6 k 3 = 1
        · by_cases h2 : σ 6 k 2 = σ 6 c 2
          · have ht := h.turn hB hc (d := k) (by omega) hf h1
            by_cases h3 : σ 6 c 4 ≤ σ 6 k 4
            · simp only [h1, h2, if_true, if_pos h3, if_pos (ht.mp h3)]
              exact ih (k + 1) acc (by omega)
            · simp only [h1, h2, if_true, if_neg h3, if_neg (fun z => h3 (ht.mpr z))]
              exact ih (k + 1) _ (by omega)
          · simp only [h1, if_true, if_neg h2, Bool.false_eq_true, if_false]
            exact ih (k + 1) acc (by omega)
        · simp only [if_neg h1, Bool.false_eq_true, if_false]
          exact ih (k + 1) acc (by omega)
    exact go (nC σ) 0 0 (by omega)
  · rw [if_neg hf, if_neg hf]
end REL
