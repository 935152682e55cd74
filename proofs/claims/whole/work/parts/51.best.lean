theorem sh_one : ∀ l, l < 10 → ((1 : Int32) <<< (nI l &&& 31)).toBitVec = BitVec.twoPow 32 l := by decide +kernel
theorem sh_amt : ∀ l, l < 10 → ((nI l &&& 31).toBitVec.smod 32).toNat = l := by decide +kernel
theorem sh_tp : ∀ l, l < 10 → BitVec.twoPow 32 l ≠ 0#32 := by decide +kernel
theorem sh_bit (x : Int32) {c : Nat} (hc : c < 10) : x &&& ((1 : Int32) <<< (nI c &&& 31)) = 0 ↔ (x >>> (nI c &&& 31)) &&& 1 = 0 := by
  have e1 : (x &&& ((1 : Int32) <<< (nI c &&& 31)) = 0) ↔ x.toBitVec.getLsbD c = false := by
    rw [← Int32.toBitVec_inj, Int32.toBitVec_and, sh_one c hc, BitVec.and_twoPow]
    cases x.toBitVec.getLsbD c
    · exact ⟨fun _ => rfl, fun _ => rfl⟩
    · refine ⟨fun h => ?_, fun h => nomatch h⟩
      exact absurd h (sh_tp c hc)
  have e2 : ((x >>> (nI c &&& 31)) &&& 1 = 0) ↔ x.toBitVec.getLsbD c = false := by
    have e3 : (x >>> (nI c &&& 31)).toBitVec = x.toBitVec.sshiftRight c := by
      show x.toBitVec.sshiftRight ((nI c &&& 31).toBitVec.smod 32).toNat = _
      rw [sh_amt c hc]
    rw [← Int32.toBitVec_inj, Int32.toBitVec_and, e3, show (1 : Int32).toBitVec = 1#32 from rfl, BitVec.and_one_eq_setWidth_ofBool_getLsbD, BitVec.getLsbD_sshiftRight]
    have e4 : (!decide (32 ≤ 0) && if c + 0 < 32 then x.toBitVec.getLsbD (c + 0) else x.toBitVec.msb) = x.toBitVec.getLsbD c := by
      rw [Nat.add_zero, if_pos (by omega)]
      simp
    rw [e4]
    cases x.toBitVec.getLsbD c
    · exact ⟨fun _ => rfl, fun _ => rfl⟩
    · exact ⟨fun h => absurd h (by decide), fun h => nomatch h⟩
  exact e1.trans e2.symm
section BEST
variable {B : Nat} {σ μ : Mem}
theorem rlR.can (h : rlR B σ μ) {o c : Nat} (ho : o < nO σ) (hc : c < nC σ) : xCan σ o c = mCan μ o c := by
  obtain ⟨e0, e1, e2, e3, e6, -⟩ := h.cab hc
  obtain ⟨⟨-, -, -, f3, -⟩, f8, -⟩ := h.ord ho
  have h10 := h.c10
  unfold xCan xIdle mCan xBit
  rw [← e3, ← e6, ← e1, ← f3, ← f8, e0]
  by_cases c1 : σ 6 c 3 = 1
  · by_cases c2 : σ 6 c 6 = -1
    · by_cases c3 : σ 6 c 1 < σ 7 o 3
      · simp [c1, c2, c3]
      · have hb := sh_bit (σ 7 o 8) (c := c) (by omega)
        by_cases c4 : σ 7 o 8 &&& ((1 : Int32) <<< (nI c &&& 31)) = 0
        · simp only [c1, c2, if_true, if_neg c3, if_pos c4, if_pos (hb.mp c4)]
        · simp only [c1, c2, if_true, if_neg c3, if_neg c4, if_neg (fun z => c4 (hb.mpr z))]
    · simp [c1, c2]
  · simp [c1]
/-- a rank is a number: 0 for the zone itself, else the way and the zone -/
theorem rlR.rank (h : rlR B σ μ) {z a : Int32} (hz : mZ z) (ha : mZ a) : (z = a ∧ xRank σ z a = 0) ∨ (¬ z = a ∧ ∃ n q, 1 ≤ n ∧ n ≤ 120 ∧ q < 6 ∧ z = nI q ∧ xWay σ z a = nI n ∧ xRank σ z a = nI (n * 6 + q)) := by
  unfold xRank
  by_cases e : z = a
  · exact Or.inl ⟨e, if_pos e⟩
  · obtain ⟨n, h1, h2, ew⟩ := h.way1 hz ha
    obtain ⟨q, hq, rfl⟩ := hz
    refine Or.inr ⟨e, n, q, h1, h2, hq, rfl, ew, ?_⟩
    rw [if_neg e, ew, show (6 : Int32) = nI 6 from rfl, pk_mul, nI_add]
/-- one cab ahead of another -/
theorem rlR.near (h : rlR B σ μ) (hB : B < 2 ^ 31) {c b : Nat} (hc : c < nC σ) (hb : b < nC σ) (h1 : σ 6 c 3 = 1) (h2 : σ 6 b 3 = 1) {a : Int32} (ha : mZ a) :
    mNear μ c b a = true ↔ (xRank σ (σ 6 c 2) a < xRank σ (σ 6 b 2) a ∨ (xRank σ (σ 6 c 2) a = xRank σ (σ 6 b 2) a ∧ ¬ σ 6 b 4 ≤ σ 6 c 4)) := by
  obtain ⟨-, -, cz, -, -, -, -, mzc⟩ := h.cab hc
  obtain ⟨-, -, bz, -, -, -, -, mzb⟩ := h.cab hb
  have ht := h.turn hB hb hc h2 h1
  have ewc := h.xway mzc ha
  have ewb := h.xway mzb ha
  unfold mNear
  rw [← cz, ← bz, ← ewc, ← ewb]
  rcases h.rank mzc ha with ⟨kc, rc⟩ | ⟨kc, n, q, n1, n2, hq, eq, ew, rc⟩
  · rcases h.rank mzb ha with ⟨kb, rb⟩ | ⟨kb, n', q', n1', n2', hq', eq', ew', rb⟩
    · rw [rc, rb, if_pos kc, if_pos kb, if_pos (kc.trans kb.symm)]
      by_cases c3 : σ 6 b 4 ≤ σ 6 c 4
      · rw [if_pos (ht.mp c3)]
        exact ⟨fun z => (nomatch z), fun z => z.elim (fun z => absurd z (by decide)) (fun z => absurd c3 z.2)⟩
      · rw [if_neg (fun z => c3 (ht.mpr z))]
        exact ⟨fun _ => Or.inr ⟨rfl, c3⟩, fun _ => rfl⟩
    · rw [rc, rb, if_pos kc, if_neg kb]
      exact ⟨fun _ => Or.inl (nI_lt (a := 0) (by omega) (by omega)), fun _ => rfl⟩
  · rcases h.rank mzb ha with ⟨kb, rb⟩ | ⟨kb, n', q', n1', n2', hq', eq', ew', rb⟩
    · rw [rc, rb, if_neg kc, if_pos kb]
      refine ⟨fun z => (nomatch z), fun z => ?_⟩
      rcases z with z | ⟨z, -⟩
      · exact absurd z (nI_nlt (b := 0) (by omega) (by omega))
      · have := nI_inj (b := 0) (by omega) (by decide) z
        omega
    · rw [rc, rb, if_neg kc, if_neg kb, ew, ew']
      by_cases ez : σ 6 c 2 = σ 6 b 2
      · rw [if_pos ez]
        have eqq : q = q' := nI_inj (by omega) (by omega) (by rw [← eq, ez, eq'])
        have enn : n = n' := nI_inj (by omega) (by omega) (by rw [← ew, ez, ew'])
        subst eqq enn
        by_cases c3 : σ 6 b 4 ≤ σ 6 c 4
        · rw [if_pos (ht.mp c3)]
          exact ⟨fun z => (nomatch z), fun z => z.elim (fun z => absurd z (nI_nlt (a := n * 6 + q) (b := n * 6 + q) (Nat.le_refl _) (by omega))) (fun z => absurd c3 z.2)⟩
        · rw [if_neg (fun z => c3 (ht.mpr z))]
          exact ⟨fun _ => Or.inr ⟨rfl, c3⟩, fun _ => rfl⟩
      · have hqq : q ≠ q' := fun z => ez (by rw [eq, eq', z])
        rw [if_neg ez]
        have hne : ¬ nI (n * 6 + q) = nI (n' * 6 + q') := fun z => by have := nI_inj (by omega) (by omega) z; omega
        by_cases e0 : n = n'
        · subst e0
          rw [if_pos (Int32.sub_self _), eq, eq']
          by_cases c4 : q' ≤ q
          · rw [if_pos (nI_le c4 (by omega))]
            exact ⟨fun z => (nomatch z), fun z => z.elim (fun z => absurd z (nI_nlt (by omega) (by omega))) (fun z => absurd z.1 hne)⟩
          · rw [if_neg (fun z => c4 (le_of_nIle z (by omega) (by omega)))]
            exact ⟨fun _ => Or.inl (nI_lt (by omega) (by omega)), fun _ => rfl⟩
        · by_cases c4 : n' ≤ n
          · have es : nI n - nI n' = nI (n - n') := pk_sub c4
            have hz0 : ¬ nI (n - n') = 0 := fun z => by have := nI_inj (b := 0) (by omega) (by decide) z; omega
            rw [es, if_neg hz0, if_pos (show (0 : Int32) ≤ nI (n - n') from nI_le (a := 0) (Nat.zero_le _) (by omega))]
            exact ⟨fun z => (nomatch z), fun z => z.elim (fun z => absurd z (nI_nlt (by omega) (by omega))) (fun z => absurd z.1 hne)⟩
          · have hn0 : ¬ nI n - nI n' = 0 := fun z => by
              have z2 : nI n = nI n' := by rw [← Int32.sub_add_cancel (nI n) (nI n'), z, Int32.zero_add]
              exact e0 (nI_inj (by omega) (by omega) z2)
            have hneg : ¬ (0 : Int32) ≤ nI n - nI n' := by
              have key : ∀ a b : Fin 121, a.val < b.val → ¬ (0 : Int32) ≤ nI a.val - nI b.val := by decide +kernel
              exact key ⟨n, by omega⟩ ⟨n', by omega⟩ (by show n < n'; omega)
            rw [if_neg hn0, if_neg hneg]
            exact ⟨fun _ => Or.inl (nI_lt (by omega) (by omega)), fun _ => rfl⟩
end BEST
