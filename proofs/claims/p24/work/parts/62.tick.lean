/-! the minutes, one after another -/
def xTk (σ : Mem) : Nat → Int32 × Mem
  | 0 => (0, σ)
  | k + 1 => ((xTk σ k).1 + (xPm (xTk σ k).2).1, (xPm (xTk σ k).2).2)
theorem xTickGo_k {σ : Mem} : ∀ (r k : Nat), xTickGo r (xTk σ k).1 (xTk σ k).2 = xTk σ (k + r)
  | 0, k => rfl
  | r + 1, k => by
    rw [xTickGo, show k + (r + 1) = k + 1 + r by omega, ← xTickGo_k r (k + 1)]
    rfl
theorem xTick_k {σ : Mem} {n : Nat} (hn : n < 2 ^ 31) : xTick σ (nI n) = xTk σ n := by
  unfold xTick
  rw [ix_nI hn]
  have := xTickGo_k (σ := σ) n 0
  rw [Nat.zero_add] at this
  exact this
section TKS
variable {t k : Nat} {ag : Nat → Nat} {hs : Nat → Nat × Bool} {B B' : Nat} {σ σ1 σ' τ σ0 : Mem} {g : gG}
/-- behind k minutes of the Rank -/
def Tk (g : gG) (hs : Nat → Nat × Bool) (t B : Nat) (σ σ1 : Mem) (k : Nat) (τ : Mem) : Prop := Ur σ1 τ ∧ Rr g τ ∧ pR (t + k) (fun _ => 1) hs (B + 20 * k) (xTk σ k).2 τ ∧ pNW (xTk σ k).2 ∧ nO (xTk σ k).2 = nO σ
theorem LI.tick0 (h : LI g hs t B σ) (e8 : ∀ k i f, 8 ≤ k → σ1 k i f = σ k i f) : Tk g hs t B σ σ1 0 σ1 :=
  ⟨Ur.rf _, h.2.1.c8 e8, h.pre e8, h.2.2.2.1, rfl⟩
theorem Tk.min (h : Tk g hs t B σ σ1 k τ) (hB : B + 20 * k + 100 < 2 ^ 31) (ht : t + k < 9999) :
    ∃ N, (∀ k, k < gcn g 16 → rG1 g (rAgeN k (rM0 τ)) k) ∧ (∀ k, k < gcn g 16 → rG2 g (rRunN k (rM1 (gcn g 16) τ)).2 k) ∧ (∀ z, z < 6 → rQw (gcn g 16) (rM2 (gcn g 16) τ).2 z) ∧ (∀ o, o < gcn g 17 → inN 6 ((rM2 (gcn g 16) τ).2 17 o 0)) ∧
      (∀ i, i < N → ¬ rBest (rOffN i (rM2 (gcn g 16) τ).2) < 0) ∧ rBest (rOffN N (rM2 (gcn g 16) τ).2) < 0 ∧ Tk g hs t B σ σ1 (k + 1) (rOffN N (rM2 (gcn g 16) τ).2) ∧ (xTk σ (k + 1)).1 = (xTk σ k).1 + (rM2 (gcn g 16) τ).1 := by
  obtain ⟨hU, hR, hP, hW, hO⟩ := h
  obtain ⟨N, a1, a2, a3, a4, a5, a6, a7, a8, a9, -, a10⟩ := hP.minute (g := g) (by omega) ht (hP.cC hR).symm (hP.cO hR).symm
  have hR2 : Rr g (rM2 (gcn g 16) τ).2 := Rr.runN (Rr.ageN (hR.st8 (by decide)) _) _
  refine ⟨N, a1, a2, a3, a4, a5, a6, ⟨Ur.offN (Ur.min hU) N, hR2.offN N, ?_, a9, a10.trans hO⟩, ?_⟩
  · exact a8.mono (by omega)
  · show (xTk σ k).1 + _ = _
    rw [a7]
theorem LI.tick (h : LI g hs t B σ) {n : Nat} (h1 : 1 ≤ n) (h12 : n ≤ 12) (ht : t + 12 ≤ 9999) : xTickE σ (nI n) = 0 ∧ (∀ k i f, 8 ≤ k → (xTick σ (nI n)).2 k i f = σ k i f) ∧ Xok g (xTick σ (nI n)).2 ∧ (xTick σ (nI n)).1 = (xTk σ n).1 := by
  refine ⟨?_, fun k i f hk => xTick_8 _ _ _ i f (by omega) (by omega) (by omega), Xok.tickGo _ _ h.1, ?_⟩
  · have en := h.2.2.1.now
    unfold xTickE
    rw [if_neg (show ¬ nI n < 1 from nI_nlt h1 (by omega)), if_pos (show nI n ≤ 300 from nI_le (show n ≤ 300 by omega) (by decide)), en, show (9999 : Int32) - nI t = nI (9999 - t) from pk_sub (a := 9999) (by omega), if_pos (nI_le (by omega) (by omega))]
  · rw [xTick_k (by omega)]
theorem Tk.done (h : LI g hs t B σ) {n : Nat} (hn : n < 2 ^ 31) (hT : Tk g hs t B σ (xTick σ (nI n)).2 n τ) (hX : Xok g (xTick σ (nI n)).2) (e8 : ∀ k i f, 8 ≤ k → (xTick σ (nI n)).2 k i f = σ k i f) (hB : B + 20 * n < 2 ^ 31) : AO g hs (t + n) (B + 20 * n) σ τ := by
  obtain ⟨hU, hR, hP, hW, hO⟩ := hT
  rw [xTick_k hn] at hU hX e8
  have hX2 : Xok g τ := hX.cong (fun k i f hk => hU k i f (Or.inl hk))
  have hP2 : pR (t + n) (fun _ => 1) hs (B + 20 * n) τ τ := hP.congr (fun k i f hk => hU k i f (Or.inl hk)) (fun _ _ _ _ _ => rfl)
  have eO : nO τ = nO σ := (nO_c (fun k i f hk => hU k i f (Or.inl hk))).trans hO
  have hE := (hP.fix hB hW).2.2
  have hW2 : pNW τ := by
    rcases hP2.be hB with ⟨-, q⟩ | ⟨o, q, hbo, -⟩
    · exact q
    · exfalso
      rw [q] at hE
      have := hP2.o60
      exact absurd hE (nI_pos (by omega))
  have e16 := hP2.cC hR
  have e17 := hP2.cO hR
  refine ⟨0, fun i hi => absurd hi (Nat.not_lt_zero _), hE, fun z hz => ?_, fun o ho => ?_, hR, ⟨hX2, hR, hP2, hW2, h.2.2.2.2.1, fun o ho => h.2.2.2.2.2 o (by rw [← eO]; exact ho)⟩, fun k i f hk => (hU k i f (Or.inr hk)).trans (e8 k i f (by omega)), by show nO τ ≤ _; omega⟩
  · rw [← e16]; exact hP2.tq.q hz
  · have q := hP2.ord (o := o) (by omega)
    rw [← q.1.2.1]; exact q.2.1
/-- setWay, as both do it -/
theorem LI.setWay (h : LI g hs t B σ) (hB : B < 2 ^ 31) {a b n : Nat} (ha : a < 4) (hb : b < 4) (hab : a ≠ b) (h1 : 1 ≤ n) (h2 : n ≤ 30) :
    xSetWayE (nI a) (nI b) (nI n) = 0 ∧ Xok g (xSetWay σ (nI a) (nI b) (nI n)) ∧ Rr g (xSetWay σ (nI a) (nI b) (nI n)) ∧ xWay σ (nI a) (nI b) = σ 15 a b ∧ (∀ k i f, 8 ≤ k → xSetWay σ (nI a) (nI b) (nI n) k i f = σ k i f) ∧
    LI g hs t B (gst (gst (xSetWay σ (nI a) (nI b) (nI n)) 15 a b (nI n)) 15 b a (nI n)) ∧ (∀ k i f, 20 < k → gst (gst (xSetWay σ (nI a) (nI b) (nI n)) 15 a b (nI n)) 15 b a (nI n) k i f = σ k i f) ∧ nO (gst (gst (xSetWay σ (nI a) (nI b) (nI n)) 15 a b (nI n)) 15 b a (nI n)) = nO σ := by
  have e8 : ∀ k i f, 8 ≤ k → xSetWay σ (nI a) (nI b) (nI n) k i f = σ k i f := fun k i f hk => by unfold xSetWay; rw [xPutWay_8 (by omega), xPutWay_8 (by omega)]
  have e3 : ∀ k i f, k ≠ 1 → xSetWay σ (nI a) (nI b) (nI n) k i f = σ k i f := fun k i f hk => by unfold xSetWay; rw [xPutWay_8 hk, xPutWay_8 hk]
  have hX : Xok g (xSetWay σ (nI a) (nI b) (nI n)) := h.1.putWay.putWay
  have hR := h.2.1.c8 e8
  have hP := (h.pre e8).setWay (a := a) (b := b) (n := n) (by omega) (by omega) h1 (by omega)
  have hU : Ur (xSetWay σ (nI a) (nI b) (nI n)) (gst (gst (xSetWay σ (nI a) (nI b) (nI n)) 15 a b (nI n)) 15 b a (nI n)) := ((Ur.rf _).g (by decide) (by decide)).g (by decide) (by decide)
  have hP2 : pR t (fun _ => 1) hs B (gst (gst (xSetWay σ (nI a) (nI b) (nI n)) 15 a b (nI n)) 15 b a (nI n)) (gst (gst (xSetWay σ (nI a) (nI b) (nI n)) 15 a b (nI n)) 15 b a (nI n)) := hP.congr (fun k i f hk => hU k i f (Or.inl hk)) (fun _ _ _ _ _ => rfl)
  have eO : nO (gst (gst (xSetWay σ (nI a) (nI b) (nI n)) 15 a b (nI n)) 15 b a (nI n)) = nO σ := by
    unfold nO
    rw [gst_nk (by decide), gst_nk (by decide), e3 3 0 2 (by decide)]
  refine ⟨?_, hX, hR, ?_, e8, ⟨hX.cong (fun k i f hk => hU k i f (Or.inl hk)), (hR.st (by decide)).st (by decide), hP2, ?_, h.2.2.2.2.1, fun o ho => h.2.2.2.2.2 o (by rw [← eO]; exact ho)⟩, fun k i f hk => (hU k i f (Or.inr hk)).trans (e8 k i f (by omega)), eO⟩
  · have za : ∀ a, a < 4 → xIsZone (nI a) = true := by decide
    unfold xSetWayE
    rw [if_pos (za a ha), if_pos (za b hb), if_neg (fun q => hab (nI_inj (by omega) (by omega) q)), if_neg (show ¬ nI n < 1 from nI_nlt h1 (by omega)), if_pos (show nI n ≤ 120 from nI_le (show n ≤ 120 by omega) (by decide))]
  · obtain ⟨m, -, -, q1, q2⟩ := h.2.2.1.way (a := a) (b := b) (by omega) (by omega)
    rw [q1, q2]
  · intro o ho hw
    have ho' : o < nO σ := by rw [← eO]; exact ho
    have ec : ∀ k i f, k < 8 → k ≠ 1 → gst (gst (xSetWay σ (nI a) (nI b) (nI n)) 15 a b (nI n)) 15 b a (nI n) k i f = σ k i f := fun k i f hk h1 => (hU k i f (Or.inl hk)).trans (e3 k i f h1)
    have eC : nC (gst (gst (xSetWay σ (nI a) (nI b) (nI n)) 15 a b (nI n)) 15 b a (nI n)) = nC σ := by unfold nC; rw [ec 2 0 2 (by decide) (by decide)]
    revert ec hw eC
    generalize hτ : gst (gst (xSetWay σ (nI a) (nI b) (nI n)) 15 a b (nI n)) 15 b a (nI n) = τ at *
    intro hw ec eC
    refine h.2.2.2.1 o ho' ⟨?_, fun q => ?_⟩
    · have := hw.1
      unfold xLook at this ⊢
      rw [ec 7 o 5 (by decide) (by decide), ec 0 0 3 (by decide) (by decide), ec 7 o 4 (by decide) (by decide)] at this
      exact this
    · rcases (hP2.cf hB ho).2 with ⟨q1, -⟩ | ⟨c, -, hc, hcan⟩
      · exact hw.2 q1
      · rcases (h.2.2.1.cf hB ho').2 with ⟨-, q2⟩ | ⟨c', q2, hc', -⟩
        · refine q2 c (by rw [← eC]; exact hc) ?_
          rw [← hcan]
          unfold xCan xIdle xBit
          rw [ec 6 c 3 (by decide) (by decide), ec 6 c 6 (by decide) (by decide), ec 6 c 1 (by decide) (by decide), ec 7 o 3 (by decide) (by decide), ec 7 o 8 (by decide) (by decide), ec 6 c 0 (by decide) (by decide)]
        · rw [q] at q2
          have := h.2.2.1.c10
          exact absurd q2.symm (nI_nm (by omega))
end TKS
