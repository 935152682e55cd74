section TELLS
variable {B : Nat} {σ μ : Mem} {g : gG}
theorem rlR.whole (h : rlR B σ μ) {o : Nat} (ho : o < nO σ) : xWhole σ o = mSum μ o := by
  obtain ⟨-, -, ⟨b11, b12, b13, b14⟩, -⟩ := h.ord ho
  unfold xWhole mSum
  rw [b11, b12, b13, b14]
theorem rlR.cabDet (h : rlR B σ μ) (hB : B < 2 ^ 31) {c : Nat} (hc : c < nC σ) (x : Int32) : xCabDet σ c x = mCabTold μ c x := by
  obtain ⟨k0, k1, k2, k3, k6, k7, k8, kz⟩ := h.cab hc
  unfold xCabDet mCabTold
  rw [← k3, ← k2, ← k1, ← k6, h.pl hB hc]
  have e : (if σ 6 c 6 = -1 then -1 else σ 7 (ix (σ 6 c 6)) 0) = σ 6 c 6 := by
    by_cases q : σ 6 c 6 = -1
    · rw [if_pos q, q]
    · obtain ⟨o, ho, eo, eo2, -⟩ := h.of6 hc q
      rw [if_neg q, eo2, (h.ord ho).1.1, eo]
  rw [e]
theorem rlR.ordDet (h : rlR B σ μ) {o : Nat} (ho : o < nO σ) (hk : σ 7 o 6 = -1 ∨ ∃ j, j < nC σ ∧ σ 7 o 6 = nI j) : ∀ q, q ≤ 4 → xOrdDet σ o (nI q) = mOrdTold μ o q := by
  obtain ⟨⟨a0, a1, a2, a3, a4, a5, a6, a9, a10⟩, b8, -⟩ := h.ord ho
  have h10 := h.c10
  have e : (if σ 7 o 6 = -1 then -1 else σ 6 (ix (σ 7 o 6)) 0) = σ 7 o 6 := by
    rcases hk with q | ⟨j, hj, q⟩
    · rw [if_pos q, q]
    · rw [if_neg (by rw [q]; exact nI_nm (by omega)), q, ix_nI (by omega), (h.cab hj).1]
  intro q hq
  unfold xOrdDet mOrdTold
  rw [e]
  match q, hq with
  | 0, _ => exact a5
  | 1, _ => exact a6
  | 2, _ => exact a9
  | 3, _ => exact a10
  | 4, _ =>
    show bcnt (σ 7 o 8) = bcnt (μ 9 10 o)
    rw [b8]
  | n + 5, hq => omega
theorem rlR.fareP (h : rlR B σ μ) {o : Nat} (ho : o < nO σ) : ∀ q, q ≤ 4 → xFareP σ o (nI q) = mFare μ o q := by
  obtain ⟨-, -, ⟨b11, b12, b13, b14⟩, -⟩ := h.ord ho
  have hw := h.whole ho
  intro q hq
  unfold xFareP mFare
  match q, hq with
  | 0, _ => exact b11
  | 1, _ => exact b12
  | 2, _ => exact b13
  | 3, _ => exact b14
  | 4, _ => exact hw
  | n + 5, hq => omega
theorem rlR.la (h : rlR B σ μ) : xLa σ = mLa μ := by
  unfold xLa mLa
  rw [← h.eo]
  have go : ∀ (r k : Nat) (n t : Int32), k + r = nO σ → xLaGo σ r k n t = mLaGo μ r k n t := by
    intro r
    induction r with
    | zero => intro k n t _; rfl
    | succ r ih =>
      intro k n t hk
      obtain ⟨⟨-, -, -, -, a4, -, -, a9, -⟩, -⟩ := h.ord (o := k) (by omega)
      simp only [xLaGo, mLaGo]
      rw [← a9, ← a4, ih _ _ _ (by omega), ih _ _ _ (by omega)]
  exact go (nO σ) 0 0 0 (by omega)
theorem rlR.cnt (h : rlR B σ μ) (x : Int32) : xOs σ (x - 2) = mCntGo μ x (mO μ) 0 0 := by
  unfold xOs
  rw [← h.eo]
  have go : ∀ (r k : Nat) (acc : Int32), k + r = nO σ → xOsGo σ (x - 2) r k acc = mCntGo μ x r k acc := by
    intro r
    induction r with
    | zero => intro k acc _; rfl
    | succ r ih =>
      intro k acc hk
      obtain ⟨⟨-, -, -, -, -, a5, -⟩, -⟩ := h.ord (o := k) (by omega)
      have e0 : acc + 0 = acc := Int32.add_zero _
      simp only [xOsGo, mCntGo]
      rw [← a5, e0, ih _ _ (by omega), ih _ _ (by omega)]
  exact go (nO σ) 0 0 (by omega)
end TELLS
