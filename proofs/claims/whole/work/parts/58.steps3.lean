section STEPS3
variable {B : Nat} {σ μ : Mem}
theorem min_5 (a : Int32) : xMin5 a = if a < 5 then a else 5 := by
  unfold xMin5
  by_cases c : a < 5
  · rw [if_pos c, if_neg (fun z => by have h1 := Int32.lt_iff_toInt_lt.mp c; have h2 := Int32.lt_iff_toInt_lt.mp z; omega)]
  · rw [if_neg c]
    by_cases c2 : 5 < a
    · rw [if_pos c2]
    · rw [if_neg c2]
      refine Int32.toInt_inj.mp ?_
      have h1 := Int32.not_lt.mp c
      have h2 := Int32.not_lt.mp c2
      have h3 := Int32.le_iff_toInt_le.mp h1
      have h4 := Int32.le_iff_toInt_le.mp h2
      omega
theorem rlR.accept (h : rlR B σ μ) {c o : Nat} {t : Int32} (hc : c < nC σ) (ho : o < nO σ) (h6 : σ 6 c 6 = nI o) : rlR B (gst (gst (gst σ 6 c 3 2) 6 c 5 (xMax t (σ 7 o 4))) 7 o 5 2) (gst (gst (gst μ 9 3 c 2) 9 5 c t) 9 9 (8 * o + 4) 2) := by
  have h60 := h.o60
  have h10 := h.c10
  obtain ⟨k0, k1, k2, k3, k6, k7, k8, kz⟩ := h.cab hc
  obtain ⟨⟨a0, a1, a2, a3, a4, a5, a6, a9, a10⟩, b8, ⟨b11, b12, b13, b14⟩, z1, z2⟩ := h.ord ho
  obtain ⟨-, l2, l3, l4⟩ := h.lc hc (by omega) h6
  refine h.upd hc ho (Or.inl h6) (Or.inl l2) ?_ ?_ (h.1.of ?_ ?_ ?_ ?_ ?_ ?_) ?_ ?_ ?_ ?_ ?_ ?_ ?_ ?_ (h.2.2.2.1.of ?_ ?_ ?_ ?_) ?_ ?_
  · simp [nC, gst_app]
  · simp [nO, gst_app]
  · intro f hf; simp [gst_app, hf]
  · intro j; simp [gst_app]
  · simp [gst_app]
  · simp [gst_app]
  · intro f hf; simp [gst_app, hf]
  · intro j; simp [gst_app]
  · intro i f hi; simp [gst_app, hi]
  · intro i f hi; simp [gst_app, hi]
  · intro i k q1 q8 hk
    have n9 : i ≠ 9 := by omega
    have n10 : i ≠ 10 := by omega
    have n11 : i ≠ 11 := by omega
    simp [gst_app, hk, n9, n10, n11]
  · intro i k hk hi; simp [gst_app, mT_i, mT_t, mT_8, hk, hi]
  · intro i hi; simp [gst_app, hi]
  · intro i j hj hi; simp [gst_app]
  · exact ⟨by simpa [gst_app] using k0, by simpa [gst_app] using k1, by simpa [gst_app] using k2, by simp [gst_app], by simpa [gst_app] using k6, by simpa [gst_app] using k7, by simpa [gst_app] using k8, by simpa [gst_app] using kz⟩
  · exact ⟨⟨by simpa [gst_app, mT_i, mT_t, mT_8] using a0, by simpa [gst_app, mT_i, mT_t, mT_8] using a1, by simpa [gst_app, mT_i, mT_t, mT_8] using a2, by simpa [gst_app, mT_i, mT_t, mT_8] using a3, by simpa [gst_app, mT_i, mT_t, mT_8] using a4, by simp [gst_app, mT_t, mT_i], by simpa [gst_app, mT_i, mT_t, mT_8] using a6, by simpa [gst_app, mT_i, mT_t, mT_8] using a9, by simpa [gst_app, mT_i, mT_t, mT_8] using a10⟩, by simpa [gst_app, mT_i, mT_t, mT_8] using b8, ⟨by simpa [gst_app, mT_i, mT_t, mT_8] using b11, by simpa [gst_app, mT_i, mT_t, mT_8] using b12, by simpa [gst_app, mT_i, mT_t, mT_8] using b13, by simpa [gst_app, mT_i, mT_t, mT_8] using b14⟩, by simpa [gst_app, mT_i, mT_t, mT_8] using z1, by simpa [gst_app, mT_i, mT_t, mT_8] using z2⟩
  · simp [nC, gst_app]
  · simp [gst_app]
  · simp [gst_app]
  · intro i hi q
    by_cases e : i = c
    · subst e; exfalso; have q2 : (2 : Int32) = 1 := by simpa [gst_app] using q
      exact absurd q2 (by decide)
    · exact ⟨by simpa [gst_app, e] using q, by simp [gst_app], by simp [gst_app]⟩
  · exact Or.inr ⟨by simp [gst_app, h6], by simp [gst_app, l2], Or.inr (Or.inl (by simp [gst_app])), by simp [gst_app]⟩
  · intro z; exact ⟨fun q => absurd (show (2 : Int32) = 1 by simpa [gst_app] using q) (by decide), fun q => by simp [gst_app, xMax, xMx], fun q => absurd (show (2 : Int32) = 3 by simpa [gst_app] using q) (by decide)⟩
theorem rlR.endA (h : rlR B σ μ) {c o : Nat} {a b : Int32} (hc : c < nC σ) (ho : o < nO σ) (h6 : σ 6 c 6 = nI o) (hs : σ 6 c 3 = 3) : rlR B (gst (gst (gst (gst (gst (gst (gst σ 6 c 7 a) 6 c 8 b) 6 c 2 (σ 7 o 2)) 6 c 6 (-1)) 6 c 3 0) 7 o 5 4) 7 o 10 (σ 0 0 3)) (gst (gst (gst (gst (gst (gst (gst μ 9 9 (8 * o + 4) 4) 9 9 (8 * o + 7) (μ 8 0 1)) 9 7 c a) 9 8 c b) 9 2 c (mT μ o 1)) 9 4 c (-1)) 9 3 c 0) := by
  have h60 := h.o60
  have h10 := h.c10
  obtain ⟨k0, k1, k2, k3, k6, k7, k8, kz⟩ := h.cab hc
  obtain ⟨⟨a0, a1, a2, a3, a4, a5, a6, a9, a10⟩, b8, ⟨b11, b12, b13, b14⟩, z1, z2⟩ := h.ord ho
  obtain ⟨-, l2, l3, l4⟩ := h.lc hc (by omega) h6
  refine h.upd hc ho (Or.inl h6) (Or.inl l2) ?_ ?_ (h.1.of ?_ ?_ ?_ ?_ ?_ ?_) ?_ ?_ ?_ ?_ ?_ ?_ ?_ ?_ (h.2.2.2.1.of ?_ ?_ ?_ ?_) ?_ ?_
  · simp [nC, gst_app]
  · simp [nO, gst_app]
  · intro f hf; simp [gst_app, hf]
  · intro j; simp [gst_app]
  · simp [gst_app]
  · simp [gst_app]
  · intro f hf; simp [gst_app, hf]
  · intro j; simp [gst_app]
  · intro i f hi; simp [gst_app, hi]
  · intro i f hi; simp [gst_app, hi]
  · intro i k q1 q8 hk
    have n9 : i ≠ 9 := by omega
    have n10 : i ≠ 10 := by omega
    have n11 : i ≠ 11 := by omega
    simp [gst_app, hk, n9, n10, n11]
  · intro i k hk hi; simp [gst_app, mT_i, mT_t, mT_8, hk, hi]
  · intro i hi; simp [gst_app, hi]
  · intro i j hj hi; simp [gst_app]
  · exact ⟨by simpa [gst_app] using k0, by simpa [gst_app] using k1, by simpa [gst_app] using a2, by simp [gst_app], by simp [gst_app], by simp [gst_app], by simp [gst_app], by simpa [gst_app] using z2⟩
  · exact ⟨⟨by simpa [gst_app, mT_i, mT_t, mT_8] using a0, by simpa [gst_app, mT_i, mT_t, mT_8] using a1, by simpa [gst_app, mT_i, mT_t, mT_8] using a2, by simpa [gst_app, mT_i, mT_t, mT_8] using a3, by simpa [gst_app, mT_i, mT_t, mT_8] using a4, by simp [gst_app, mT_t, mT_i], by simpa [gst_app, mT_i, mT_t, mT_8] using a6, by simpa [gst_app, mT_i, mT_t, mT_8] using a9, by simpa [gst_app, mT_t, mT_i] using h.now⟩, by simpa [gst_app, mT_i, mT_t, mT_8] using b8, ⟨by simpa [gst_app, mT_i, mT_t, mT_8] using b11, by simpa [gst_app, mT_i, mT_t, mT_8] using b12, by simpa [gst_app, mT_i, mT_t, mT_8] using b13, by simpa [gst_app, mT_i, mT_t, mT_8] using b14⟩, by simpa [gst_app, mT_i, mT_t, mT_8] using z1, by simpa [gst_app, mT_i, mT_t, mT_8] using z2⟩
  · simp [nC, gst_app]
  · simp [gst_app]
  · simp [gst_app]
  · intro i hi q
    by_cases e : i = c
    · subst e; exfalso; have q2 : (0 : Int32) = 1 := by simpa [gst_app] using q
      exact absurd q2 (by decide)
    · exact ⟨by simpa [gst_app, e] using q, by simp [gst_app], by simp [gst_app]⟩
  · exact Or.inl ⟨by simp [gst_app], Or.inl (by simp [gst_app]), Or.inr (Or.inl (by simp [gst_app]))⟩
  · intro z; exfalso; have z2 : (-1 : Int32) = nI o := by simpa [gst_app] using z
    exact nI_nm (by omega) z2.symm
theorem rlR.relA (h : rlR B σ μ) {c o : Nat} (hc : c < nC σ) (ho : o < nO σ) (h6 : σ 6 c 6 = nI o) : rlR B (gst (gst (gst (gst σ 7 o 6 (-1)) 6 c 6 (-1)) 6 c 3 0) 7 o 5 5) (gst (gst (gst (gst μ 9 4 c (-1)) 9 3 c 0) 9 9 (8 * o + 4) 5) 9 9 (8 * o + 5) (-1)) := by
  have h60 := h.o60
  have h10 := h.c10
  obtain ⟨k0, k1, k2, k3, k6, k7, k8, kz⟩ := h.cab hc
  obtain ⟨⟨a0, a1, a2, a3, a4, a5, a6, a9, a10⟩, b8, ⟨b11, b12, b13, b14⟩, z1, z2⟩ := h.ord ho
  obtain ⟨-, l2, l3, l4⟩ := h.lc hc (by omega) h6
  refine h.upd hc ho (Or.inl h6) (Or.inl l2) ?_ ?_ (h.1.of ?_ ?_ ?_ ?_ ?_ ?_) ?_ ?_ ?_ ?_ ?_ ?_ ?_ ?_ (h.2.2.2.1.of ?_ ?_ ?_ ?_) ?_ ?_
  · simp [nC, gst_app]
  · simp [nO, gst_app]
  · intro f hf; simp [gst_app, hf]
  · intro j; simp [gst_app]
  · simp [gst_app]
  · simp [gst_app]
  · intro f hf; simp [gst_app, hf]
  · intro j; simp [gst_app]
  · intro i f hi; simp [gst_app, hi]
  · intro i f hi; simp [gst_app, hi]
  · intro i k q1 q8 hk
    have n9 : i ≠ 9 := by omega
    have n10 : i ≠ 10 := by omega
    have n11 : i ≠ 11 := by omega
    simp [gst_app, hk, n9, n10, n11]
  · intro i k hk hi; simp [gst_app, mT_i, mT_t, mT_8, hk, hi]
  · intro i hi; simp [gst_app, hi]
  · intro i j hj hi; simp [gst_app]
  · exact ⟨by simpa [gst_app] using k0, by simpa [gst_app] using k1, by simpa [gst_app] using k2, by simp [gst_app], by simp [gst_app], by simpa [gst_app] using k7, by simpa [gst_app] using k8, by simpa [gst_app] using kz⟩
  · exact ⟨⟨by simpa [gst_app, mT_i, mT_t, mT_8] using a0, by simpa [gst_app, mT_i, mT_t, mT_8] using a1, by simpa [gst_app, mT_i, mT_t, mT_8] using a2, by simpa [gst_app, mT_i, mT_t, mT_8] using a3, by simpa [gst_app, mT_i, mT_t, mT_8] using a4, by simp [gst_app, mT_t, mT_i], by simp [gst_app, mT_t, mT_i], by simpa [gst_app, mT_i, mT_t, mT_8] using a9, by simpa [gst_app, mT_i, mT_t, mT_8] using a10⟩, by simpa [gst_app, mT_i, mT_t, mT_8] using b8, ⟨by simpa [gst_app, mT_i, mT_t, mT_8] using b11, by simpa [gst_app, mT_i, mT_t, mT_8] using b12, by simpa [gst_app, mT_i, mT_t, mT_8] using b13, by simpa [gst_app, mT_i, mT_t, mT_8] using b14⟩, by simpa [gst_app, mT_i, mT_t, mT_8] using z1, by simpa [gst_app, mT_i, mT_t, mT_8] using z2⟩
  · simp [nC, gst_app]
  · simp [gst_app]
  · simp [gst_app]
  · intro i hi q
    by_cases e : i = c
    · subst e; exfalso; have q2 : (0 : Int32) = 1 := by simpa [gst_app] using q
      exact absurd q2 (by decide)
    · exact ⟨by simpa [gst_app, e] using q, by simp [gst_app], by simp [gst_app]⟩
  · exact Or.inl ⟨by simp [gst_app], Or.inl (by simp [gst_app]), Or.inr (Or.inr (by simp [gst_app]))⟩
  · intro z; exfalso; have z2 : (-1 : Int32) = nI o := by simpa [gst_app] using z
    exact nI_nm (by omega) z2.symm
theorem rlR.relO (h : rlR B σ μ) {c o : Nat} (hc : c < nC σ) (ho : o < nO σ) (h6 : σ 6 c 6 = nI o) (h1 : σ 6 c 3 = 1) : rlR B (gst (gst (gst σ 7 o 6 (-1)) 6 c 6 (-1)) 7 o 5 5) (gst (gst (gst μ 9 4 c (-1)) 9 9 (8 * o + 4) 5) 9 9 (8 * o + 5) (-1)) := by
  have h60 := h.o60
  have h10 := h.c10
  obtain ⟨k0, k1, k2, k3, k6, k7, k8, kz⟩ := h.cab hc
  obtain ⟨⟨a0, a1, a2, a3, a4, a5, a6, a9, a10⟩, b8, ⟨b11, b12, b13, b14⟩, z1, z2⟩ := h.ord ho
  obtain ⟨-, l2, l3, l4⟩ := h.lc hc (by omega) h6
  refine h.upd hc ho (Or.inl h6) (Or.inl l2) ?_ ?_ (h.1.of ?_ ?_ ?_ ?_ ?_ ?_) ?_ ?_ ?_ ?_ ?_ ?_ ?_ ?_ (h.2.2.2.1.of ?_ ?_ ?_ ?_) ?_ ?_
  · simp [nC, gst_app]
  · simp [nO, gst_app]
  · intro f hf; simp [gst_app, hf]
  · intro j; simp [gst_app]
  · simp [gst_app]
  · simp [gst_app]
  · intro f hf; simp [gst_app, hf]
  · intro j; simp [gst_app]
  · intro i f hi; simp [gst_app, hi]
  · intro i f hi; simp [gst_app, hi]
  · intro i k q1 q8 hk
    have n9 : i ≠ 9 := by omega
    have n10 : i ≠ 10 := by omega
    have n11 : i ≠ 11 := by omega
    simp [gst_app, hk, n9, n10, n11]
  · intro i k hk hi; simp [gst_app, mT_i, mT_t, mT_8, hk, hi]
  · intro i hi; simp [gst_app, hi]
  · intro i j hj hi; simp [gst_app]
  · exact ⟨by simpa [gst_app] using k0, by simpa [gst_app] using k1, by simpa [gst_app] using k2, by simpa [gst_app] using k3, by simp [gst_app], by simpa [gst_app] using k7, by simpa [gst_app] using k8, by simpa [gst_app] using kz⟩
  · exact ⟨⟨by simpa [gst_app, mT_i, mT_t, mT_8] using a0, by simpa [gst_app, mT_i, mT_t, mT_8] using a1, by simpa [gst_app, mT_i, mT_t, mT_8] using a2, by simpa [gst_app, mT_i, mT_t, mT_8] using a3, by simpa [gst_app, mT_i, mT_t, mT_8] using a4, by simp [gst_app, mT_t, mT_i], by simp [gst_app, mT_t, mT_i], by simpa [gst_app, mT_i, mT_t, mT_8] using a9, by simpa [gst_app, mT_i, mT_t, mT_8] using a10⟩, by simpa [gst_app, mT_i, mT_t, mT_8] using b8, ⟨by simpa [gst_app, mT_i, mT_t, mT_8] using b11, by simpa [gst_app, mT_i, mT_t, mT_8] using b12, by simpa [gst_app, mT_i, mT_t, mT_8] using b13, by simpa [gst_app, mT_i, mT_t, mT_8] using b14⟩, by simpa [gst_app, mT_i, mT_t, mT_8] using z1, by simpa [gst_app, mT_i, mT_t, mT_8] using z2⟩
  · simp [nC, gst_app]
  · simp [gst_app]
  · simp [gst_app]
  · intro i hi q; exact ⟨by simpa [gst_app] using q, by simp [gst_app], by simp [gst_app]⟩
  · exact Or.inl ⟨by simp [gst_app], Or.inr (by simp [gst_app, h1]), Or.inr (Or.inr (by simp [gst_app]))⟩
  · intro z; exfalso; have z2 : (-1 : Int32) = nI o := by simpa [gst_app] using z
    exact nI_nm (by omega) z2.symm
theorem rlR.settleO (h : rlR B σ μ) {c o : Nat} {v : Int32} (hc : c < nC σ) (ho : o < nO σ) (h6 : σ 6 c 6 = nI o) : rlR B (gst σ 6 c 8 v) (gst μ 9 8 c v) := by
  have h60 := h.o60
  have h10 := h.c10
  obtain ⟨k0, k1, k2, k3, k6, k7, k8, kz⟩ := h.cab hc
  obtain ⟨⟨a0, a1, a2, a3, a4, a5, a6, a9, a10⟩, b8, ⟨b11, b12, b13, b14⟩, z1, z2⟩ := h.ord ho
  obtain ⟨-, l2, l3, l4⟩ := h.lc hc (by omega) h6
  refine h.upd hc ho (Or.inl h6) (Or.inl l2) ?_ ?_ (h.1.of ?_ ?_ ?_ ?_ ?_ ?_) ?_ ?_ ?_ ?_ ?_ ?_ ?_ ?_ (h.2.2.2.1.of ?_ ?_ ?_ ?_) ?_ ?_
  · simp [nC, gst_app]
  · simp [nO, gst_app]
  · intro f hf; simp [gst_app, hf]
  · intro j; simp [gst_app]
  · simp [gst_app]
  · simp [gst_app]
  · intro f hf; simp [gst_app, hf]
  · intro j; simp [gst_app]
  · intro i f hi; simp [gst_app, hi]
  · intro i f hi; simp [gst_app, hi]
  · intro i k q1 q8 hk
    have n9 : i ≠ 9 := by omega
    have n10 : i ≠ 10 := by omega
    have n11 : i ≠ 11 := by omega
    simp [gst_app, hk, n9, n10, n11]
  · intro i k hk hi; simp [gst_app, mT_i, mT_t, mT_8, hk, hi]
  · intro i hi; simp [gst_app, hi]
  · intro i j hj hi; simp [gst_app]
  · exact ⟨by simpa [gst_app] using k0, by simpa [gst_app] using k1, by simpa [gst_app] using k2, by simpa [gst_app] using k3, by simpa [gst_app] using k6, by simpa [gst_app] using k7, by simp [gst_app], by simpa [gst_app] using kz⟩
  · exact ⟨⟨by simpa [gst_app, mT_i, mT_t, mT_8] using a0, by simpa [gst_app, mT_i, mT_t, mT_8] using a1, by simpa [gst_app, mT_i, mT_t, mT_8] using a2, by simpa [gst_app, mT_i, mT_t, mT_8] using a3, by simpa [gst_app, mT_i, mT_t, mT_8] using a4, by simpa [gst_app, mT_i, mT_t, mT_8] using a5, by simpa [gst_app, mT_i, mT_t, mT_8] using a6, by simpa [gst_app, mT_i, mT_t, mT_8] using a9, by simpa [gst_app, mT_i, mT_t, mT_8] using a10⟩, by simpa [gst_app, mT_i, mT_t, mT_8] using b8, ⟨by simpa [gst_app, mT_i, mT_t, mT_8] using b11, by simpa [gst_app, mT_i, mT_t, mT_8] using b12, by simpa [gst_app, mT_i, mT_t, mT_8] using b13, by simpa [gst_app, mT_i, mT_t, mT_8] using b14⟩, by simpa [gst_app, mT_i, mT_t, mT_8] using z1, by simpa [gst_app, mT_i, mT_t, mT_8] using z2⟩
  · simp [nC, gst_app]
  · simp [gst_app]
  · simp [gst_app]
  · intro i hi q; exact ⟨by simpa [gst_app] using q, by simp [gst_app], by simp [gst_app]⟩
  · exact Or.inr ⟨by simp [gst_app, h6], by simp [gst_app, l2], by simpa [gst_app] using l3, by simpa [gst_app] using l4⟩
  · intro z; have hm := h.2.2.2.2.2.1 c o hc ho h6; exact ⟨fun q => by simpa [gst_app] using hm.1 (by simpa [gst_app] using q), fun q => by simpa [gst_app] using hm.2.1 (by simpa [gst_app] using q), fun q => by simpa [gst_app] using hm.2.2 (by simpa [gst_app] using q)⟩
theorem rlR.begin (h : rlR B σ μ) {c o : Nat} (hc : c < nC σ) (ho : o < nO σ) (h6 : σ 6 c 6 = nI o) (hs : σ 6 c 3 = 2) : rlR B (xBegin σ c o) (mRide μ c o) := by
  have h60 := h.o60
  have h10 := h.c10
  obtain ⟨k0, k1, k2, k3, k6, k7, k8, kz⟩ := h.cab hc
  obtain ⟨⟨a0, a1, a2, a3, a4, a5, a6, a9, a10⟩, b8, ⟨b11, b12, b13, b14⟩, z1, z2⟩ := h.ord ho
  obtain ⟨-, l2, l3, l4⟩ := h.lc hc (by omega) h6
  have ew : mWay μ (mT μ o 0) (mT μ o 1) = xWay σ (σ 7 o 1) (σ 7 o 2) := by rw [← a1, ← a2]; exact (h.xway z1 z2).symm
  refine h.upd hc ho (Or.inl h6) (Or.inl l2) ?_ ?_ (h.1.of ?_ ?_ ?_ ?_ ?_ ?_) ?_ ?_ ?_ ?_ ?_ ?_ ?_ ?_ (h.2.2.2.1.of ?_ ?_ ?_ ?_) ?_ ?_
  · simp [nC, gst_app, xBegin, xMeter, mRide]
  · simp [nO, gst_app, xBegin, xMeter, mRide]
  · intro f hf; simp [gst_app, xBegin, xMeter, mRide, hf]
  · intro j; simp [gst_app, xBegin, xMeter, mRide]
  · simp [gst_app, xBegin, xMeter, mRide]
  · simp [gst_app, xBegin, xMeter, mRide]
  · intro f hf; simp [gst_app, xBegin, xMeter, mRide, hf]
  · intro j; simp [gst_app, xBegin, xMeter, mRide]
  · intro i f hi; simp [gst_app, xBegin, xMeter, mRide, hi]
  · intro i f hi; simp [gst_app, xBegin, xMeter, mRide, hi]
  · intro i k q1 q8 hk
    have n9 : i ≠ 9 := by omega
    have n10 : i ≠ 10 := by omega
    have n11 : i ≠ 11 := by omega
    simp [gst_app, xBegin, xMeter, mRide, hk, n9, n10, n11]
  · intro i k hk hi; simp [gst_app, xBegin, xMeter, mRide, mT_i, mT_t, mT_8, hk, hi]
  · intro i hi; simp [gst_app, xBegin, xMeter, mRide, hi]
  · intro i j hj hi
    have q0 : 4 * i + j ≠ 4 * o := by omega
    have q1 : 4 * i + j ≠ 4 * o + 1 := by omega
    have q2 : 4 * i + j ≠ 4 * o + 2 := by omega
    have q3 : 4 * i + j ≠ 4 * o + 3 := by omega
    simp [gst_app, xBegin, xMeter, mRide, q0, q1, q2, q3]
  · exact ⟨by simpa [gst_app, xBegin, xMeter, mRide] using k0, by simpa [gst_app, xBegin, xMeter, mRide] using k1, by simpa [gst_app, xBegin, xMeter, mRide] using a1, by simp [gst_app, xBegin, xMeter, mRide], by simpa [gst_app, xBegin, xMeter, mRide] using k6, by simpa [gst_app, xBegin, xMeter, mRide] using k7, by simpa [gst_app, xBegin, xMeter, mRide] using k8, by simpa [gst_app, xBegin, xMeter, mRide] using z1⟩
  · exact ⟨⟨by simpa [gst_app, xBegin, xMeter, mRide, mT_i, mT_t, mT_8] using a0, by simpa [gst_app, xBegin, xMeter, mRide, mT_i, mT_t, mT_8] using a1, by simpa [gst_app, xBegin, xMeter, mRide, mT_i, mT_t, mT_8] using a2, by simpa [gst_app, xBegin, xMeter, mRide, mT_i, mT_t, mT_8] using a3, by simpa [gst_app, xBegin, xMeter, mRide, mT_i, mT_t, mT_8] using a4, by simp [gst_app, xBegin, xMeter, mRide, mT_t, mT_i], by simpa [gst_app, xBegin, xMeter, mRide, mT_i, mT_t, mT_8] using a6, by simpa [gst_app, xBegin, xMeter, mRide, mT_t, mT_i] using h.now, by simpa [gst_app, xBegin, xMeter, mRide, mT_i, mT_t, mT_8] using a10⟩, by simpa [gst_app, xBegin, xMeter, mRide, mT_i, mT_t, mT_8] using b8, ⟨by simpa [gst_app, xBegin, xMeter, mRide] using h.base, by simp [gst_app, xBegin, xMeter, mRide, ew, h.rate], by simp [gst_app, xBegin, xMeter, mRide, min_5, h.now, a4], by simp [gst_app, xBegin, xMeter, mRide, ew, h.now, h.base, h.rate]⟩, by simpa [gst_app, xBegin, xMeter, mRide, mT_i, mT_t, mT_8] using z1, by simpa [gst_app, xBegin, xMeter, mRide, mT_i, mT_t, mT_8] using z2⟩
  · simp [nC, gst_app, xBegin, xMeter, mRide]
  · simp [gst_app, xBegin, xMeter, mRide]
  · simp [gst_app, xBegin, xMeter, mRide]
  · intro i hi q
    by_cases e : i = c
    · subst e; exfalso; have q2 : (3 : Int32) = 1 := by simpa [gst_app, xBegin, xMeter, mRide] using q
      exact absurd q2 (by decide)
    · exact ⟨by simpa [gst_app, xBegin, xMeter, mRide, e] using q, by simp [gst_app, xBegin, xMeter, mRide], by simp [gst_app, xBegin, xMeter, mRide]⟩
  · exact Or.inr ⟨by simp [gst_app, xBegin, xMeter, mRide, h6], by simp [gst_app, xBegin, xMeter, mRide, l2], Or.inr (Or.inr (by simp [gst_app, xBegin, xMeter, mRide])), by simp [gst_app, xBegin, xMeter, mRide]⟩
  · intro z; exact ⟨fun q => absurd (show (3 : Int32) = 1 by simpa [gst_app, xBegin, xMeter, mRide] using q) (by decide), fun q => absurd (show (3 : Int32) = 2 by simpa [gst_app, xBegin, xMeter, mRide] using q) (by decide), fun q => by simp [gst_app, xBegin, xMeter, mRide, ew, h.now]⟩
end STEPS3
