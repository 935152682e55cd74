/-! the same order is offered -/
theorem rOffN_s {ρ : Mem} : ∀ n, rOffN n (rOff1 ρ) = rOffN (n + 1) ρ
  | 0 => rfl
  | n + 1 => by
    show rOff1 (rOffN n (rOff1 ρ)) = rOff1 (rOffN (n + 1) ρ)
    rw [rOffN_s n]
def pWt (σ : Mem) (o : Nat) : Prop := xLook σ o = true ∧ ¬ xCabFor σ o = -1
/-- nothing is left to offer -/
def pNW (σ : Mem) : Prop := ∀ o, o < nO σ → ¬ pWt σ o
def pBo (σ : Mem) (o : Nat) : Prop := o < nO σ ∧ pWt σ o ∧ ∀ j, j < nO σ → pWt σ j → σ 7 o 4 < σ 7 j 4 ∨ (σ 7 o 4 = σ 7 j 4 ∧ o ≤ j)
def xIdN (σ : Mem) : Nat → Nat
  | 0 => 0
  | n + 1 => xIdN σ n + (if xIdle σ n = true then 1 else 0)
theorem xIdN_pos {σ : Mem} {c : Nat} (h : xIdle σ c = true) : ∀ n, c < n → 1 ≤ xIdN σ n
  | 0, hn => absurd hn (Nat.not_lt_zero _)
  | n + 1, hn => by
    rw [xIdN]
    by_cases e : c = n
    · subst e
      rw [if_pos h]; omega
    · have := xIdN_pos h n (by omega)
      omega
theorem xIdN_lt {σ σ' : Mem} {c : Nat} (h : ∀ k, k ≠ c → xIdle σ' k = xIdle σ k) (h1 : xIdle σ c = true) (h2 : ¬ xIdle σ' c = true) : ∀ n, (n ≤ c → xIdN σ' n = xIdN σ n) ∧ (c < n → xIdN σ' n + 1 = xIdN σ n)
  | 0 => ⟨fun _ => rfl, fun q => absurd q (Nat.not_lt_zero _)⟩
  | n + 1 => by
    obtain ⟨i1, i2⟩ := xIdN_lt h h1 h2 n
    refine ⟨fun q => ?_, fun q => ?_⟩
    · rw [xIdN, xIdN, i1 (by omega), h n (by omega)]
    · rw [xIdN, xIdN]
      by_cases e : n = c
      · subst e
        rw [i1 (Nat.le_refl _), if_pos h1, if_neg h2]
      · have := i2 (by omega)
        rw [h n e]
        omega
theorem xIdN_le (σ : Mem) : ∀ n, xIdN σ n ≤ n
  | 0 => Nat.le_refl _
  | n + 1 => by
    have := xIdN_le σ n
    rw [xIdN]
    split <;> omega
theorem nC_g {σ : Mem} {k i f : Nat} {v : Int32} (h : k ≠ 2) : nC (gst σ k i f v) = nC σ := by unfold nC; rw [gst_nk (Ne.symm h)]
theorem nO_g {σ : Mem} {k i f : Nat} {v : Int32} (h : k ≠ 3) : nO (gst σ k i f v) = nO σ := by unfold nO; rw [gst_nk (Ne.symm h)]
theorem pA.of {t : Nat} {σ ρ σ' ρ' : Mem} (h : pA t σ ρ) (s0 : σ' 0 0 3 = σ 0 0 3) (s1 : ∀ j, σ' 1 0 j = σ 1 0 j) (s2 : σ' 2 0 2 = σ 2 0 2) (s3 : σ' 3 0 2 = σ 3 0 2) (t6 : ρ' 8 0 6 = ρ 8 0 6) (t7 : ρ' 8 0 7 = ρ 8 0 7) (t8 : ρ' 8 0 8 = ρ 8 0 8) (t15 : ∀ a b, ρ' 15 a b = ρ 15 a b) (t19 : ∀ o f, nO σ ≤ o → ρ' 19 o f = ρ 19 o f) : pA t σ' ρ' := by
  have eC : nC σ' = nC σ := by unfold nC; rw [s2]
  have eO : nO σ' = nO σ := by unfold nO; rw [s3]
  unfold pA
  rw [eC, eO, s2, s3, t6, t7, s0, t8]
  refine ⟨h.1, ⟨h.2.1.1, h.2.1.2.1, fun o f ho => by rw [t19 o f ho]; exact h.2.1.2.2 o f ho⟩, h.2.2.1, fun a b ha hb => ?_⟩
  rw [s1, t15]
  exact h.2.2.2 a b ha hb
section OFFER
variable {t : Nat} {ag : Nat → Nat} {hs : Nat → Nat × Bool} {B : Nat} {σ ρ : Mem}
theorem pBo_inj {o j : Nat} (h : pBo σ o) (k : pBo σ j) : o = j := by
  have a := h.2.2 j k.1 k.2.1
  have b := k.2.2 o h.1 h.2.1
  rcases a with a | ⟨a, a2⟩
  · rcases b with b | ⟨b, -⟩
    · exact absurd (Int32.lt_iff_toInt_lt.mp a) (by have := Int32.lt_iff_toInt_lt.mp b; omega)
    · rw [b] at a; exact absurd (Int32.lt_iff_toInt_lt.mp a) (by omega)
  · rcases b with b | ⟨b, b2⟩
    · rw [a] at b; exact absurd (Int32.lt_iff_toInt_lt.mp b) (by omega)
    · omega
theorem pR.nx (h : pR t ag hs B σ ρ) : ((xNx σ).1 = -1 ∧ pNW σ) ∨ ∃ o, (xNx σ).1 = nI o ∧ (xNx σ).2 = xCabFor σ o ∧ pBo σ o := by
  have h60 := h.o60
  have go : ∀ (r k : Nat) (nx ch : Int32), k + r = nO σ →
      ((nx = -1 ∧ ∀ j, j < k → ¬ pWt σ j) ∨ ∃ o, o < k ∧ nx = nI o ∧ ch = xCabFor σ o ∧ pWt σ o ∧ ∀ j, j < k → pWt σ j → σ 7 o 4 < σ 7 j 4 ∨ (σ 7 o 4 = σ 7 j 4 ∧ o ≤ j)) →
      ((xNxGo σ r k nx ch).1 = -1 ∧ pNW σ) ∨ ∃ o, (xNxGo σ r k nx ch).1 = nI o ∧ (xNxGo σ r k nx ch).2 = xCabFor σ o ∧ pBo σ o := by
    intro r
    induction r with
    | zero =>
      intro k nx ch hk hb
      obtain rfl : k = nO σ := by omega
      rcases hb with ⟨q1, q2⟩ | ⟨o, q1, q2, q3, q4, q5⟩
      · exact Or.inl ⟨q1, q2⟩
      · exact Or.inr ⟨o, q2, q3, q1, q4, q5⟩
    | succ r ih =>
      intro k nx ch hk hb
      have hkeepN : ¬ pWt σ k → ((xNxGo σ r (k + 1) nx ch).1 = -1 ∧ pNW σ) ∨ ∃ o, (xNxGo σ r (k + 1) nx ch).1 = nI o ∧ (xNxGo σ r (k + 1) nx ch).2 = xCabFor σ o ∧ pBo σ o := fun hn => by
        refine ih (k + 1) nx ch (by omega) ?_
        rcases hb with ⟨q1, q2⟩ | ⟨o, q1, q2, q3, q4, q5⟩
        · exact Or.inl ⟨q1, fun j hj => by
            by_cases e : j = k
            · subst e; exact hn
            · exact q2 j (by omega)⟩
        · exact Or.inr ⟨o, by omega, q2, q3, q4, fun j hj hw => by
            by_cases e : j = k
            · subst e; exact absurd hw hn
            · exact q5 j (by omega) hw⟩
      simp only [xNxGo]
      by_cases c1 : xLook σ k = true
      · rw [if_pos c1]
        by_cases c3 : xCabFor σ k = -1
        · have hn : ¬ pWt σ k := fun q => q.2 c3
          rw [if_pos c3]
          repeat' split
          all_goals exact hkeepN hn
        · have hw : pWt σ k := ⟨c1, c3⟩
          rw [if_neg c3]
          rcases hb with ⟨q1, q2⟩ | ⟨o, q1, q2, q3, q4, q5⟩
          · rw [if_pos q1]
            refine ih (k + 1) (nI k) (xCabFor σ k) (by omega) (Or.inr ⟨k, by omega, rfl, rfl, hw, fun j hj hwj => ?_⟩)
            by_cases e : j = k
            · subst e; exact Or.inr ⟨rfl, Nat.le_refl _⟩
            · exact absurd hwj (q2 j (by omega))
          · have hnx : ¬ nx = -1 := by rw [q2]; exact nI_nm (by omega)
            have hix : ix nx = o := by rw [q2]; exact ix_nI (by omega)
            rw [if_neg hnx, hix]
            by_cases c5 : σ 7 o 4 ≤ σ 7 k 4
            · rw [if_pos c5]
              refine ih (k + 1) nx ch (by omega) (Or.inr ⟨o, by omega, q2, q3, q4, fun j hj hwj => ?_⟩)
              by_cases e : j = k
              · subst e
                by_cases e4 : σ 7 o 4 = σ 7 j 4
                · exact Or.inr ⟨e4, by omega⟩
                · exact Or.inl (Int32.lt_of_le_of_ne c5 e4)
              · exact q5 j (by omega) hwj
            · rw [if_neg c5]
              have hlt := Int32.not_le.mp c5
              refine ih (k + 1) (nI k) (xCabFor σ k) (by omega) (Or.inr ⟨k, by omega, rfl, rfl, hw, fun j hj hwj => ?_⟩)
              by_cases e : j = k
              · subst e; exact Or.inr ⟨rfl, Nat.le_refl _⟩
              · rcases q5 j (by omega) hwj with q | q
                · exact Or.inl (Int32.lt_trans hlt q)
                · exact Or.inl (q.1 ▸ hlt)
      · rw [if_neg c1]
        exact hkeepN (fun q => c1 q.1)
  exact go (nO σ) 0 (-1) (-1) (by omega) (Or.inl ⟨rfl, fun j hj => absurd hj (Nat.not_lt_zero _)⟩)
theorem pR.be (h : pR t ag hs B σ ρ) (hB : B < 2 ^ 31) : (rBest ρ = -1 ∧ pNW σ) ∨ ∃ o, rBest ρ = nI o ∧ pBo σ o := by
  have h60 := h.o60
  have h10 := h.c10
  have go : ∀ (n : Nat) (best : Int32), n ≤ nO σ →
      ((best = -1 ∧ ∀ j, n ≤ j → j < nO σ → ¬ pWt σ j) ∨ ∃ o, n ≤ o ∧ o < nO σ ∧ best = nI o ∧ pWt σ o ∧ ∀ j, n ≤ j → j < nO σ → pWt σ j → σ 7 o 4 < σ 7 j 4 ∨ (σ 7 o 4 = σ 7 j 4 ∧ o ≤ j)) →
      (rBeGo ρ n best = -1 ∧ pNW σ) ∨ ∃ o, rBeGo ρ n best = nI o ∧ pBo σ o := by
    intro n
    induction n with
    | zero =>
      intro best hn hb
      rcases hb with ⟨q1, q2⟩ | ⟨o, q0, q1, q2, q3, q4⟩
      · exact Or.inl ⟨q1, fun j hj => q2 j (Nat.zero_le _) hj⟩
      · exact Or.inr ⟨o, q2, q1, q3, fun j hj hw => q4 j (Nat.zero_le _) hj hw⟩
    | succ n ih =>
      intro best hn hb
      have hno : n < nO σ := by omega
      obtain ⟨⟨-, -, -, -, e4, e5, -⟩, -⟩ := h.ord hno
      obtain ⟨ecf, hcf⟩ := h.cf hB hno
      have hwn : pWt σ n ↔ (ρ 17 n 4 = 0 ∧ ¬ ρ 8 0 8 < ρ 17 n 3 - 15 ∧ ¬ rCh ρ n < 0) := by
        unfold pWt xLook
        rw [ecf, ← e5, ← e4, h.rnow, ← h.now]
        have hm : xCabFor σ n = -1 ↔ xCabFor σ n < 0 := by
          rcases hcf with ⟨q, -⟩ | ⟨c, q, hc, -⟩
          · rw [q]; exact ⟨fun _ => by decide, fun _ => rfl⟩
          · rw [q]; exact ⟨fun z => absurd z (nI_nm (by omega)), fun z => absurd z (nI_pos (by omega))⟩
        rw [hm]
        by_cases c1 : σ 7 n 5 = 0
        · rw [if_pos c1]
          by_cases c2 : σ 0 0 3 < σ 7 n 4 - 15
          · rw [if_pos c2]; exact ⟨fun q => (nomatch q.1), fun q => absurd c2 q.2.1⟩
          · rw [if_neg c2]; exact ⟨fun q => ⟨c1, c2, q.2⟩, fun q => ⟨rfl, q.2.2⟩⟩
        · rw [if_neg c1]; exact ⟨fun q => (nomatch q.1), fun q => absurd q.1 c1⟩
      have hkeepN : ¬ pWt σ n → (rBeGo ρ n best = -1 ∧ pNW σ) ∨ ∃ o, rBeGo ρ n best = nI o ∧ pBo σ o := fun hw => by
        refine ih best (by omega) ?_
        rcases hb with ⟨q1, q2⟩ | ⟨o, q0, q1, q2, q3, q4⟩
        · exact Or.inl ⟨q1, fun j h1 h2 => by
            by_cases e : j = n
            · subst e; exact hw
            · exact q2 j (by omega) h2⟩
        · exact Or.inr ⟨o, by omega, q1, q2, q3, fun j h1 h2 h3 => by
            by_cases e : j = n
            · subst e; exact absurd h3 hw
            · exact q4 j (by omega) h2 h3⟩
      simp only [rBeGo]
      by_cases c1 : ρ 17 n 4 = 0
      · rw [if_pos c1]
        by_cases c2 : ρ 8 0 8 < ρ 17 n 3 - 15
        · rw [if_pos c2]; exact hkeepN (fun q => (hwn.mp q).2.1 c2)
        · rw [if_neg c2]
          by_cases c3 : rCh ρ n < 0
          · rw [if_pos c3]; exact hkeepN (fun q => (hwn.mp q).2.2 c3)
          · rw [if_neg c3]
            have hw : pWt σ n := hwn.mpr ⟨c1, c2, c3⟩
            rcases hb with ⟨q1, q2⟩ | ⟨o, q0, q1, q2, q3, q4⟩
            · rw [if_pos (by rw [q1]; decide)]
              refine ih (nI n) (by omega) (Or.inr ⟨n, Nat.le_refl _, hno, rfl, hw, fun j h1 h2 h3 => ?_⟩)
              by_cases e : j = n
              · subst e; exact Or.inr ⟨rfl, Nat.le_refl _⟩
              · exact absurd h3 (q2 j (by omega) h2)
            · have hix : ix best = o := by rw [q2]; exact ix_nI (by omega)
              obtain ⟨⟨-, -, -, -, f4, -⟩, -⟩ := h.ord q1
              rw [if_neg (by rw [q2]; exact nI_pos (by omega)), hix, ← f4, ← e4]
              by_cases c5 : σ 7 o 4 < σ 7 n 4
              · rw [if_pos c5]
                refine ih best (by omega) (Or.inr ⟨o, by omega, q1, q2, q3, fun j h1 h2 h3 => ?_⟩)
                by_cases e : j = n
                · subst e; exact Or.inl c5
                · exact q4 j (by omega) h2 h3
              · rw [if_neg c5]
                have hle := Int32.not_lt.mp c5
                refine ih (nI n) (by omega) (Or.inr ⟨n, Nat.le_refl _, hno, rfl, hw, fun j h1 h2 h3 => ?_⟩)
                by_cases e : j = n
                · subst e; exact Or.inr ⟨rfl, Nat.le_refl _⟩
                · rcases q4 j (by omega) h2 h3 with q | q
                  · exact Or.inl (Int32.lt_of_le_of_lt hle q)
                  · by_cases e4' : σ 7 n 4 = σ 7 j 4
                    · exact Or.inr ⟨e4', h1⟩
                    · exact Or.inl (Int32.lt_of_le_of_ne (q.1 ▸ hle) e4')
      · rw [if_neg c1]; exact hkeepN (fun q => c1 (hwn.mp q).1)
  unfold rBest
  rw [h.1.2.1.2.1, ix_nI (by omega)]
  exact go (nO σ) (-1) (Nat.le_refl _) (Or.inl ⟨rfl, fun j h1 h2 => by omega⟩)
theorem nI_sub15 {a d : Nat} (ha : a < 100000) (hd : d < 100000) (h : ¬ nI a < nI d - 15) : d ≤ a + 15 := by
  rcases Nat.lt_or_ge (a + 15) d with q | q
  · exfalso
    apply h
    rw [show (15 : Int32) = nI 15 from rfl, pk_sub (by omega)]
    exact nI_lt (by omega) (by omega)
  · exact q
theorem pR.offer (h : pR t ag hs B σ ρ) {o c : Nat} (ho : o < nO σ) (hl : xLook σ o = true) (hcan : xCan σ o c = true) (hc : c < nC σ) :
    pR t ag hs B (gst (gst (gst (gst σ 7 o 5 1) 7 o 6 (nI c)) 7 o 7 (σ 0 0 3)) 6 c 6 (nI o)) (gst (gst (gst (gst ρ 16 c 3 (nI o)) 16 c 4 (ρ 8 0 8)) 17 o 4 1) 17 o 5 (nI c)) := by
  have h60 := h.o60
  have h10 := h.c10
  obtain ⟨c1, c6⟩ := xCan_1 hcan
  obtain ⟨k1, k2, k3⟩ := (h.can ho hc c1).mp hcan
  obtain ⟨hs0, hd0⟩ : σ 7 o 5 = 0 ∧ ¬ σ 0 0 3 < σ 7 o 4 - 15 := by
    unfold xLook at hl
    split at hl
    · next q =>
      split at hl
      · cases hl
      · next q2 => exact ⟨q, q2⟩
    · cases hl
  obtain ⟨a0, a1, a2, a3, a6, az⟩ := h.cab hc
  obtain ⟨⟨b0, b1, b2, b3, b4, b5, b6⟩, bz1, bz2⟩ := h.ord ho
  obtain ⟨d, d1, d2, d3, d4⟩ := h.tim ho
  have hw7 : σ 7 o 6 = -1 := by
    rcases h.l2 ho with q | ⟨c', hc', q1, q2⟩ | q | q
    · exact q.2
    · obtain ⟨-, -, l2, l3⟩ := h.lc hc' (by omega) q1
      rw [hs0] at l2
      rw [← l2] at l3
      rcases l3 with ⟨q, -⟩ | ⟨q, -⟩ | ⟨q, -⟩ <;> exact absurd q (by decide)
    · rw [hs0] at q; exact absurd q (by decide)
    · rw [hs0] at q; exact absurd q (by decide)
  have hdt : d ≤ t + 15 := by
    rw [h.now, d2] at hd0
    exact nI_sub15 (by have := h.t9; omega) (by omega) hd0
  refine h.upd hc ho (Or.inr c6) (Or.inr hw7) ?_ ?_ (h.1.of ?_ ?_ ?_ ?_ ?_ ?_ ?_ ?_ ?_) (fun _ _ => Nat.le_refl _) ?_ ?_ ?_ ?_ ?_ ?_ ⟨?_, ?_, ?_⟩ (h.tq.of h10 ?_ ?_ ?_ ?_) (Or.inr ⟨?_, ?_, ?_, Or.inl ⟨?_, t, d, ?_, Nat.le_refl _, by omega, ?_, ?_, hdt, ?_, ?_⟩⟩)
  · simp [nC, gst_app]
  · simp [nO, gst_app]
  · simp [gst_app]
  · intro j; simp [gst_app]
  · simp [gst_app]
  · simp [gst_app]
  · simp [gst_app]
  · simp [gst_app]
  · simp [gst_app]
  · intro a b; simp [gst_app]
  · intro i f hi; have hne : i ≠ o := (by omega); simp [gst_app, hne]
  · intro i f hi; simp [gst_app, hi]
  · intro i f hi; simp [gst_app, hi]
  · intro i f hi; simp [gst_app, hi]
  · intro i f hi; simp [gst_app, hi]
  · intro i f hi; simp [gst_app]
  · exact ⟨by simpa [gst_app] using a0, by simpa [gst_app] using a1, by simpa [gst_app] using a2, by simpa [gst_app] using a3, by simp [gst_app], by simpa [gst_app] using az⟩
  · exact ⟨⟨by simpa [gst_app] using b0, by simpa [gst_app] using b1, by simpa [gst_app] using b2, by simpa [gst_app] using b3, by simpa [gst_app] using b4, by simp [gst_app], by simp [gst_app]⟩, by simpa [gst_app] using bz1, by simpa [gst_app] using bz2⟩
  · obtain ⟨e1, e2, e3⟩ := h.bit ho
    refine ⟨by simpa [gst_app] using e1, fun x hx => by simpa [gst_app] using e2 x hx, fun q => ?_⟩
    have := e3 q
    rw [hs0] at this
    rcases this with q | q | q <;> exact absurd q (by decide)
  · exact ⟨d, d1, by simpa [gst_app] using d2, by simpa [gst_app] using d3, fun q => absurd (show (1 : Int32) = 4 by simpa [gst_app] using q) (by decide)⟩
  · simp [nC, gst_app]
  · simp [gst_app]
  · intro z j; simp [gst_app]
  · intro i hi; simp [gst_app]
  · simp [gst_app]
  · simp [gst_app]
  · simp [gst_app, c1]
  · simpa [gst_app] using c1
  · simpa [gst_app] using h.now
  · simpa [gst_app] using h.rnow
  · simpa [gst_app] using d2
  · simpa [gst_app, a1, b3] using k2
  · simpa [gst_app] using k3
/-- one round of offers -/
theorem pR.step (h : pR t ag hs B σ ρ) (hB : B < 2 ^ 31) (hw : ¬ pNW σ) : xMnoB σ = true ∧ ¬ rBest ρ < 0 ∧ pR t ag hs B (xMno σ) (rOff1 ρ) ∧ nC (xMno σ) = nC σ ∧ nO (xMno σ) = nO σ ∧ xIdN (xMno σ) (nC σ) + 1 = xIdN σ (nC σ) := by
  have h60 := h.o60
  have h10 := h.c10
  rcases h.nx with ⟨-, q⟩ | ⟨o, e1, e2, hbo⟩
  · exact absurd q hw
  rcases h.be hB with ⟨-, q⟩ | ⟨o', e3, hbo'⟩
  · exact absurd q hw
  obtain rfl := pBo_inj hbo hbo'
  have ho := hbo.1
  obtain ⟨ecf, hcf⟩ := h.cf hB ho
  obtain ⟨c, ec, hc, hcan⟩ := hcf.resolve_left (fun q => hbo.2.1.2 q.1)
  have n1 : ¬ (xNx σ).1 = -1 := by rw [e1]; exact nI_nm (by omega)
  have n2 : ¬ (xNx σ).2 = -1 := by rw [e2, ec]; exact nI_nm (by omega)
  have hx : xMno σ = gst (gst (gst (gst σ 7 o 5 1) 7 o 6 (nI c)) 7 o 7 (σ 0 0 3)) 6 c 6 (nI o) := by
    unfold xMno xOffer
    rw [if_neg n1, if_neg n2, e1, e2, ec, ix_nI (by omega), ix_nI (by omega)]
  have hr : rOff1 ρ = gst (gst (gst (gst ρ 16 c 3 (nI o)) 16 c 4 (ρ 8 0 8)) 17 o 4 1) 17 o 5 (nI c) := by
    unfold rOff1
    rw [e3, ix_nI (show o < 2 ^ 31 by omega), ecf, ec, ix_nI (show c < 2 ^ 31 by omega)]
  obtain ⟨c1, c6⟩ := xCan_1 hcan
  have hid : xIdle σ c = true := by unfold xIdle; rw [if_pos c1, if_pos c6]
  refine ⟨by unfold xMnoB; rw [if_neg n1, if_neg n2], by rw [e3]; exact nI_pos (by omega), by rw [hx, hr]; exact h.offer ho hbo.2.1.1 hcan hc, by rw [hx]; simp [nC, gst_app], by rw [hx]; simp [nO, gst_app], ?_⟩
  rw [hx]
  refine (xIdN_lt (c := c) (fun k hk => ?_) hid ?_ (nC σ)).2 hc
  · unfold xIdle; simp [gst_app, hk]
  · unfold xIdle
    have : ¬ nI o = -1 := nI_nm (by omega)
    simp [gst_app, this]
theorem pR.fix (h : pR t ag hs B σ ρ) (hB : B < 2 ^ 31) (hw : pNW σ) : xMnoB σ = false ∧ xMno σ = σ ∧ rBest ρ < 0 := by
  have e1 : (xNx σ).1 = -1 := by
    rcases h.nx with ⟨q, -⟩ | ⟨o, -, -, q⟩
    · exact q
    · exact absurd q.2.1 (hw o q.1)
  have e2 : rBest ρ = -1 := by
    rcases h.be hB with ⟨q, -⟩ | ⟨o, -, q⟩
    · exact q
    · exact absurd q.2.1 (hw o q.1)
  exact ⟨by unfold xMnoB; rw [if_pos e1], by unfold xMno; rw [if_pos e1], by rw [e2]; decide⟩
theorem pR.moGo (hB : B < 2 ^ 31) : ∀ (r : Nat) {σ ρ : Mem}, pR t ag hs B σ ρ → xIdN σ (nC σ) ≤ r → ∃ N, (∀ i, i < N → ¬ rBest (rOffN i ρ) < 0) ∧ rBest (rOffN N ρ) < 0 ∧ pR t ag hs B (xMoGo r σ) (rOffN N ρ) ∧ pNW (xMoGo r σ) ∧ nC (xMoGo r σ) = nC σ ∧ nO (xMoGo r σ) = nO σ
  | 0, σ, ρ, h, hr => by
    have hw : pNW σ := fun o ho q => by
      obtain ⟨-, hcf⟩ := h.cf hB ho
      obtain ⟨c, -, hc, hcan⟩ := hcf.resolve_left (fun z => q.2 z.1)
      obtain ⟨c1, c6⟩ := xCan_1 hcan
      have := xIdN_pos (σ := σ) (c := c) (by unfold xIdle; rw [if_pos c1, if_pos c6]) (nC σ) hc
      omega
    exact ⟨0, fun i hi => absurd hi (Nat.not_lt_zero _), (h.fix hB hw).2.2, h, hw, rfl, rfl⟩
  | r + 1, σ, ρ, h, hr => by
    by_cases hw : pNW σ
    · obtain ⟨e1, e2, e3⟩ := h.fix hB hw
      have e : xMoGo (r + 1) σ = σ := by rw [xMoGo, if_neg (by rw [e1]; decide), e2]
      rw [e]
      exact ⟨0, fun i hi => absurd hi (Nat.not_lt_zero _), e3, h, hw, rfl, rfl⟩
    · obtain ⟨e1, e2, h', eC, eO, eI⟩ := h.step hB hw
      have e : xMoGo (r + 1) σ = xMoGo r (xMno σ) := by rw [xMoGo, if_pos e1]
      rw [e]
      obtain ⟨N, n1, n2, n3, n4, n5, n6⟩ := pR.moGo hB r h' (by rw [eC]; omega)
      refine ⟨N + 1, fun i hi => ?_, by rw [← rOffN_s]; exact n2, by rw [← rOffN_s]; exact n3, n4, n5.trans eC, n6.trans eO⟩
      cases i with
      | zero => exact e2
      | succ i => rw [← rOffN_s]; exact n1 i (by omega)
theorem pR.mo (h : pR t ag hs B σ ρ) (hB : B < 2 ^ 31) : ∃ N, (∀ i, i < N → ¬ rBest (rOffN i ρ) < 0) ∧ rBest (rOffN N ρ) < 0 ∧ pR t ag hs B (xMo σ) (rOffN N ρ) ∧ pNW (xMo σ) ∧ nC (xMo σ) = nC σ ∧ nO (xMo σ) = nO σ :=
  pR.moGo hB (nC σ) h (xIdN_le σ _)
end OFFER
