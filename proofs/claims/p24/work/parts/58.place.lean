/-! more of what the Rank's steps leave -/
theorem Ur.free {σ ρ : Mem} {c z : Nat} (h : Ur σ ρ) : Ur σ (rFree ρ c z) := Ur.join (((h.g (by decide) (by decide)).g (by decide) (by decide)).g (by decide) (by decide))
theorem Ur.can1 {σ ρ : Mem} {o : Nat} (h : Ur σ ρ) : Ur σ (rCan1 ρ o) := by
  unfold rCan1
  split
  · exact h.g (by decide) (by decide)
  · exact h
theorem Ur.can {σ ρ : Mem} {o : Nat} (h : Ur σ ρ) : Ur σ (rCan ρ o) := by
  unfold rCan
  refine Ur.g (Ur.g ?_ (by decide) (by decide)) (by decide) (by decide)
  unfold rCan2
  split
  · exact Ur.free h.can1
  · exact h.can1
theorem Ur.ageN {σ ρ : Mem} (h : Ur σ ρ) : ∀ n, Ur σ (rAgeN n ρ)
  | 0 => h
  | n + 1 => by
    show Ur σ (rAge1 (rAgeN n ρ) n)
    have h2 := Ur.ageN h n
    unfold rAge1
    repeat' split
    all_goals first | exact h2 | exact Ur.back (Ur.rfd h2)
theorem Ur.done {σ ρ : Mem} {c o : Nat} (h : Ur σ ρ) : Ur σ (rDone ρ c o) := Ur.free ((((h.g (by decide) (by decide)).g (by decide) (by decide)).g (by decide) (by decide)).g (by decide) (by decide))
theorem Ur.ride {σ ρ : Mem} {c o : Nat} (h : Ur σ ρ) : Ur σ (rRide ρ c o) := (((((h.g (by decide) (by decide)).g (by decide) (by decide)).g (by decide) (by decide)).g (by decide) (by decide)).g (by decide) (by decide)).g (by decide) (by decide)
theorem Ur.runN {σ ρ : Mem} (h : Ur σ ρ) : ∀ n, Ur σ (rRunN n ρ).2
  | 0 => h
  | n + 1 => by
    show Ur σ (rRun1 (rRunN n ρ).2 n)
    have h2 := Ur.runN h n
    unfold rRun1
    repeat' split
    all_goals first | exact h2 | exact Ur.done h2 | exact Ur.ride h2
theorem Ur.min {σ ρ : Mem} {n : Nat} (h : Ur σ ρ) : Ur σ (rM2 n ρ).2 := Ur.runN (Ur.ageN (h.g (by decide) (by decide)) n) n
/-! counting -/
def cntB (f : Nat → Bool) : Nat → Nat
  | 0 => 0
  | n + 1 => cntB f n + (if f n = true then 1 else 0)
theorem cntB_0 {f : Nat → Bool} : ∀ n, (∀ c, c < n → ¬ f c = true) → cntB f n = 0
  | 0, _ => rfl
  | n + 1, h => by
    rw [cntB, if_neg (h n (Nat.lt_succ_self n)), cntB_0 n (fun c hc => h c (by omega))]
theorem cntB_cong {f f' : Nat → Bool} : ∀ n, (∀ c, c < n → f c = f' c) → cntB f n = cntB f' n
  | 0, _ => rfl
  | n + 1, h => by
    rw [cntB, cntB, h n (Nat.lt_succ_self n), cntB_cong n (fun c hc => h c (by omega))]
theorem cntB_rm {f : Nat → Bool} {c : Nat} (hf : f c = true) : ∀ n, c < n → cntB f n = cntB (fun i => f i && (i != c)) n + 1
  | 0, h => absurd h (Nat.not_lt_zero _)
  | n + 1, h => by
    rw [cntB, cntB]
    by_cases e : c = n
    · subst e
      rw [if_pos hf, if_neg (by simp), cntB_cong (f' := fun i => f i && (i != c)) c (fun i hi => by
        have : (i != c) = true := by simp; omega
        simp [this])]
    · rw [cntB_rm hf n (by omega)]
      have : (n != c) = true := by simp; omega
      simp only [this, Bool.and_true]
      omega
theorem qq.cnt {u : Nat → Nat} {N z : Nat} (hN : N ≤ 10) : ∀ (m : Nat) (f : Nat → Bool) (ρ : Mem), rQn ρ z = m → qq u (fun c => f c = true) N ρ z → cntB f N = m
  | 0, f, ρ, hm, h => cntB_0 N (fun c hc hf => by
      obtain ⟨j, q1, q2, -⟩ := h.2.2.2.1 c hc hf
      omega)
  | m + 1, f, ρ, hm, h => by
    obtain ⟨c, -, hc, hf⟩ := h.2.2.1 1 (Nat.le_refl _) (by omega)
    obtain ⟨h2, e2, -⟩ := h.leave hN hc hf
    have h3 : qq u (fun i => (f i && (i != c)) = true) N (rLv ρ z c) z := h2.congr hN (fun _ => rfl) (fun i _ => by simp) (fun _ _ _ => rfl)
    rw [cntB_rm hf N hc, qq.cnt hN m _ (rLv ρ z c) (by omega) h3]
section PLC
variable {t : Nat} {ag : Nat → Nat} {hs : Nat → Nat × Bool} {B : Nat} {σ ρ : Mem}
theorem xInQ_iff {c : Nat} {z : Int32} : xInQ σ c z = true ↔ (σ 6 c 3 = 1 ∧ σ 6 c 2 = z) := by
  unfold xInQ
  repeat' split
  all_goals simp_all
/-- the last of a queue stands behind all others -/
theorem pR.place (h : pR t ag hs B σ ρ) (hB : B < 2 ^ 31) {c z : Nat} (hz : z < 6) (hc : c < 1000) (h1 : 1 ≤ rQn ρ z) (hl : ρ 18 z (rQn ρ z) = nI c) : xPlace σ c = nI (rQn ρ z - 1) := by
  have h10 := h.c10
  obtain ⟨u, U, -, hUB, hu, hQ⟩ := h.tq
  have hq := pQ_qq.mp (hQ z hz)
  obtain ⟨c', e', hcN, hF⟩ := hq.2.2.1 (rQn ρ z) h1 (Nat.le_refl _)
  obtain rfl : c = c' := nI_inj (by omega) (by omega) (hl.symm.trans e')
  have hb : qq u (fun i => xInQ σ i (nI z) = true) (nC σ) ρ z := hq.congr h10 (fun _ => rfl) (fun i _ => xInQ_iff.symm) (fun _ _ _ => rfl)
  have hfc : xInQ σ c (nI z) = true := xInQ_iff.mpr hF
  have hcnt := hb.cnt h10 _ _ _ rfl
  rw [cntB_rm hfc _ hcN] at hcnt
  have go : ∀ (r k : Nat), k + r = nC σ → xPlGo σ c r k (nI (cntB (fun i => xInQ σ i (nI z) && (i != c)) k)) = nI (cntB (fun i => xInQ σ i (nI z) && (i != c)) (nC σ)) := by
    intro r
    induction r with
    | zero => intro k hk; rw [show k = nC σ by omega]; rfl
    | succ r ih =>
      intro k hk
      rw [xPlGo, hF.2]
      have ihk := ih (k + 1) (by omega)
      rw [cntB] at ihk
      by_cases hfk : xInQ σ k (nI z) = true
      · rw [if_pos hfk]
        obtain ⟨k3, k2⟩ := xInQ_iff.mp hfk
        by_cases ek : k = c
        · subst ek
          rw [if_pos (Int32.le_refl _)]
          rw [if_neg (by simp)] at ihk
          exact ihk
        · obtain ⟨j, j1, j2, ej⟩ := hb.2.2.2.1 k (by omega) hfk
          have hjn : j ≠ rQn ρ z := fun e => ek (nI_inj (by omega) (by omega) (by rw [← ej, e, hl]))
          have hlt := hb.2.2.2.2 j (rQn ρ z) k c j1 (by omega) (Nat.le_refl _) (by omega) hcN ej hl
          obtain ⟨a1, a2⟩ := hu c hcN hF.1
          obtain ⟨b1, b2⟩ := hu k (by omega) k3
          rw [if_neg (by rw [a1, b1]; exact nI_ge hlt (by omega))]
          rw [if_pos (by simp [hfk, ek])] at ihk
          rw [nI_1]
          exact ihk
      · rw [if_neg hfk]
        rw [if_neg (by simp [hfk])] at ihk
        exact ihk
  unfold xPlace
  rw [if_pos hF.1]
  have := go (nC σ) 0 (by omega)
  rw [show cntB (fun i => xInQ σ i (nI z) && (i != c)) 0 = 0 from rfl, nI_0] at this
  rw [this]
  congr 1
  omega
end PLC
