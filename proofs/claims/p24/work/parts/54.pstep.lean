/-! steps keep the relation -/
theorem sh_one : ∀ l, l < 10 → ((1 : Int32) <<< (nI l &&& 31)).toBitVec = BitVec.twoPow 32 l := by decide +kernel
theorem sh_nI : ∀ l, l < 10 → ((1 : Int32) <<< (nI l &&& 31)) = nI (2 ^ l) := by decide +kernel
theorem sh_tp : ∀ l, l < 10 → BitVec.twoPow 32 l ≠ 0#32 := by decide +kernel
theorem sh_or : ∀ x, x < 1024 → ∀ l, l < 10 → nI x ||| nI (2 ^ l) = nI (x ||| 2 ^ l) := by decide +kernel
theorem bz (x : Int32) {c : Nat} (hc : c < 10) : x &&& ((1 : Int32) <<< (nI c &&& 31)) = 0 ↔ x.toBitVec.getLsbD c = false := by
  rw [← Int32.toBitVec_inj, Int32.toBitVec_and, sh_one c hc, BitVec.and_twoPow]
  cases x.toBitVec.getLsbD c
  · exact ⟨fun _ => rfl, fun _ => rfl⟩
  · refine ⟨fun h => ?_, fun h => nomatch h⟩
    exact absurd h (sh_tp c hc)
theorem bz_or (x : Int32) {c d : Nat} (hc : c < 10) (hd : d < 10) : (x ||| ((1 : Int32) <<< (nI d &&& 31))) &&& ((1 : Int32) <<< (nI c &&& 31)) = 0 ↔ (c ≠ d ∧ x &&& ((1 : Int32) <<< (nI c &&& 31)) = 0) := by
  rw [bz _ hc, bz _ hc, Int32.toBitVec_or, sh_one d hd, BitVec.getLsbD_or, BitVec.getLsbD_twoPow]
  by_cases e : c = d
  · subst e
    have h32 : c < 32 := by omega
    simp [h32]
  · have e' : ¬ d = c := fun q => e q.symm
    simp [e, e']
theorem rLv_18 {ρ ρ' : Mem} {z c : Nat} (h : ∀ z j, ρ' 18 z j = ρ 18 z j) (z' j : Nat) : rLv ρ' z c 18 z' j = rLv ρ z c 18 z' j := by
  have en : rQn ρ' z = rQn ρ z := by unfold rQn; rw [h]
  have ea : rAt ρ' z c = rAt ρ z c := rAt_cong (fun j => h z j)
  by_cases e : z' = z
  · subst e
    unfold rLv
    rw [en, ea]
    by_cases e0 : j = 0
    · subst e0; rw [gst_eq, gst_eq]
    · rw [gst_nf e0, gst_nf e0, rSh_v, rSh_v, h, h]
  · rw [rLv_o (fun q => e q.2), rLv_o (fun q => e q.2), h]
theorem rJoin_18 {ρ ρ' : Mem} {z c : Nat} (h : ∀ z j, ρ' 18 z j = ρ 18 z j) (z' j : Nat) : rJoin ρ' z c 18 z' j = rJoin ρ z c 18 z' j := by
  have en : rQn ρ' z = rQn ρ z := by unfold rQn; rw [h]
  unfold rJoin
  rw [en]
  simp only [gst_app, h]
theorem xOff_iff {σ : Mem} {c : Nat} : ¬ xOff σ c = -1 ↔ (σ 6 c 3 = 1 ∧ ¬ σ 6 c 6 = -1) := by
  unfold xOff
  by_cases h : σ 6 c 3 = 1
  · rw [if_pos h]; exact ⟨fun q => ⟨h, q⟩, fun q => q.2⟩
  · rw [if_neg h]; exact ⟨fun q => absurd rfl q, fun q => absurd q.1 h⟩
theorem pT.bump {B : Nat} {σ ρ σ' ρ' : Mem} (h : pT B σ ρ) (h10 : nC σ ≤ 10) (eC : nC σ' = nC σ) (s06 : σ' 0 0 6 = σ 0 0 6 + 1) (er : ∀ z j, ρ' 18 z j = ρ 18 z j) (hk : ∀ i, i < nC σ → (σ' 6 i 3 = 1 ↔ σ 6 i 3 = 1) ∧ (σ 6 i 3 = 1 → σ' 6 i 4 = σ 6 i 4 ∧ σ' 6 i 2 = σ 6 i 2)) : pT (B + 1) σ' ρ' := by
  obtain ⟨u, U, a1, a2, a3, a4⟩ := h
  refine ⟨u, U + 1, by rw [s06, a1]; exact nI_1 U, by omega, fun c hc h3 => ?_, fun z hz => pQ_qq.mpr ?_⟩
  · rw [eC] at hc
    obtain ⟨k1, k2⟩ := hk c hc
    rw [(k2 (k1.mp h3)).1]
    obtain ⟨q1, q2⟩ := a3 c hc (k1.mp h3)
    exact ⟨q1, by omega⟩
  · rw [eC]
    refine (pQ_qq.mp (a4 z hz)).congr h10 (er z) (fun c hc => ?_) (fun _ _ _ => rfl)
    obtain ⟨k1, k2⟩ := hk c hc
    refine ⟨fun q => ⟨k1.mpr q.1, by rw [(k2 q.1).2]; exact q.2⟩, fun q => ⟨k1.mp q.1, by rw [← (k2 (k1.mp q.1)).2]; exact q.2⟩⟩
/-- cab c goes from its place to the end of its queue -/
theorem pT.back {B : Nat} {σ ρ σ' ρ' : Mem} (h : pT B σ ρ) (h10 : nC σ ≤ 10) {c z : Nat} (hc : c < nC σ) (h1 : σ 6 c 3 = 1) (hz : z < 6) (h2 : σ 6 c 2 = nI z) (eC : nC σ' = nC σ) (s06 : σ' 0 0 6 = σ 0 0 6 + 1) (er : ∀ z' j, ρ' 18 z' j = rJoin (rLv ρ z c) z c 18 z' j)
    (hf : σ' 6 c 3 = 1) (h4 : σ' 6 c 4 = σ 0 0 6) (h2' : σ' 6 c 2 = nI z) (hk : ∀ i, i < nC σ → i ≠ c → σ' 6 i 3 = σ 6 i 3 ∧ σ' 6 i 4 = σ 6 i 4 ∧ σ' 6 i 2 = σ 6 i 2) : pT (B + 1) σ' ρ' := by
  have e1 : pT B (gst σ 6 c 3 0) (rLv ρ z c) := h.leave h10 hc h1 hz h2 (nC_g (by decide)) (gst_nk (by decide)) (fun _ _ => rfl) (by rw [gst_eq]; decide) (fun i _ hi => ⟨gst_ni hi, gst_ni hi, gst_ni hi⟩)
  refine e1.join (c := c) (z := z) (by rw [nC_g (by decide)]; exact h10) (by rw [nC_g (by decide)]; exact hc) (by rw [gst_eq]; decide) hz (by rw [nC_g (by decide)]; exact eC) (by rw [gst_nk (by decide)]; exact s06) er hf (by rw [gst_nk (by decide)]; exact h4) h2' (fun i hi hne => ?_)
  rw [nC_g (by decide)] at hi
  rw [gst_ni hne, gst_ni hne, gst_ni hne]
  exact hk i hi hne
section STEPS
variable {t : Nat} {ag : Nat → Nat} {hs : Nat → Nat × Bool} {B : Nat} {σ ρ : Mem}
theorem lor_lt {x c n : Nat} (hx : x < 2 ^ n) (hc : c < n) : x ||| 2 ^ c < 2 ^ n := Nat.or_lt_two_pow hx (Nat.pow_lt_pow_right (by decide) hc)
theorem pOb.turn {n c o : Nat} {hh : Nat × Bool} {σ' ρ' : Mem} (h : pOb n hh σ ρ o) (hn : n ≤ 10) (hc : c < n) (e8 : σ' 7 o 8 = σ 7 o 8 ||| ((1 : Int32) <<< (nI c &&& 31))) (t9 : ∀ d, ρ' 19 o d = if d = c then 1 else ρ 19 o d) (h5 : ¬ oSt (σ 7 o 5)) : pOb n hh σ' ρ' o := by
  obtain ⟨⟨x, x1, x2, x3⟩, b2, b3⟩ := h
  have hx : x < 1024 := Nat.lt_of_lt_of_le x2 (Nat.pow_le_pow_right (n := 2) (by decide) hn)
  refine ⟨⟨x ||| 2 ^ c, ?_, lor_lt x2 hc, ?_⟩, fun d hd => ?_, fun q => absurd (b3 q) h5⟩
  · rw [e8, x1, sh_nI c (by omega), sh_or x hx c (by omega)]
  · rw [Nat.or_assoc, Nat.or_comm (2 ^ c), ← Nat.or_assoc, x3]
  · rw [e8, bz_or _ hd (show c < 10 by omega), t9]
    by_cases e : d = c
    · rw [if_pos e]
      exact ⟨fun q => absurd e q.1, fun q => absurd q (by decide)⟩
    · rw [if_neg e]
      exact ⟨fun q => (b2 d hd).mp q.2, fun q => ⟨e, (b2 d hd).mpr q⟩⟩
theorem nSt {x : Int32} (h : x = 0 ∨ x = 1 ∨ x = 2) : ¬ oSt x := by
  intro q
  rcases h with rfl | rfl | rfl <;> rcases q with q | q | q <;> exact absurd q (by decide)
theorem pLk.s1 {c o a : Nat} (h : pLk t a σ ρ c o) (h1 : σ 6 c 3 = 1) : ∃ a' d, σ 7 o 7 = nI a' ∧ a' ≤ t ∧ t ≤ a' + a ∧ ρ 16 c 4 = nI a' ∧ σ 7 o 4 = nI d ∧ d ≤ t + 15 ∧ ¬ σ 6 c 1 < σ 7 o 3 ∧ ρ 19 o c = 0 := by
  rcases h.2.2 with ⟨-, q⟩ | ⟨q, -⟩ | ⟨q, -⟩
  · exact q
  · rw [h1] at q; exact absurd q (by decide)
  · rw [h1] at q; exact absurd q (by decide)
theorem pLk.s2 {c o a : Nat} (h : pLk t a σ ρ c o) (h1 : σ 6 c 3 = 2) : σ 6 c 5 = xMx (ρ 16 c 4) (σ 7 o 4) ∧ ∃ r, r ≤ 20000 ∧ ρ 16 c 4 = nI r := by
  rcases h.2.2 with ⟨q, -⟩ | ⟨-, q⟩ | ⟨q, -⟩
  · rw [h1] at q; exact absurd q (by decide)
  · exact q
  · rw [h1] at q; exact absurd q (by decide)
theorem pLk.s3 {c o a : Nat} (h : pLk t a σ ρ c o) (h1 : σ 6 c 3 = 3) : σ 6 c 5 = ρ 16 c 4 ∧ ∃ b e, σ 7 o 9 = nI b ∧ σ 6 c 5 = nI e ∧ b < e ∧ e ≤ 20000 := by
  rcases h.2.2 with ⟨q, -⟩ | ⟨q, -⟩ | ⟨-, q⟩
  · rw [h1] at q; exact absurd q (by decide)
  · rw [h1] at q; exact absurd q (by decide)
  · exact q
/-- an offer is refused: cab c goes to the end of its queue -/
theorem pR.turnD (h : pR t ag hs B σ ρ) {c z : Nat} (hc : c < nC σ) (hoff : ¬ xOff σ c = -1) (hz : z < 6) (ez : ρ 16 c 1 = nI z) : pR t ag hs (B + 1) (xTurn σ c) (rBack (rRfd ρ c) c) ∧ nC (xTurn σ c) = nC σ ∧ nO (xTurn σ c) = nO σ ∧ xTurn σ c 6 c 6 = -1 := by
  have h60 := h.o60
  have h10 := h.c10
  obtain ⟨h1, h6⟩ := xOff_iff.mp hoff
  obtain ⟨o, ho, eo, eo2, lk⟩ := h.of6 hc h6
  obtain ⟨a0, a1, a2, a3, a6, az⟩ := h.cab hc
  obtain ⟨⟨b0, b1, b2, b3, b4, b5, b6⟩, bz1, bz2⟩ := h.ord ho
  obtain ⟨d, d1, d2, d3, d4⟩ := h.tim ho
  have ex : xOff σ c = nI o := by unfold xOff; rw [if_pos h1, eo]
  have hixo : ix (ρ 16 c 3) = o := by rw [← a6, eo2]
  have ho2 : ix (nI o) = o := ix_nI (by omega)
  have hbit : xBit σ c = (1 : Int32) <<< (nI c &&& 31) := by unfold xBit; rw [a0]
  obtain ⟨σ', eσ⟩ : ∃ y, y = xTurn σ c := ⟨_, rfl⟩
  obtain ⟨ρ', eρ⟩ : ∃ y, y = rBack (rRfd ρ c) c := ⟨_, rfl⟩
  have eσ2 : σ' = gst (gst (gst (gst (gst (gst (gst σ 7 o 8 (σ 7 o 8 ||| xBit σ c)) 7 o 5 0) 7 o 6 (-1)) 6 c 6 (-1)) 6 c 3 1) 6 c 4 (σ 0 0 6)) 0 0 6 (σ 0 0 6 + 1) := by
    rw [eσ]; unfold xTurn xJoin; rw [if_neg hoff, ex, ho2]; simp [gst_app]
  have r18 : ∀ z j, rRfd ρ c 18 z j = ρ 18 z j := fun z j => by unfold rRfd; simp [gst_app]
  have r1 : ix (rRfd ρ c 16 c 1) = z := by unfold rRfd; simp only [gst_app]; simp; rw [ez]; exact ix_nI (by omega)
  have eo' : ∀ k i f, k ≠ 18 → ρ' k i f = gst (gst (gst (gst (gst ρ 19 o c 1) 17 o 8 (ρ 17 o 8 + 1)) 17 o 4 0) 17 o 5 (-1)) 16 c 3 (-1) k i f := fun k i f hk => by
    rw [eρ]; unfold rBack; rw [r1, rJoin_o (fun q => hk q.1), rLv_o (fun q => hk q.1)]; unfold rRfd; rw [hixo]
  have e18 : ∀ z' j, ρ' 18 z' j = rJoin (rLv ρ z c) z c 18 z' j := fun z' j => by
    rw [eρ]; unfold rBack; rw [r1]; exact rJoin_18 (rLv_18 r18) z' j
  rw [← eσ, ← eρ]
  have eC : nC σ' = nC σ := by rw [eσ2]; simp [nC, gst_app]
  have eO : nO σ' = nO σ := by rw [eσ2]; simp [nO, gst_app]
  refine ⟨?_, eC, eO, by rw [eσ2]; simp [gst_app]⟩
  clear eσ eρ
  refine h.upd hc ho (Or.inl eo) (Or.inl lk.1) eC eO (h.1.of ?_ ?_ ?_ ?_ ?_ ?_ ?_ ?_ ?_) (fun _ _ => Nat.le_refl _) ?_ ?_ ?_ ?_ ?_ ?_ ⟨?_, (h.bit ho).turn h10 hc ?_ ?_ (nSt (Or.inr (Or.inl (by rw [lk.2.1, h1])))), ?_⟩ (h.tq.back h10 hc h1 hz (by rw [a2, ez]) eC ?_ e18 ?_ ?_ ?_ ?_) (Or.inl ⟨Or.inr ?_, ?_, Or.inl ⟨?_, ?_⟩⟩)
  · simp [eσ2, gst_app]
  · intro j; simp [eσ2, gst_app]
  · simp [eσ2, gst_app]
  · simp [eσ2, gst_app]
  · simp [eo', gst_app]
  · simp [eo', gst_app]
  · simp [eo', gst_app]
  · intro a b; simp [eo', gst_app]
  · intro i f hi; have hne : i ≠ o := (by omega); simp [eo', gst_app, hne]
  · intro i f hi; simp [eσ2, gst_app, hi]
  · intro i f hi; simp [eσ2, gst_app, hi]
  · intro i f hi; simp [eo', gst_app, hi]
  · intro i f hi; simp [eo', gst_app, hi]
  · intro i f hi; simp [eo', gst_app, hi]
  · exact ⟨by simpa [eσ2, gst_app] using a0, by simpa [eσ2, eo', gst_app] using a1, by simpa [eσ2, eo', gst_app] using a2, by simpa [eσ2, eo', gst_app, h1] using a3, by simp [eσ2, eo', gst_app], by simpa [eσ2, gst_app] using az⟩
  · exact ⟨⟨by simpa [eσ2, eo', gst_app] using b0, by simpa [eσ2, eo', gst_app] using b1, by simpa [eσ2, eo', gst_app] using b2, by simpa [eσ2, eo', gst_app] using b3, by simpa [eσ2, eo', gst_app] using b4, by simp [eσ2, eo', gst_app], by simp [eσ2, eo', gst_app]⟩, by simpa [eσ2, gst_app] using bz1, by simpa [eσ2, gst_app] using bz2⟩
  · rw [eσ2, hbit]; simp [gst_app]
  · intro d; simp [eo', gst_app]
  · exact ⟨d, d1, by simpa [eσ2, gst_app] using d2, by simpa [eσ2, gst_app] using d3, fun q => absurd (show (0 : Int32) = 4 by simpa [eσ2, gst_app] using q) (by decide)⟩
  · simp [eσ2, gst_app]
  · simp [eσ2, gst_app]
  · simp [eσ2, gst_app]
  · simp [eσ2, gst_app, a2, ez]
  · intro i _ hi; simp [eσ2, gst_app, hi]
  · simp [eσ2, gst_app]
  · simp [eσ2, gst_app]
  · simp [eσ2, gst_app]
  · simp [eσ2, gst_app]
/-- .. and is OFF at once -/
theorem pR.stopO (h : pR t ag hs B σ ρ) {c z : Nat} (hc : c < nC σ) (hoff : ¬ xOff σ c = -1) (hz : z < 6) (ez : ρ 16 c 1 = nI z) : pR t ag hs (B + 1) (gst (xTurn σ c) 6 c 3 0) (gst (rLv (rRfd ρ c) z c) 16 c 2 0) := by
  have h60 := h.o60
  have h10 := h.c10
  obtain ⟨h1, h6⟩ := xOff_iff.mp hoff
  obtain ⟨o, ho, eo, eo2, lk⟩ := h.of6 hc h6
  obtain ⟨a0, a1, a2, a3, a6, az⟩ := h.cab hc
  obtain ⟨⟨b0, b1, b2, b3, b4, b5, b6⟩, bz1, bz2⟩ := h.ord ho
  obtain ⟨d, d1, d2, d3, d4⟩ := h.tim ho
  have ex : xOff σ c = nI o := by unfold xOff; rw [if_pos h1, eo]
  have hixo : ix (ρ 16 c 3) = o := by rw [← a6, eo2]
  have ho2 : ix (nI o) = o := ix_nI (by omega)
  have hbit : xBit σ c = (1 : Int32) <<< (nI c &&& 31) := by unfold xBit; rw [a0]
  obtain ⟨σ', eσ⟩ : ∃ y, y = gst (xTurn σ c) 6 c 3 0 := ⟨_, rfl⟩
  obtain ⟨ρ', eρ⟩ : ∃ y, y = gst (rLv (rRfd ρ c) z c) 16 c 2 0 := ⟨_, rfl⟩
  have eσ2 : σ' = gst (gst (gst (gst (gst (gst (gst (gst σ 7 o 8 (σ 7 o 8 ||| xBit σ c)) 7 o 5 0) 7 o 6 (-1)) 6 c 6 (-1)) 6 c 3 1) 6 c 4 (σ 0 0 6)) 0 0 6 (σ 0 0 6 + 1)) 6 c 3 0 := by
    rw [eσ]; unfold xTurn xJoin; rw [if_neg hoff, ex, ho2]; simp [gst_app]
  have r18 : ∀ z j, rRfd ρ c 18 z j = ρ 18 z j := fun z j => by unfold rRfd; simp [gst_app]
  have eo' : ∀ k i f, k ≠ 18 → ρ' k i f = gst (gst (gst (gst (gst (gst ρ 19 o c 1) 17 o 8 (ρ 17 o 8 + 1)) 17 o 4 0) 17 o 5 (-1)) 16 c 3 (-1)) 16 c 2 0 k i f := fun k i f hk => by
    rw [eρ]; simp only [gst_app, rLv_o (fun q => hk q.1)]; unfold rRfd; rw [hixo]; simp only [gst_app]
  have e18 : ∀ z' j, ρ' 18 z' j = rLv ρ z c 18 z' j := fun z' j => by
    rw [eρ, gst_nk (by decide)]; exact rLv_18 r18 z' j
  rw [← eσ, ← eρ]
  have eC : nC σ' = nC σ := by rw [eσ2]; simp [nC, gst_app]
  have eO : nO σ' = nO σ := by rw [eσ2]; simp [nO, gst_app]
  clear eσ eρ
  have hT1 : pT B (gst σ 6 c 3 0) (rLv ρ z c) := h.tq.leave h10 hc h1 hz (by rw [a2, ez]) (nC_g (by decide)) (gst_nk (by decide)) (fun _ _ => rfl) (by rw [gst_eq]; decide) (fun i _ hi => ⟨gst_ni hi, gst_ni hi, gst_ni hi⟩)
  have hT : pT (B + 1) σ' ρ' := by
    refine hT1.bump (by rw [nC_g (by decide)]; exact h10) (by rw [nC_g (by decide)]; exact eC) (by rw [eσ2]; simp [gst_app]) e18 (fun i hi => ?_)
    by_cases e : i = c
    · subst e
      exact ⟨by simp [eσ2, gst_app], fun q => absurd (show (0 : Int32) = 1 by simpa [gst_app] using q) (by decide)⟩
    · simp [eσ2, gst_app, e]
  refine h.upd hc ho (Or.inl eo) (Or.inl lk.1) eC eO (h.1.of ?_ ?_ ?_ ?_ ?_ ?_ ?_ ?_ ?_) (fun _ _ => Nat.le_refl _) ?_ ?_ ?_ ?_ ?_ ?_ ⟨?_, (h.bit ho).turn h10 hc ?_ ?_ (nSt (Or.inr (Or.inl (by rw [lk.2.1, h1])))), ?_⟩ hT (Or.inl ⟨Or.inl ?_, ?_, Or.inl ⟨?_, ?_⟩⟩)
  · simp [eσ2, gst_app]
  · intro j; simp [eσ2, gst_app]
  · simp [eσ2, gst_app]
  · simp [eσ2, gst_app]
  · simp [eo', gst_app]
  · simp [eo', gst_app]
  · simp [eo', gst_app]
  · intro a b; simp [eo', gst_app]
  · intro i f hi; have hne : i ≠ o := (by omega); simp [eo', gst_app, hne]
  · intro i f hi; simp [eσ2, gst_app, hi]
  · intro i f hi; simp [eσ2, gst_app, hi]
  · intro i f hi; simp [eo', gst_app, hi]
  · intro i f hi; simp [eo', gst_app, hi]
  · intro i f hi; simp [eo', gst_app, hi]
  · exact ⟨by simpa [eσ2, gst_app] using a0, by simpa [eσ2, eo', gst_app] using a1, by simpa [eσ2, eo', gst_app] using a2, by simp [eσ2, eo', gst_app], by simp [eσ2, eo', gst_app], by simpa [eσ2, gst_app] using az⟩
  · exact ⟨⟨by simpa [eσ2, eo', gst_app] using b0, by simpa [eσ2, eo', gst_app] using b1, by simpa [eσ2, eo', gst_app] using b2, by simpa [eσ2, eo', gst_app] using b3, by simpa [eσ2, eo', gst_app] using b4, by simp [eσ2, eo', gst_app], by simp [eσ2, eo', gst_app]⟩, by simpa [eσ2, gst_app] using bz1, by simpa [eσ2, gst_app] using bz2⟩
  · rw [eσ2, hbit]; simp [gst_app]
  · intro d; simp [eo', gst_app]
  · exact ⟨d, d1, by simpa [eσ2, gst_app] using d2, by simpa [eσ2, gst_app] using d3, fun q => absurd (show (0 : Int32) = 4 by simpa [eσ2, gst_app] using q) (by decide)⟩
  · simp [eσ2, gst_app]
  · simp [eσ2, gst_app]
  · simp [eσ2, gst_app]
  · simp [eσ2, gst_app]
/-- a cab without an offer is OFF -/
theorem pR.stopN (h : pR t ag hs B σ ρ) {c z : Nat} (hc : c < nC σ) (h1 : σ 6 c 3 = 1) (h6 : σ 6 c 6 = -1) (hz : z < 6) (ez : ρ 16 c 1 = nI z) : pR t ag hs B (gst σ 6 c 3 0) (gst (rLv ρ z c) 16 c 2 0) := by
  have h10 := h.c10
  obtain ⟨a0, a1, a2, a3, a6, az⟩ := h.cab hc
  have eo' : ∀ k i f, k ≠ 18 → gst (rLv ρ z c) 16 c 2 0 k i f = gst ρ 16 c 2 0 k i f := fun k i f hk => by
    simp only [gst_app, rLv_o (fun q => hk q.1)]
  refine h.updC hc h6 (nC_g (by decide)) (nO_g (by decide)) (h.1.of ?_ ?_ ?_ ?_ ?_ ?_ ?_ ?_ ?_) ?_ ?_ ?_ ?_ ?_ ?_ (h.tq.leave h10 hc h1 hz (by rw [a2, ez]) (nC_g (by decide)) (gst_nk (by decide)) (fun z' j => gst_nk (by decide)) (by rw [gst_eq]; decide) (fun i _ hi => ⟨gst_ni hi, gst_ni hi, gst_ni hi⟩)) ⟨Or.inl ?_, ?_⟩
  · simp [gst_app]
  · intro j; simp [gst_app]
  · simp [gst_app]
  · simp [gst_app]
  · simp [eo', gst_app]
  · simp [eo', gst_app]
  · simp [eo', gst_app]
  · intro a b; simp [eo', gst_app]
  · intro i f hi; simp [eo', gst_app]
  · intro i f hi; simp [gst_app, hi]
  · intro i f; simp [gst_app]
  · intro i f hi; simp [eo', gst_app, hi]
  · intro i f; simp [eo', gst_app]
  · intro i f; simp [eo', gst_app]
  · exact ⟨by simpa [gst_app] using a0, by simpa [eo', gst_app] using a1, by simpa [eo', gst_app] using a2, by simp [eo', gst_app], by simpa [eo', gst_app] using a6, by simpa [gst_app] using az⟩
  · simp [gst_app]
  · simpa [gst_app] using h6
/-- an OFF cab joins -/
theorem pR.start (h : pR t ag hs B σ ρ) {c z : Nat} (hc : c < nC σ) (h0 : σ 6 c 3 = 0) (hz : z < 6) (ez : ρ 16 c 1 = nI z) : pR t ag hs (B + 1) (xJoin σ c) (rJoin (gst ρ 16 c 2 1) z c) := by
  have h60 := h.o60
  have h10 := h.c10
  have h6 : σ 6 c 6 = -1 := by
    rcases h.l1 hc with ⟨-, q⟩ | ⟨o, ho, -, -, -, ⟨q, -⟩ | ⟨q, -⟩ | ⟨q, -⟩⟩
    · exact q
    · rw [h0] at q; exact absurd q (by decide)
    · rw [h0] at q; exact absurd q (by decide)
    · rw [h0] at q; exact absurd q (by decide)
  obtain ⟨a0, a1, a2, a3, a6, az⟩ := h.cab hc
  have eo' : ∀ k i f, k ≠ 18 → rJoin (gst ρ 16 c 2 1) z c k i f = gst ρ 16 c 2 1 k i f := fun k i f hk => rJoin_o (fun q => hk q.1)
  refine h.updC hc h6 ?_ ?_ (h.1.of ?_ ?_ ?_ ?_ ?_ ?_ ?_ ?_ ?_) ?_ ?_ ?_ ?_ ?_ ?_ (h.tq.join h10 (c := c) (z := z) hc (by rw [h0]; decide) hz ?_ ?_ (rJoin_18 (fun z j => gst_nk (by decide))) ?_ ?_ ?_ ?_) ⟨Or.inr ?_, ?_⟩
  · simp [nC, gst_app, xJoin]
  · simp [nO, gst_app, xJoin]
  · simp [gst_app, xJoin]
  · intro j; simp [gst_app, xJoin]
  · simp [gst_app, xJoin]
  · simp [gst_app, xJoin]
  · simp [eo', gst_app]
  · simp [eo', gst_app]
  · simp [eo', gst_app]
  · intro a b; simp [eo', gst_app]
  · intro i f hi; simp [eo', gst_app]
  · intro i f hi; simp [gst_app, xJoin, hi]
  · intro i f; simp [gst_app, xJoin]
  · intro i f hi; simp [eo', gst_app, hi]
  · intro i f; simp [eo', gst_app]
  · intro i f; simp [eo', gst_app]
  · exact ⟨by simpa [gst_app, xJoin] using a0, by simpa [eo', gst_app, xJoin] using a1, by simpa [eo', gst_app, xJoin] using a2, by simp [eo', gst_app, xJoin], by simpa [eo', gst_app, xJoin] using a6, by simpa [gst_app, xJoin] using az⟩
  · simp [nC, gst_app, xJoin]
  · simp [gst_app, xJoin]
  · simp [gst_app, xJoin]
  · simp [gst_app, xJoin]
  · simp [gst_app, xJoin, a2, ez]
  · intro i _ hi; simp [gst_app, xJoin, hi]
  · simp [gst_app, xJoin]
  · simpa [gst_app, xJoin] using h6
/-- an offer is accepted -/
theorem pR.accept (h : pR t ag hs B σ ρ) {c o z a : Nat} (hc : c < nC σ) (ho : o < nO σ) (h1 : σ 6 c 3 = 1) (eo : σ 6 c 6 = nI o) (hz : z < 6) (ez : σ 6 c 2 = nI z) (ha : a < 6) (ea : σ 7 o 1 = nI a) : pR t ag hs B (xAcc σ c o) (rAcc ρ c) := by
  have h60 := h.o60
  have h10 := h.c10
  obtain ⟨-, lk⟩ := h.lc hc (by omega) eo
  obtain ⟨a0, a1, a2, a3, a6, az⟩ := h.cab hc
  obtain ⟨⟨b0, b1, b2, b3, b4, b5, b6⟩, bz1, bz2⟩ := h.ord ho
  obtain ⟨d, d1, d2, d3, d4⟩ := h.tim ho
  obtain ⟨n, n1, n2, ew, er⟩ := h.way hz ha
  have hixo : ix (ρ 16 c 3) = o := by rw [← a6, eo]; exact ix_nI (by omega)
  have hixz : ix (ρ 16 c 1) = z := by rw [← a2, ez]; exact ix_nI (by omega)
  have hixa : ix (ρ 17 o 0) = a := by rw [← b1, ea]; exact ix_nI (by omega)
  have h9 := h.t9
  have hxw : xWay σ (σ 6 c 2) (σ 7 o 1) = nI n := by rw [ez, ea]; exact ew
  obtain ⟨ρ', eρ⟩ : ∃ y, y = rAcc ρ c := ⟨_, rfl⟩
  have eo' : ∀ k i f, k ≠ 18 → ρ' k i f = gst (gst (gst ρ 16 c 2 2) 16 c 4 (nI (t + n))) 17 o 4 2 k i f := fun k i f hk => by
    rw [eρ]; unfold rAcc; rw [hixo, hixz, hixa, er, h.rnow, nI_add]; simp only [gst_app, rLv_o (fun q => hk q.1)]
  have e18 : ∀ z' j, ρ' 18 z' j = rLv ρ z c 18 z' j := fun z' j => by
    rw [eρ]; unfold rAcc; rw [hixz]; simp [gst_app]
  have hσ : xAcc σ c o = gst (gst (gst σ 6 c 3 2) 6 c 5 (xMx (nI (t + n)) (σ 7 o 4))) 7 o 5 2 := by
    unfold xAcc; rw [hxw, h.now, nI_add]; rfl
  rw [← eρ, hσ]
  clear eρ hσ
  refine h.upd hc ho (Or.inl eo) (Or.inl lk.1) ?_ ?_ (h.1.of ?_ ?_ ?_ ?_ ?_ ?_ ?_ ?_ ?_) (fun _ _ => Nat.le_refl _) ?_ ?_ ?_ ?_ ?_ ?_ ⟨?_, ?_, ?_⟩ (h.tq.leave h10 hc h1 hz ez ?_ ?_ e18 ?_ ?_) (Or.inr ⟨?_, ?_, ?_, Or.inr (Or.inl ⟨?_, ?_, t + n, by omega, ?_⟩)⟩)
  · simp [nC, gst_app]
  · simp [nO, gst_app]
  · simp [gst_app]
  · intro j; simp [gst_app]
  · simp [gst_app]
  · simp [gst_app]
  · simp [eo', gst_app]
  · simp [eo', gst_app]
  · simp [eo', gst_app]
  · intro a b; simp [eo', gst_app]
  · intro i f hi; have hne : i ≠ o := (by omega); simp [eo', gst_app, hne]
  · intro i f hi; simp [gst_app, hi]
  · intro i f hi; simp [gst_app, hi]
  · intro i f hi; simp [eo', gst_app, hi]
  · intro i f hi; simp [eo', gst_app, hi]
  · intro i f hi; simp [eo', gst_app]
  · exact ⟨by simpa [gst_app] using a0, by simpa [eo', gst_app] using a1, by simpa [eo', gst_app] using a2, by simp [eo', gst_app], by simpa [eo', gst_app] using a6, by simpa [gst_app] using az⟩
  · exact ⟨⟨by simpa [eo', gst_app] using b0, by simpa [eo', gst_app] using b1, by simpa [eo', gst_app] using b2, by simpa [eo', gst_app] using b3, by simpa [eo', gst_app] using b4, by simp [eo', gst_app], by simpa [eo', gst_app] using b6⟩, by simpa [gst_app] using bz1, by simpa [gst_app] using bz2⟩
  · obtain ⟨e1, e2, e3⟩ := h.bit ho
    refine ⟨by simpa [gst_app] using e1, fun x hx => by simpa [eo', gst_app] using e2 x hx, fun q => absurd (e3 q) (nSt (Or.inr (Or.inl (by rw [lk.2.1, h1]))))⟩
  · exact ⟨d, d1, by simpa [gst_app] using d2, by simpa [gst_app] using d3, fun q => absurd (show (2 : Int32) = 4 by simpa [gst_app] using q) (by decide)⟩
  · simp [nC, gst_app]
  · simp [gst_app]
  · simp [gst_app]
  · intro i _ hi; simp [gst_app, hi]
  · simpa [gst_app] using eo
  · simpa [gst_app] using lk.1
  · simp [gst_app]
  · simp [gst_app]
  · simp [eo', gst_app]
  · simp [eo', gst_app]
end STEPS
