theorem rOffN_16 {ρ : Mem} {i f : Nat} (h3 : f ≠ 3) (h4 : f ≠ 4) : ∀ n, rOffN n ρ 16 i f = ρ 16 i f
  | 0 => rfl
  | n + 1 => by
    show rOff1 (rOffN n ρ) 16 i f = _
    unfold rOff1
    rw [gst_nk (by decide), gst_nk (by decide), gst_nf h4, gst_nf h3, rOffN_16 h3 h4 n]
theorem rRfd_18 {ρ : Mem} {c z j : Nat} : rRfd ρ c 18 z j = ρ 18 z j := by
  unfold rRfd
  rw [gst_nk (by decide), gst_nk (by decide), gst_nk (by decide), gst_nk (by decide), gst_nk (by decide)]
theorem rIn_cong {ρ ρ' : Mem} {z c : Nat} (h : ∀ j, ρ' 18 z j = ρ 18 z j) (hI : rIn ρ z c) : rIn ρ' z c := by
  obtain ⟨h1, h2, h3, h4⟩ := hI
  have e : rAt ρ' z c = rAt ρ z c := rAt_cong h
  have en : rQn ρ' z = rQn ρ z := by unfold rQn; rw [h]
  unfold rIn
  rw [e, en, h]
  exact ⟨h1, h2, h3, fun j a b => by rw [h]; exact h4 j a b⟩
section RDS
variable {t : Nat} {ag : Nat → Nat} {hs : Nat → Nat × Bool} {B B' : Nat} {σ σ1 σ' τ σ0 : Mem} {g : gG}
theorem LI.zone (h : LI g hs t B σ) {c : Nat} (hc : c < nC σ) : ∃ z, z < 6 ∧ σ 16 c 1 = nI z := by
  obtain ⟨-, -, e, -, -, j, hj, e2⟩ := h.2.2.1.cab hc
  exact ⟨j, hj, e.symm.trans e2⟩
/-- an offer waits for cab c -/
theorem LI.offered (h : LI g hs t B σ) {c : Nat} (hc : c < nC σ) (h1 : σ 16 c 2 = 1) (h3 : 0 ≤ σ 16 c 3) : ∃ o a, o < nO σ ∧ σ 16 c 3 = nI o ∧ a < 6 ∧ σ 17 o 0 = nI a ∧ σ 6 c 3 = 1 ∧ σ 6 c 6 = nI o ∧ xOff σ c = nI o ∧ σ 7 o 1 = nI a := by
  have hP := h.2.2.1
  obtain ⟨-, -, -, e3, e6, -⟩ := hP.cab hc
  have s1 : σ 6 c 3 = 1 := e3.trans h1
  have h6 : ¬ σ 6 c 6 = -1 := fun q => by
    rw [e6] at q
    rw [q] at h3
    exact absurd h3 (by decide)
  obtain ⟨o, ho, eo, -, -⟩ := hP.of6 hc h6
  obtain ⟨⟨-, ea, -⟩, ⟨a, ha, ea2⟩, -⟩ := hP.ord ho
  exact ⟨o, a, ho, e6.symm.trans eo, ha, ea.symm.trans ea2, s1, eo, by unfold xOff; rw [if_pos s1, eo], ea2⟩
theorem LI.notOff (h : LI g hs t B σ) {c : Nat} (hc : c < nC σ) (hn : ¬ (σ 16 c 2 = 1 ∧ 0 ≤ σ 16 c 3)) : xOff σ c = -1 := by
  have hP := h.2.2.1
  have h60 := hP.o60
  obtain ⟨-, -, -, e3, e6, -⟩ := hP.cab hc
  unfold xOff
  split
  · next s1 =>
    rcases hP.o3 hc with q | ⟨j, hj, q⟩
    · exact e6.trans q
    · exact absurd ⟨e3.symm.trans s1, by rw [q]; exact nI_0le (by omega)⟩ hn
  · rfl
theorem LI.st2 (h : LI g hs t B σ) {c : Nat} (hc : c < nC σ) : σ 6 c 3 = σ 16 c 2 := (h.2.2.1.cab hc).2.2.2.1
theorem LI.startN (h : LI g hs t B σ) {c : Nat} (hc : c < nC σ) (h0 : ¬ σ 16 c 2 = 0) : xStartE σ (nI c) = 2 := by
  have h10 := h.2.2.1.c10
  unfold xStartE
  rw [if_pos (okC_nI hc h10), ix_nI (by omega), if_neg (by rw [h.st2 hc]; exact h0)]
theorem LI.stopN (h : LI g hs t B σ) {c : Nat} (hc : c < nC σ) (h0 : ¬ σ 16 c 2 = 1) : xStopE σ (nI c) = 2 := by
  have h10 := h.2.2.1.c10
  unfold xStopE
  rw [if_pos (okC_nI hc h10), ix_nI (by omega), if_neg (by rw [h.st2 hc]; exact h0)]
theorem LI.acceptN (h : LI g hs t B σ) {c : Nat} (hc : c < nC σ) (hn : ¬ (σ 16 c 2 = 1 ∧ 0 ≤ σ 16 c 3)) : xAcceptE σ (nI c) = 2 := by
  have h10 := h.2.2.1.c10
  unfold xAcceptE
  rw [if_pos (okC_nI hc h10), ix_nI (by omega), if_pos (h.notOff hc hn)]
/-- a cab's zone, told behind the offers -/
theorem AO.zone (hA : AO g hs t B σ τ) {c : Nat} (hc : c < gcn g 16) (e : ∀ f, σ1 6 c f = τ 6 c f) : σ1 6 c 2 = τ 16 c 1 := by
  obtain ⟨N, -, -, -, -, hR, hL, -⟩ := hA
  have q := (hL.2.2.1.cab (c := c) (by rw [hL.2.2.1.cC hL.2.1]; exact hc)).2.2.1
  rw [rOffN_16 (by decide) (by decide)] at q
  rw [e 2, ← q]
  exact ((Ur.offN (Ur.rf τ) N) 6 c 2 (Or.inl (by decide))).symm
/-- stop, as both do it -/
theorem LI.stop (h : LI g hs t B σ) (hB : B + 1 < 2 ^ 31) {c z : Nat} (hc : c < nC σ) (hz : z < 6) (ez : σ 16 c 1 = nI z) (h1 : σ 16 c 2 = 1) :
    xStopE σ (nI c) = 0 ∧ (∀ k i f, 8 ≤ k → xStop σ (nI c) k i f = σ k i f) ∧ Xok g (xStop σ (nI c)) ∧ Rr g (xStop σ (nI c)) ∧ (xStop σ (nI c) 18 z 0 = nI (rQn (xStop σ (nI c)) z) ∧ rQn (xStop σ (nI c)) z ≤ 10 ∧ rIn (xStop σ (nI c)) z c) ∧
    (0 ≤ σ 16 c 3 → AO g hs t (B + 1) σ (gst (rLv (rRfd (xStop σ (nI c)) c) z c) 16 c 2 0)) ∧ (¬ 0 ≤ σ 16 c 3 → AO g hs t (B + 1) σ (gst (rLv (xStop σ (nI c)) z c) 16 c 2 0)) ∧ xStop σ (nI c) 6 (ix (nI c)) 2 = nI z := by
  have h10 := h.2.2.1.c10
  have hix : ix (nI c) = c := ix_nI (by omega)
  have e8 : ∀ k i f, 8 ≤ k → xStop σ (nI c) k i f = σ k i f := un8 (Un.mo (Un.g6 (Un.turn (Un.rf σ))))
  have hX : Xok g (xStop σ (nI c)) := (h.1.turn.st rfl).mo
  have hR := h.2.1.c8 e8
  have hP := h.pre e8
  have s1 : σ 6 c 3 = 1 := (h.st2 hc).trans h1
  have ez2 : σ 6 c 2 = nI z := (h.2.2.1.cab hc).2.2.1.trans ez
  have ez1 : xStop σ (nI c) 16 c 1 = nI z := (e8 16 c 1 (by decide)).trans ez
  have hq := hP.tq.q hz
  have hI := hP.tq.at hc s1 hz ez2
  have e16 := h.2.2.1.cC h.2.1
  have eM : xMo (gst (xTurn σ c) 6 c 3 0) = xStop σ (nI c) := by unfold xStop; rw [hix]
  have hnT : nO (xTurn σ c) = nO σ := by
    unfold nO
    rw [(Un.turn (Un.rf σ) : Un σ (xTurn σ c)) 3 0 2 (by decide) (by decide) (fun z => absurd z.1 (by decide))]
  have hnO : nO (gst (xTurn σ c) 6 c 3 0) = nO σ := (nO_g (by decide)).trans hnT
  have a1 : 0 ≤ σ 16 c 3 → AO g hs t (B + 1) σ (gst (rLv (rRfd (xStop σ (nI c)) c) z c) 16 c 2 0) := fun h3 => by
    obtain ⟨o, a, ho, eo, ha, ea, -, e6, eoff, -⟩ := h.offered hc h1 h3
    have h60 := h.2.2.1.o60
    refine h.road (by rw [eM]; exact e8) (by rw [eM]; exact hX) (hP.stopO hc (by rw [eoff]; exact nI_nm (by omega)) hz ez1) hnO ?_ ?_ hB
    · rw [eM]; exact (Ur.lv (Ur.rfd (Ur.rf _))).g (by decide) (by decide)
    · exact (hR.rfd (c := c)).lv.st (by decide)
  have a2 : ¬ 0 ≤ σ 16 c 3 → AO g hs t (B + 1) σ (gst (rLv (xStop σ (nI c)) z c) 16 c 2 0) := fun h3 => by
    have hoff := h.notOff hc (fun q => h3 q.2)
    have h6 : σ 6 c 6 = -1 := by unfold xOff at hoff; rw [if_pos s1] at hoff; exact hoff
    have eT : xTurn σ c = σ := by unfold xTurn; rw [if_pos hoff]
    rw [eT] at eM hnO
    refine h.road (by rw [eM]; exact e8) (by rw [eM]; exact hX) ((hP.stopN hc s1 h6 hz ez1).mono (Nat.le_succ B)) hnO ?_ ?_ hB
    · rw [eM]; exact (Ur.lv (Ur.rf _)).g (by decide) (by decide)
    · exact hR.lv.st (by decide)
  refine ⟨?_, e8, hX, hR, ⟨hq.1, hq.2.1, hI⟩, a1, a2, ?_⟩
  · unfold xStopE
    rw [if_pos (okC_nI hc h10), hix, if_pos s1]
  · rw [hix]
    by_cases h3 : 0 ≤ σ 16 c 3
    · rw [(a1 h3).zone (c := c) (σ1 := xStop σ (nI c)) (by omega) (fun f => ((Ur.lv (Ur.rfd (Ur.rf _))).g (by decide) (by decide) 6 c f (Or.inl (by decide))).symm), gst_nf (by decide), rLv_o (by omega)]
      unfold rRfd
      rw [gst_nf (by decide), gst_nk (by decide), gst_nk (by decide), gst_nk (by decide), gst_nk (by decide)]
      exact ez1
    · rw [(a2 h3).zone (c := c) (σ1 := xStop σ (nI c)) (by omega) (fun f => ((Ur.lv (Ur.rf _)).g (by decide) (by decide) 6 c f (Or.inl (by decide))).symm), gst_nf (by decide), rLv_o (by omega)]
      exact ez1
/-- accept, as both do it -/
theorem LI.accept (h : LI g hs t B σ) (hB : B + 1 < 2 ^ 31) {c z o a : Nat} (hc : c < nC σ) (hz : z < 6) (ez : σ 16 c 1 = nI z) (h1 : σ 16 c 2 = 1) (ho : o < nO σ) (eo : σ 16 c 3 = nI o) (ha : a < 6) (ea : σ 17 o 0 = nI a) :
    xAcceptE σ (nI c) = 0 ∧ (∀ k i f, 8 ≤ k → xAccept σ (nI c) k i f = σ k i f) ∧ Xok g (xAccept σ (nI c)) ∧ Rr g (xAccept σ (nI c)) ∧ (xAccept σ (nI c) 18 z 0 = nI (rQn (xAccept σ (nI c)) z) ∧ rQn (xAccept σ (nI c)) z ≤ 10 ∧ rIn (xAccept σ (nI c)) z c) ∧
    AO g hs t (B + 1) σ (rAcc (xAccept σ (nI c)) c) ∧ xWay σ (σ 6 (ix (nI c)) 2) (σ 7 (ix (xOff σ (ix (nI c)))) 1) = σ 15 z a := by
  have h10 := h.2.2.1.c10
  have h60 := h.2.2.1.o60
  have hix : ix (nI c) = c := ix_nI (by omega)
  have hixo : ix (nI o) = o := ix_nI (by omega)
  have e8 : ∀ k i f, 8 ≤ k → xAccept σ (nI c) k i f = σ k i f := un8 (Un.mo (xAcc_n _ _))
  have hX : Xok g (xAccept σ (nI c)) := (((h.1.st rfl).st rfl).st rfl).mo
  have hR := h.2.1.c8 e8
  have hP := h.pre e8
  have s1 : σ 6 c 3 = 1 := (h.st2 hc).trans h1
  have ez2 : σ 6 c 2 = nI z := (h.2.2.1.cab hc).2.2.1.trans ez
  have e6 : σ 6 c 6 = nI o := (h.2.2.1.cab hc).2.2.2.2.1.trans eo
  have eoff : xOff σ c = nI o := by unfold xOff; rw [if_pos s1, e6]
  have ea2 : σ 7 o 1 = nI a := (h.2.2.1.ord ho).1.2.1.trans ea
  have hq := hP.tq.q hz
  have hI := hP.tq.at hc s1 hz ez2
  have eM : xMo (xAcc σ c o) = xAccept σ (nI c) := by unfold xAccept; rw [hix, eoff, hixo]
  refine ⟨?_, e8, hX, hR, ⟨hq.1, hq.2.1, hI⟩, ?_, ?_⟩
  · unfold xAcceptE
    rw [if_pos (okC_nI hc h10), hix, if_neg (by rw [eoff]; exact nI_nm (by omega))]
  · refine h.road (by rw [eM]; exact e8) (by rw [eM]; exact hX) ((hP.accept hc ho s1 e6 hz ez2 ha ea2).mono (Nat.le_succ B)) ?_ ?_ ?_ hB
    · unfold xAcc; rw [nO_g (by decide), nO_g (by decide), nO_g (by decide)]
    · rw [eM]; exact Ur.acc (Ur.rf _)
    · exact ((hR.lv.st (by decide)).st (by decide)).st (by decide)
  · rw [hix, eoff, hixo, ez2, ea2]
    obtain ⟨n, -, -, q1, q2⟩ := h.2.2.1.way hz ha
    rw [q1, q2]
/-- refuse, as both do it -/
theorem LI.refuse (h : LI g hs t B σ) (hB : B + 1 < 2 ^ 31) {c z o : Nat} (hc : c < nC σ) (hz : z < 6) (ez : σ 16 c 1 = nI z) (h1 : σ 16 c 2 = 1) (ho : o < nO σ) (eo : σ 16 c 3 = nI o) :
    xAcceptE σ (nI c) = 0 ∧ (∀ k i f, 8 ≤ k → xRefuse σ (nI c) k i f = σ k i f) ∧ Xok g (xRefuse σ (nI c)) ∧ Rr g (xRefuse σ (nI c)) ∧ (xRefuse σ (nI c) 18 z 0 = nI (rQn (xRefuse σ (nI c)) z) ∧ rQn (xRefuse σ (nI c)) z ≤ 10 ∧ rIn (xRefuse σ (nI c)) z c) ∧
    AO g hs t (B + 1) σ (rBack (rRfd (xRefuse σ (nI c)) c) c) ∧ xRefuse σ (nI c) 7 (ix (xOff σ (ix (nI c)))) 0 = nI o := by
  have h10 := h.2.2.1.c10
  have h60 := h.2.2.1.o60
  have hix : ix (nI c) = c := ix_nI (by omega)
  have hixo : ix (nI o) = o := ix_nI (by omega)
  have e8 : ∀ k i f, 8 ≤ k → xRefuse σ (nI c) k i f = σ k i f := un8 (Un.mo (Un.turn (Un.rf σ)))
  have hX : Xok g (xRefuse σ (nI c)) := h.1.turn.mo
  have hR := h.2.1.c8 e8
  have hP := h.pre e8
  have s1 : σ 6 c 3 = 1 := (h.st2 hc).trans h1
  have ez2 : σ 6 c 2 = nI z := (h.2.2.1.cab hc).2.2.1.trans ez
  have ez1 : xRefuse σ (nI c) 16 c 1 = nI z := (e8 16 c 1 (by decide)).trans ez
  have e6 : σ 6 c 6 = nI o := (h.2.2.1.cab hc).2.2.2.2.1.trans eo
  have eoff : xOff σ c = nI o := by unfold xOff; rw [if_pos s1, e6]
  have hq := hP.tq.q hz
  have hI := hP.tq.at hc s1 hz ez2
  have eM : xMo (xTurn σ c) = xRefuse σ (nI c) := by unfold xRefuse; rw [hix]
  have hT := hP.turnD hc (by rw [eoff]; exact nI_nm (by omega)) hz ez1
  refine ⟨?_, e8, hX, hR, ⟨hq.1, hq.2.1, hI⟩, ?_, ?_⟩
  · unfold xAcceptE
    rw [if_pos (okC_nI hc h10), hix, if_neg (by rw [eoff]; exact nI_nm (by omega))]
  · refine h.road (by rw [eM]; exact e8) (by rw [eM]; exact hX) hT.1 hT.2.2.1 ?_ ?_ hB
    · rw [eM]; exact Ur.back (Ur.rfd (Ur.rf _))
    · exact (hR.rfd (c := c)).back
  · rw [hix, eoff, hixo]
    exact hX.q7 (j := o) (by rw [← h.1.eO]; exact ho)
/-- cancel, as both do it -/
theorem LI.cancelN (h : LI g hs t B σ) {o : Nat} (ho : o < nO σ) (hs3 : ¬ σ 17 o 4 < 3) : xCancelE σ (nI o) = 2 := by
  have h60 := h.2.2.1.o60
  have e5 : σ 7 o 5 = σ 17 o 4 := (h.2.2.1.ord ho).1.2.2.2.2.2.1
  unfold xCancelE
  rw [if_pos (okO_nI ho h60), ix_nI (by omega), e5]
  rw [if_neg (fun q => hs3 (by rw [q]; decide)), if_neg (fun q => hs3 (by rw [q]; decide)), if_neg (fun q => hs3 (by rw [q]; decide))]
theorem LI.cancel (h : LI g hs t B σ) (hB : B + 1 < 2 ^ 31) {o : Nat} (ho : o < nO σ) (hs3 : σ 17 o 4 < 3) :
    xCancelE σ (nI o) = 0 ∧ (∀ k i f, 8 ≤ k → xCancel σ (nI o) k i f = σ k i f) ∧ Xok g (xCancel σ (nI o)) ∧ Rr g (xCancel σ (nI o)) ∧
    ((xCancel σ (nI o) 17 o 4 = 1 → inN (gcn g 16) (xCancel σ (nI o) 17 o 5)) ∧ (xCancel σ (nI o) 17 o 4 = 2 → ∃ c z, c < gcn g 16 ∧ xCancel σ (nI o) 17 o 5 = nI c ∧ z < 6 ∧ xCancel σ (nI o) 16 c 1 = nI z ∧ xCancel σ (nI o) 18 z 0 = nI (rQn (xCancel σ (nI o)) z) ∧ rQn (xCancel σ (nI o)) z ≤ 9)) ∧
    AO g hs t (B + 1) σ (rCan (xCancel σ (nI o)) o) ∧ σ 7 (ix (nI o)) 5 = σ 17 o 4 := by
  have h10 := h.2.2.1.c10
  have h60 := h.2.2.1.o60
  have hix : ix (nI o) = o := ix_nI (by omega)
  have e8 : ∀ k i f, 8 ≤ k → xCancel σ (nI o) k i f = σ k i f := un8 (Un.mo (Un.g7 (Un.rel (Un.rf σ))))
  have hX : Xok g (xCancel σ (nI o)) := (h.1.rel.st rfl).mo
  have hR := h.2.1.c8 e8
  have hP := h.pre e8
  have e16 := h.2.2.1.cC h.2.1
  have e5 : σ 7 o 5 = σ 17 o 4 := (h.2.2.1.ord ho).1.2.2.2.2.2.1
  have eM : xMo (gst (xRel σ o) 7 o 5 5) = xCancel σ (nI o) := by unfold xCancel; rw [hix]
  have hst : σ 7 o 5 = 0 ∨ σ 7 o 5 = 1 ∨ σ 7 o 5 = 2 := by
    rw [← e5] at hs3
    rcases h.2.2.1.l2 ho with ⟨q, -⟩ | ⟨c, hc, q6, q7⟩ | q | q
    · exact Or.inl q
    · obtain ⟨-, hL⟩ := h.2.2.1.lc hc (by omega) q6
      rw [hL.2.1] at hs3 ⊢
      rcases h.2.2.1.state hc with q | q | q | q
      · exact Or.inl q
      · exact Or.inr (Or.inl q)
      · exact Or.inr (Or.inr q)
      · rw [q] at hs3; exact absurd hs3 (by decide)
    · rw [q] at hs3; exact absurd hs3 (by decide)
    · rw [q] at hs3; exact absurd hs3 (by decide)
  have hstep : pR t (fun _ => 1) hs (B + 1) (gst (xRel σ o) 7 o 5 5) (rCan (xCancel σ (nI o)) o) := by
    rcases hst with q | q | q
    · exact (hP.cancel0 ho q).mono (Nat.le_succ B)
    · exact (hP.cancel1 ho q).mono (Nat.le_succ B)
    · exact hP.cancel2 ho q
  refine ⟨?_, e8, hX, hR, ?_, ?_, ?_⟩
  · unfold xCancelE
    rw [if_pos (okO_nI ho h60), hix]
    rcases hst with q | q | q <;> rw [q] <;> decide
  · rw [← e16]
    exact hP.canPre ho
  · refine h.road (by rw [eM]; exact e8) (by rw [eM]; exact hX) hstep ?_ ?_ hR.can hB
    · have : Un σ (gst (xRel σ o) 7 o 5 5) := Un.g7 (Un.rel (Un.rf σ))
      unfold nO
      rw [this 3 0 2 (by decide) (by decide) (fun z => absurd z.1 (by decide))]
    · rw [eM]; exact Ur.can (Ur.rf _)
  · rw [hix]; exact e5
end RDS
