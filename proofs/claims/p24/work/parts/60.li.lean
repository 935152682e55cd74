/-! what holds between two calls -/
def LA (g : gG) : Prop := (gcn g 21 = 1 ∧ gcn g 22 = 1) ∧ gln g 21 0 = 60 ∧ gln g 22 0 = 60
def LI (g : gG) (hs : Nat → Nat × Bool) (t B : Nat) (σ : Mem) : Prop := Xok g σ ∧ Rr g σ ∧ pR t (fun _ => 1) hs B σ σ ∧ pNW σ ∧ LA g ∧ ∀ o, nO σ ≤ o → hs o = (0, false)
def gSm (g g' : gG) : Prop := (g'.1 = g.1 ∧ g'.2.1 = g.2.1 ∧ g'.2.2.1 = g.2.2.1) ∧ (gad g' 0 0 = gad g 0 0 ∧ gad g' 8 0 = gad g 8 0) ∧ gad g' 21 0 = gad g 21 0 ∧ gad g' 22 0 = gad g 22 0
theorem gSm.rf (g : gG) : gSm g g := ⟨⟨rfl, rfl, rfl⟩, ⟨rfl, rfl⟩, rfl, rfl⟩
theorem gSm.tr {g g' g2 : gG} (h : gSm g g') (h2 : gSm g' g2) : gSm g g2 :=
  ⟨⟨h2.1.1.trans h.1.1, h2.1.2.1.trans h.1.2.1, h2.1.2.2.trans h.1.2.2⟩, ⟨h2.2.1.1.trans h.2.1.1, h2.2.1.2.trans h.2.1.2⟩, h2.2.2.1.trans h.2.2.1, h2.2.2.2.trans h.2.2.2⟩
theorem gSm.gro {g g' : gG} (h : gGro g g') : gSm g g' :=
  ⟨h.1, ⟨congrFun (h.2 0 (by decide) (by decide) (by decide) (by decide)).1 0, congrFun (h.2 8 (by decide) (by decide) (by decide) (by decide)).1 0⟩, congrFun (h.2 21 (by decide) (by decide) (by decide) (by decide)).1 0, congrFun (h.2 22 (by decide) (by decide) (by decide) (by decide)).1 0⟩
theorem gSm.add (g : gG) (k q n : Nat) (hk : k = 16 ∨ k = 17) : gSm g (gAdd g k q n) :=
  ⟨⟨rfl, rfl, rfl⟩, ⟨by rw [gAdd_ad, if_neg (fun z => by omega)], by rw [gAdd_ad, if_neg (fun z => by omega)]⟩, by rw [gAdd_ad, if_neg (fun z => by omega)], by rw [gAdd_ad, if_neg (fun z => by omega)]⟩
/-- from here the Rank makes its offers, and all is told alike -/
def AO (g : gG) (hs : Nat → Nat × Bool) (t B : Nat) (σ0 τ : Mem) : Prop := ∃ N, (∀ i, i < N → ¬ rBest (rOffN i τ) < 0) ∧ rBest (rOffN N τ) < 0 ∧ (∀ z, z < 6 → rQw (gcn g 16) τ z) ∧ (∀ o, o < gcn g 17 → inN 6 (τ 17 o 0)) ∧ Rr g τ ∧ LI g hs t B (rOffN N τ) ∧ (∀ k i f, 20 < k → rOffN N τ k i f = σ0 k i f) ∧ nO (rOffN N τ) ≤ nO σ0 + 1
section LIB
variable {t : Nat} {ag : Nat → Nat} {hs : Nat → Nat × Bool} {B B' : Nat} {σ σ1 σ' τ σ0 : Mem} {g : gG}
theorem pR.cC (h : pR t ag hs B σ' τ) (hR : Rr g τ) : nC σ' = gcn g 16 := by
  have h10 := h.c10
  have c10 := hR.c10
  exact nI_inj (by omega) (by omega) (h.1.2.1.1.symm.trans hR.nm)
theorem pR.cO (h : pR t ag hs B σ' τ) (hR : Rr g τ) : nO σ' = gcn g 17 := by
  have h10 := h.o60
  have c10 := hR.o60
  exact nI_inj (by omega) (by omega) (h.1.2.1.2.1.symm.trans hR.na)
theorem nO_c {σ σ' : Mem} (h : ∀ k i f, k < 8 → σ' k i f = σ k i f) : nO σ' = nO σ := by unfold nO; rw [h 3 0 2 (by decide)]
theorem nC_c {σ σ' : Mem} (h : ∀ k i f, k < 8 → σ' k i f = σ k i f) : nC σ' = nC σ := by unfold nC; rw [h 2 0 2 (by decide)]
theorem AO.of (hX : Xok g τ) (hR : Rr g τ) (hA : LA g) (h0 : pR t (fun _ => 1) hs B σ' τ) (hz : ∀ o, nO σ' ≤ o → hs o = (0, false)) (h8 : ∀ k i f, k < 8 → τ k i f = xMo σ' k i f) (hB : B < 2 ^ 31) (h21 : ∀ k i f, 20 < k → τ k i f = σ0 k i f) (hn : nO σ' ≤ nO σ0 + 1) : AO g hs t B σ0 τ := by
  have e16 := h0.cC hR
  have e17 := h0.cO hR
  obtain ⟨N, hN, hE, hP, hW, -, eO⟩ := h0.mo hB
  have hU : Ur τ (rOffN N τ) := Ur.offN (Ur.rf τ) N
  have hP2 : pR t (fun _ => 1) hs B (rOffN N τ) (rOffN N τ) := hP.congr (fun k i f hk => (hU k i f (Or.inl hk)).trans (h8 k i f hk)) (fun _ _ _ _ _ => rfl)
  have eO2 : nO (rOffN N τ) = nO σ' := (nO_c (fun k i f hk => (hU k i f (Or.inl hk)).trans (h8 k i f hk))).trans eO
  refine ⟨N, hN, hE, fun z hz => ?_, fun o ho => ?_, hR, ⟨hX.cong (fun k i f hk => hU k i f (Or.inl hk)), hR.offN N, hP2, ?_, hA, fun o ho => hz o (by omega)⟩, fun k i f hk => (hU k i f (Or.inr hk)).trans (h21 k i f hk), by omega⟩
  · rw [← e16]; exact h0.tq.q hz
  · have q := h0.ord (o := o) (by omega)
    rw [← q.1.2.1]; exact q.2.1
  · rcases hP2.be hB with ⟨-, q⟩ | ⟨o, q, hbo, -⟩
    · exact q
    · exfalso
      rw [q] at hE
      have := hP2.o60

      exact absurd hE (nI_pos (by omega))
theorem AO.thr (h : LI g hs t B σ) (hB : B < 2 ^ 31) : AO g hs t B σ σ := by
  obtain ⟨hX, hR, hP, hW, hA, hz⟩ := h
  have e16 := hP.cC hR
  have e17 := hP.cO hR
  refine ⟨0, fun i hi => absurd hi (Nat.not_lt_zero _), (hP.fix hB hW).2.2, fun z hz => ?_, fun o ho => ?_, hR, ⟨hX, hR, hP, hW, hA, hz⟩, fun _ _ _ _ => rfl, Nat.le_succ _⟩
  · rw [← e16]; exact hP.tq.q hz
  · have q := hP.ord (o := o) (by omega)
    rw [← q.1.2.1]; exact q.2.1
theorem LI.road (h : LI g hs t B σ) {ρ' : Mem} (e8 : ∀ k i f, 8 ≤ k → xMo σ' k i f = σ k i f) (hX : Xok g (xMo σ')) (step : pR t (fun _ => 1) hs B' σ' ρ') (eO : nO σ' = nO σ) (hu : Ur (xMo σ') ρ') (hR : Rr g ρ') (hB : B' < 2 ^ 31) : AO g hs t B' σ ρ' := by
  refine AO.of (hX.cong (fun k i f hk => hu k i f (Or.inl hk))) hR h.2.2.2.2.1 step (fun o ho => h.2.2.2.2.2 o (by omega)) (fun k i f hk => hu k i f (Or.inl hk)) hB (fun k i f hk => (hu k i f (Or.inr hk)).trans (e8 k i f (by omega))) (by omega)
theorem Rr.c8 (h : Rr g σ) (e8 : ∀ k i f, 8 ≤ k → σ1 k i f = σ k i f) : Rr g σ1 := h.cong (fun f _ => e8 8 0 f (by decide)) (fun K j h9 _ => e8 K 0 j (by omega))
theorem LI.pre (h : LI g hs t B σ) (e8 : ∀ k i f, 8 ≤ k → σ1 k i f = σ k i f) : pR t (fun _ => 1) hs B σ σ1 := h.2.2.1.congr (fun _ _ _ _ => rfl) (fun k i f hk _ => e8 k i f hk)
theorem un8 (h : Un σ σ1) : ∀ k i f, 8 ≤ k → σ1 k i f = σ k i f := fun k i f hk => h k i f (by omega) (by omega) (fun z => by omega)
theorem okC_nI {c : Nat} (hc : c < nC σ) (h10 : nC σ ≤ 10) : xOkC σ (nI c) = true := decide_eq_true ⟨nI_pos (by omega), nI_lt hc (by omega)⟩
theorem okO_nI {c : Nat} (hc : c < nO σ) (h10 : nO σ ≤ 60) : xOkO σ (nI c) = true := decide_eq_true ⟨nI_pos (by omega), nI_lt hc (by omega)⟩
theorem xInQ_c {σ σ' : Mem} (h : ∀ k i f, k < 8 → σ' k i f = σ k i f) (c : Nat) (z : Int32) : xInQ σ' c z = xInQ σ c z := by unfold xInQ; rw [h 6 c 3 (by decide), h 6 c 2 (by decide)]
theorem xPlGo_c {σ σ' : Mem} (h : ∀ k i f, k < 8 → σ' k i f = σ k i f) (c : Nat) : ∀ r k acc, xPlGo σ' c r k acc = xPlGo σ c r k acc
  | 0, _, _ => rfl
  | r + 1, k, acc => by
    rw [xPlGo, xPlGo, h 6 c 2 (by decide), xInQ_c h, h 6 c 4 (by decide), h 6 k 4 (by decide), xPlGo_c h c r, xPlGo_c h c r]
theorem xPlace_c {σ σ' : Mem} (h : ∀ k i f, k < 8 → σ' k i f = σ k i f) (c : Nat) : xPlace σ' c = xPlace σ c := by
  unfold xPlace nC
  rw [h 6 c 3 (by decide), h 2 0 2 (by decide), xPlGo_c h]
/-- start, as both do it -/
theorem LI.start (h : LI g hs t B σ) (hB : B + 1 < 2 ^ 31) {c z : Nat} (hc : c < nC σ) (hz : z < 6) (ez : σ 16 c 1 = nI z) (h0 : σ 16 c 2 = 0) :
    xStartE σ (nI c) = 0 ∧ (∀ k i f, 8 ≤ k → xStart σ (nI c) k i f = σ k i f) ∧ Xok g (xStart σ (nI c)) ∧ Rr g (xStart σ (nI c)) ∧ (xStart σ (nI c) 18 z 0 = nI (rQn (xStart σ (nI c)) z) ∧ rQn (xStart σ (nI c)) z ≤ 9) ∧
    AO g hs t (B + 1) σ (rJoin (gst (xStart σ (nI c)) 16 c 2 1) z c) ∧ xPlace (xStart σ (nI c)) (ix (nI c)) = nI (rQn (xStart σ (nI c)) z) := by
  have h10 := h.2.2.1.c10
  have hix : ix (nI c) = c := ix_nI (by omega)
  have e8 : ∀ k i f, 8 ≤ k → xStart σ (nI c) k i f = σ k i f := un8 (Un.mo (Un.join (Un.rf σ)))
  have hX : Xok g (xStart σ (nI c)) := h.1.join.mo
  have hR := h.2.1.c8 e8
  have hP := h.pre e8
  have hs0 : σ 6 c 3 = 0 := (hP.cab hc).2.2.2.1.trans ((e8 16 c 2 (by decide)).trans h0)
  have hst := hP.start hc hs0 hz ((e8 16 c 1 (by decide)).trans ez)
  have hq := hP.tq.q hz
  have hn : rQn (xStart σ (nI c)) z ≤ 9 := hP.tq.room h10 hc (by rw [hs0]; decide) hz
  have hA : AO g hs t (B + 1) σ (rJoin (gst (xStart σ (nI c)) 16 c 2 1) z c) := by
    refine h.road (σ' := xJoin σ c) (by rw [← hix]; exact e8) (by rw [← hix]; exact hX) hst ?_ ?_ (hR.st (by decide)).join (by omega)
    · unfold nO xJoin; rw [gst_nk (by decide), gst_nk (by decide), gst_nk (by decide)]
    · have : xMo (xJoin σ c) = xStart σ (nI c) := by unfold xStart; rw [hix]
      rw [this]
      exact Ur.join ((Ur.rf _).g (by decide) (by decide))
  refine ⟨?_, e8, hX, hR, ⟨hq.1, hn⟩, hA, ?_⟩
  · unfold xStartE
    rw [if_pos (okC_nI hc h10), hix, if_pos hs0]
  · obtain ⟨N, -, -, -, -, -, hL, -⟩ := hA
    have hP2 := hL.2.2.1
    have e18 : ∀ j, rOffN N (rJoin (gst (xStart σ (nI c)) 16 c 2 1) z c) 18 z j = rJoin (xStart σ (nI c)) z c 18 z j := fun j => (rOffN_18 N z j).trans (rJoin_18 (fun z j => gst_nk (by decide)) z j)
    have en : rQn (rOffN N (rJoin (gst (xStart σ (nI c)) 16 c 2 1) z c)) z = rQn (xStart σ (nI c)) z + 1 := by
      have : rQn (rOffN N (rJoin (gst (xStart σ (nI c)) 16 c 2 1) z c)) z = rQn (rJoin (xStart σ (nI c)) z c) z := by unfold rQn; rw [e18]
      rw [this, rJoin_n (by omega)]
    have hpl := hP2.place (by omega) hz (show c < 1000 by omega) (by omega) (by rw [en, e18]; exact rJoin_hi)
    rw [en, Nat.add_sub_cancel] at hpl
    rw [hix]
    have e : xPlace (rOffN N (rJoin (gst (xStart σ (nI c)) 16 c 2 1) z c)) c = xPlace (xStart σ (nI c)) c := xPlace_c (fun k i f hk => (Ur.offN (Ur.join ((Ur.rf _).g (by decide) (by decide))) N) k i f (Or.inl hk)) c
    rw [← e]
    exact hpl
end LIB
