section LAWQ
variable {t B : Nat} {hs : Nat → Nat × Bool} {σ σ' μ ρ : Mem} {g : gG}
theorem LI.rebase (h : LI g hs t B μ) (hI : IA hs (nO μ) μ) : ∃ hs', LI g hs' t B μ ∧ IA hs' 0 μ := by
  have h60 := h.2.2.1.o60
  refine ⟨fun j => if j < nO μ then (ix (μ 7 j 8), decide (¬ μ 22 0 j ≤ 2)) else (0, false), ⟨h.1, h.2.1, h.2.2.1.base (fun o ho => ?_), h.2.2.2.1, h.2.2.2.2.1, fun o ho => ?_⟩, fun j hj => ⟨fun q => absurd q (Nat.not_lt_zero _), fun _ => ?_⟩⟩
  · rw [if_pos ho]
    refine ⟨rfl, fun q => ?_⟩
    exact ((hI o (by omega)).1 ho).2 (of_decide_eq_true q)
  · dsimp only
    rw [if_neg (by omega)]
  · by_cases hjn : j < nO μ
    · dsimp only
      rw [if_pos hjn]
      obtain ⟨⟨x, ex, hx, -⟩, -⟩ := h.2.2.1.bit hjn
      have h10 := h.2.2.1.c10
      have hx2 : x < 1024 := Nat.lt_of_lt_of_le hx (Nat.pow_le_pow_right (n := 2) (j := 10) (by decide) h10)
      have a := (hI j hj).1 hjn
      refine ⟨?_, fun q => decide_eq_true q⟩
      rw [a.1, ex, ix_nI (by omega)]
    · dsimp only
      rw [if_neg hjn]
      have a := (hI j hj).2 (by omega)
      rw [h.2.2.2.2.2 j (by omega)] at a
      exact a
/-! the last loop: cabs refuse until nothing is offered -/
def FI (g : gG) (hs : Nat → Nat × Bool) (t B : Nat) (μ ρ : Mem) : Prop := Xok g μ ∧ Rr g μ ∧ Rr g ρ ∧ pR t (fun _ => 1) hs B μ ρ
def clr (μ : Mem) (c : Nat) : Nat → Bool := fun o => decide (μ 7 o 8 &&& ((1 : Int32) <<< (nI c &&& 31)) = 0)
theorem xMo_78 {σ : Mem} {j : Nat} : xMo σ 7 j 8 = σ 7 j 8 := by
  have go : ∀ (r : Nat) (σ : Mem), xMoGo r σ 7 j 8 = σ 7 j 8 := by
    intro r
    induction r with
    | zero => intro σ; rfl
    | succ r ih =>
      intro σ
      have hn : xMno σ 7 j 8 = σ 7 j 8 := by
        unfold xMno
        repeat' split
        all_goals first | rfl | (unfold xOffer; rw [gst_nk (by decide), gst_nf (by decide), gst_nf (by decide), gst_nf (by decide)])
      rw [xMoGo]
      split
      · rw [ih, hn]
      · exact hn
  exact go _ _
theorem FI.step (h : FI g hs t B μ ρ) (hB : B + 1 < 2 ^ 31) {c : Nat} (hc : c < gcn g 6) (h1 : μ 6 c 3 = 1) (h3 : ¬ xCabDet μ c 3 < 0) :
    xAcceptE μ (nI c) = 0 ∧ (∃ ρ', FI g hs t (B + 1) (xRefuse μ (nI c)) ρ') ∧ cntB (clr (xRefuse μ (nI c)) c) (gcn g 7) + 1 = cntB (clr μ c) (gcn g 7) := by
  obtain ⟨hX, hR, hRr, hP⟩ := h
  have h10 := hP.c10
  have h60 := hP.o60
  have e6 := hX.eC
  have e7 := hX.eO
  have hcn : c < nC μ := by omega
  have hix : ix (nI c) = c := ix_nI (by omega)
  have h66 : ¬ μ 6 c 6 = -1 := fun z => by
    apply h3
    unfold xCabDet
    rw [if_neg (by decide), if_neg (by decide), if_neg (by decide), if_pos rfl, if_pos z]
    decide
  obtain ⟨o, ho, eo, eix, hL⟩ := hP.of6 hcn h66
  obtain ⟨_, _, _, _, _, _, _, _, _, hr19⟩ := hL.s1 h1
  have hbit : μ 7 o 8 &&& ((1 : Int32) <<< (nI c &&& 31)) = 0 := ((hP.bit ho).2.1 c (by omega)).mpr hr19
  have eoff : xOff μ c = nI o := by unfold xOff; rw [if_pos h1, eo]
  obtain ⟨-, -, ez, -, -, z, hz, ez2⟩ := hP.cab hcn
  have hT := hP.turnD hcn (by rw [eoff]; exact nI_nm (by omega)) hz (ez.symm.trans ez2)
  obtain ⟨N, -, -, hP2, -, -, -⟩ := hT.1.mo hB
  have eM : xMo (xTurn μ c) = xRefuse μ (nI c) := by unfold xRefuse; rw [hix]
  rw [eM] at hP2
  have e8 : ∀ k i f, 8 ≤ k → xRefuse μ (nI c) k i f = μ k i f := un8 (Un.mo (Un.turn (Un.rf μ)))
  refine ⟨?_, ⟨_, hX.turn.mo.cong (fun k i f _ => by rw [← eM]), hR.c8 e8, ((hRr.rfd (c := c)).back (c := c)).offN N, hP2⟩, ?_⟩
  · unfold xAcceptE
    rw [if_pos (okC_nI hcn h10), hix, if_neg (by rw [eoff]; exact nI_nm (by omega))]
  · have e78 : ∀ j, xRefuse μ (nI c) 7 j 8 = if j = o then μ 7 o 8 ||| ((1 : Int32) <<< (nI c &&& 31)) else μ 7 j 8 := fun j => by
      rw [← eM, xMo_78]
      unfold xTurn
      rw [eoff, if_neg (nI_nm (by omega)), ix_nI (by omega)]
      unfold xJoin xBit
      rw [(hP.cab hcn).1]
      simp only [gst_app]
      by_cases e : j = o
      · subst e; simp
      · simp [e]
    have hco : clr μ c o = true := decide_eq_true hbit
    rw [cntB_rm hco (gcn g 7) (by omega)]
    congr 1
    refine cntB_cong _ (fun j hj => ?_)
    unfold clr
    rw [e78 j]
    by_cases e : j = o
    · subst e
      rw [if_pos rfl]
      have : ¬ ((μ 7 j 8 ||| ((1 : Int32) <<< (nI c &&& 31))) &&& ((1 : Int32) <<< (nI c &&& 31)) = 0) := fun q => ((bz_or _ (by omega) (by omega)).mp q).1 rfl
      simp [this]
    · rw [if_neg e]
      simp [e]
theorem cntB_n {f : Nat → Bool} : ∀ n, cntB f n ≤ n
  | 0 => Nat.le_refl _
  | n + 1 => by
    have a := cntB_n (f := f) n
    rw [cntB]
    split <;> omega
end LAWQ
