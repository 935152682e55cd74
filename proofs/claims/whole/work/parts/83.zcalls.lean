section ZCS
variable {g : gG} {σ : Mem} {B : Nat} {w : Int64} {v : Option Value} {H : Heap}
theorem GW.hk (hG : GW g σ w H) (hX : Xok g σ) : ∀ o, o < nO σ → σ 7 o 6 = -1 ∨ ∃ j, j < nC σ ∧ σ 7 o 6 = nI j := fun o ho => by
  rw [hX.eO] at ho
  have q := hG.2.2.1 7 o 6 ho
  rw [hX.eC]
  exact q
theorem z_setWay (h : LI g σ B) (hB : B + 6010 < 2 ^ 31) (a b n : Int32) (hD : (¬ xSetWayE a b n = 0 ∧ v = some (.int (xSetWayE a b n)) ∧ GW g σ w H) ∨ (xSetWayE a b n = 0 ∧ v = some (.int 0) ∧ GW g (xSetWay σ a b n) (xWay σ a b).toInt64 H)) : ZC g (B + 6010) (fun μ => mSetWay μ a b n) v H := by
  have e8 : ∀ k i f, 8 ≤ k → xSetWay σ a b n k i f = σ k i f := fun k i f hk => by unfold xSetWay; rw [xPutWay_8 (by omega), xPutWay_8 (by omega)]
  have e3 : xSetWay σ a b n 3 0 2 = σ 3 0 2 := by unfold xSetWay; rw [xPutWay_8 (by decide), xPutWay_8 (by decide)]
  obtain ⟨p1, p2, p3⟩ := h.pre e8
  obtain ⟨q1, q2, q3⟩ := h.pre (σ1 := σ) (fun _ _ _ _ => rfl)
  refine ZC.of h hD (h.1.putWay.putWay) e8 e3 (fun z => (q1.s_way q2 a b n).2 z) (fun z => ?_) (by omega)
  obtain ⟨o1, o2, o3⟩ := (p1.s_way p2 a b n).1 z
  exact ⟨_, o1, o2, o3, Um.setWay _ _ _ _, t_way a b n z, by omega⟩
theorem z_start (h : LI g σ B) (hB : B + 6010 < 2 ^ 31) (n : Int32) (hD : (¬ xStartE σ n = 0 ∧ v = some (.int (xStartE σ n)) ∧ GW g σ w H) ∨ (xStartE σ n = 0 ∧ v = some (.int 0) ∧ GW g (xStart σ n) (xPlace (xStart σ n) (ix n)).toInt64 H)) : ZC g (B + 6010) (fun μ => mStart μ n) v H := by
  have hu : Un σ (xStart σ n) := Un.mo (Un.join (Un.rf σ))
  have e8 : ∀ k i f, 8 ≤ k → (xStart σ n) k i f = σ k i f := fun k i f hk => hu k i f (by omega) (by omega) (fun z => by omega)
  have e3 : (xStart σ n) 3 0 2 = σ 3 0 2 := hu 3 0 2 (by decide) (by decide) (fun z => absurd z.1 (by decide))
  obtain ⟨p1, p2, p3⟩ := h.pre e8
  obtain ⟨q1, q2, q3⟩ := h.pre (σ1 := σ) (fun _ _ _ _ => rfl)
  refine ZC.of h hD (h.1.join.mo) e8 e3 (fun z => (q1.s_start (by omega) q2 q3 n).2 z) (fun z => ?_) (by omega)
  obtain ⟨o1, o2, o3⟩ := (p1.s_start (by omega) p2 p3 n).1 z
  exact ⟨_, o1, o2, o3, Um.start _ _, p1.t_start p2 n z, by omega⟩
theorem z_stop (h : LI g σ B) (hB : B + 6010 < 2 ^ 31) (n : Int32) (hD : (¬ xStopE σ n = 0 ∧ v = some (.int (xStopE σ n)) ∧ GW g σ w H) ∨ (xStopE σ n = 0 ∧ v = some (.int 0) ∧ GW g (xStop σ n) (xStop σ n 6 (ix n) 2).toInt64 H)) : ZC g (B + 6010) (fun μ => mStop μ n) v H := by
  have hu : Un σ (xStop σ n) := Un.mo (Un.g6 (Un.turn (Un.rf σ)))
  have e8 : ∀ k i f, 8 ≤ k → (xStop σ n) k i f = σ k i f := fun k i f hk => hu k i f (by omega) (by omega) (fun z => by omega)
  have e3 : (xStop σ n) 3 0 2 = σ 3 0 2 := hu 3 0 2 (by decide) (by decide) (fun z => absurd z.1 (by decide))
  obtain ⟨p1, p2, p3⟩ := h.pre e8
  obtain ⟨q1, q2, q3⟩ := h.pre (σ1 := σ) (fun _ _ _ _ => rfl)
  refine ZC.of h hD ((h.1.turn.st rfl).mo) e8 e3 (fun z => (q1.s_stop (by omega) q2 q3 n).2 z) (fun z => ?_) (by omega)
  obtain ⟨o1, o2, o3⟩ := (p1.s_stop (by omega) p2 p3 n).1 z
  exact ⟨_, o1, o2, o3, Um.stop _ _, p1.t_stop p2 n z, by omega⟩
theorem z_setRates (h : LI g σ B) (hB : B + 6010 < 2 ^ 31) (a b : Int32) (hD : (¬ xSetRatesE a b = 0 ∧ v = some (.int (xSetRatesE a b)) ∧ GW g σ w H) ∨ (xSetRatesE a b = 0 ∧ v = some (.int 0) ∧ GW g (gst (gst σ 0 0 4 a) 0 0 5 b) (σ 0 0 4).toInt64 H)) : ZC g (B + 6010) (fun μ => mSetRates μ a b) v H := by
  have e8 : ∀ k i f, 8 ≤ k → (gst (gst σ 0 0 4 a) 0 0 5 b) k i f = σ k i f := fun k i f hk => by rw [gst_nk (by omega), gst_nk (by omega)]
  have e3 : (gst (gst σ 0 0 4 a) 0 0 5 b) 3 0 2 = σ 3 0 2 := by rw [gst_nk (by decide), gst_nk (by decide)]
  obtain ⟨p1, p2, p3⟩ := h.pre e8
  obtain ⟨q1, q2, q3⟩ := h.pre (σ1 := σ) (fun _ _ _ _ => rfl)
  refine ZC.of h hD ((h.1.st rfl).st rfl) e8 e3 (fun z => (q1.s_rates q2 a b).2 z) (fun z => ?_) (by omega)
  obtain ⟨o1, o2, o3⟩ := (p1.s_rates p2 a b).1 z
  exact ⟨_, o1, o2, o3, Um.setRates _ _ _, t_rates a b z, by omega⟩
theorem z_accept (h : LI g σ B) (hB : B + 6010 < 2 ^ 31) (n : Int32) (hD : (¬ xAcceptE σ n = 0 ∧ v = some (.int (xAcceptE σ n)) ∧ GW g σ w H) ∨ (xAcceptE σ n = 0 ∧ v = some (.int 0) ∧ GW g (xAccept σ n) (xWay σ (σ 6 (ix n) 2) (σ 7 (ix (xOff σ (ix n))) 1)).toInt64 H)) : ZC g (B + 6010) (fun μ => mAccept μ n) v H := by
  have hu : Un σ (xAccept σ n) := Un.mo (xAcc_n _ _)
  have e8 : ∀ k i f, 8 ≤ k → (xAccept σ n) k i f = σ k i f := fun k i f hk => hu k i f (by omega) (by omega) (fun z => by omega)
  have e3 : (xAccept σ n) 3 0 2 = σ 3 0 2 := hu 3 0 2 (by decide) (by decide) (fun z => absurd z.1 (by decide))
  obtain ⟨p1, p2, p3⟩ := h.pre e8
  obtain ⟨q1, q2, q3⟩ := h.pre (σ1 := σ) (fun _ _ _ _ => rfl)
  refine ZC.of h hD ((((h.1.st rfl).st rfl).st rfl).mo) e8 e3 (fun z => (q1.s_accept (by omega) q2 q3 n).2 z) (fun z => ?_) (by omega)
  obtain ⟨o1, o2, o3⟩ := (p1.s_accept (by omega) p2 p3 n).1 z
  exact ⟨_, o1, o2, o3, Um.accept _ _, (p1.t_accept p2 n z).1, by omega⟩
theorem z_refuse (h : LI g σ B) (hB : B + 6010 < 2 ^ 31) (n : Int32) (hD : (¬ xAcceptE σ n = 0 ∧ v = some (.int (xAcceptE σ n)) ∧ GW g σ w H) ∨ (xAcceptE σ n = 0 ∧ v = some (.int 0) ∧ GW g (xRefuse σ n) (xRefuse σ n 7 (ix (xOff σ (ix n))) 0).toInt64 H)) : ZC g (B + 6010) (fun μ => mRefuse μ n) v H := by
  have hu : Un σ (xRefuse σ n) := Un.mo (Un.turn (Un.rf σ))
  have e8 : ∀ k i f, 8 ≤ k → (xRefuse σ n) k i f = σ k i f := fun k i f hk => hu k i f (by omega) (by omega) (fun z => by omega)
  have e3 : (xRefuse σ n) 3 0 2 = σ 3 0 2 := hu 3 0 2 (by decide) (by decide) (fun z => absurd z.1 (by decide))
  obtain ⟨p1, p2, p3⟩ := h.pre e8
  obtain ⟨q1, q2, q3⟩ := h.pre (σ1 := σ) (fun _ _ _ _ => rfl)
  refine ZC.of h hD (h.1.turn.mo) e8 e3 (fun z => (q1.s_refuse (by omega) q2 q3 n).2 z) (fun z => ?_) (by omega)
  obtain ⟨o1, o2, o3⟩ := (p1.s_refuse (by omega) p2 p3 n).1 z
  have hz : xOkC σ n = true ∧ ¬ xOff σ (ix n) = -1 := by
    unfold xAcceptE at z
    by_cases c : xOkC σ n = true
    · rw [if_pos c] at z
      by_cases d : xOff σ (ix n) = -1
      · rw [if_pos d] at z; exact absurd z (by decide)
      · exact ⟨c, d⟩
    · rw [if_neg c] at z; exact absurd z (by decide)
  obtain ⟨d1, d6⟩ := xOff_iff.mp hz.2
  have hc : ix n < nC σ := by rw [h.1.eC]; exact (h.1.okC hz.1).1
  obtain ⟨o, ho, eo, eo2, -⟩ := h.2.2.1.of6 hc d6
  have ex : xOff σ (ix n) = σ 6 (ix n) 6 := by unfold xOff; rw [if_pos d1]
  have e7 : xRefuse σ n 7 o 0 = nI o := (h.1.turn.mo).q7 (j := o) (by rw [← h.1.eO]; exact ho)
  have ea : σ 6 (ix n) 6 = xRefuse σ n 7 (ix (xOff σ (ix n))) 0 := by rw [ex, eo2, e7]; exact eo
  exact ⟨_, o1.trans ea, o2, o3, Um.refuse _ _, (p1.t_accept p2 n z).2, by omega⟩
theorem z_cancel (h : LI g σ B) (hB : B + 6010 < 2 ^ 31) (n : Int32) (hD : (¬ xCancelE σ n = 0 ∧ v = some (.int (xCancelE σ n)) ∧ GW g σ w H) ∨ (xCancelE σ n = 0 ∧ v = some (.int 0) ∧ GW g (xCancel σ n) (σ 7 (ix n) 5).toInt64 H)) : ZC g (B + 6010) (fun μ => mCancel μ n) v H := by
  have hu : Un σ (xCancel σ n) := Un.mo (Un.g7 (Un.rel (Un.rf σ)))
  have e8 : ∀ k i f, 8 ≤ k → (xCancel σ n) k i f = σ k i f := fun k i f hk => hu k i f (by omega) (by omega) (fun z => by omega)
  have e3 : (xCancel σ n) 3 0 2 = σ 3 0 2 := hu 3 0 2 (by decide) (by decide) (fun z => absurd z.1 (by decide))
  obtain ⟨p1, p2, p3⟩ := h.pre e8
  obtain ⟨q1, q2, q3⟩ := h.pre (σ1 := σ) (fun _ _ _ _ => rfl)
  refine ZC.of h hD ((h.1.rel.st rfl).mo) e8 e3 (fun z => (q1.s_cancel (by omega) q2 n).2 z) (fun z => ?_) (by omega)
  obtain ⟨o1, o2, o3⟩ := (p1.s_cancel (by omega) p2 n).1 z
  exact ⟨_, o1, o2, o3, Um.cancel _ _, p1.t_cancel p2 n z, by omega⟩
theorem z_tick (h : LI g σ B) (hB : B + 6010 < 2 ^ 31) (n : Int32) (hD : (¬ xTickE σ n = 0 ∧ v = some (.int (xTickE σ n)) ∧ GW g σ w H) ∨ (xTickE σ n = 0 ∧ v = some (.int 0) ∧ GW g ((xTick σ n).2) ((xTick σ n).1).toInt64 H)) : ZC g (B + 6010) (fun μ => mTick μ n) v H := by
  have e8 : ∀ k i f, 8 ≤ k → ((xTick σ n).2) k i f = σ k i f := fun k i f hk => xTick_8 _ _ _ i f (by omega) (by omega) (by omega)
  have e3 : ((xTick σ n).2) 3 0 2 = σ 3 0 2 := xTick_8 _ _ _ 0 2 (by decide) (by decide) (by decide)
  obtain ⟨p1, p2, p3⟩ := h.pre e8
  obtain ⟨q1, q2, q3⟩ := h.pre (σ1 := σ) (fun _ _ _ _ => rfl)
  refine ZC.of h hD (Xok.tickGo _ _ h.1) e8 e3 (fun z => (q1.s_tick (by omega) q2 n).2 z) (fun z => ?_) (by omega)
  obtain ⟨o1, o2, o3, -⟩ := (p1.s_tick (by omega) p2 n).1 z
  have hn3 := (p1.t_tick n z).2
  exact ⟨_, o1, o2, o3, Um.tick _ _, (p1.t_tick n z).1, by omega⟩
theorem z_settle (h : LI g σ B) (hB : B + 6010 < 2 ^ 31) (n : Int32) (hD : (¬ xMoneyE σ n = 0 ∧ v = some (.int (xMoneyE σ n)) ∧ GW g σ w H) ∨ (xMoneyE σ n = 0 ∧ v = some (.int 0) ∧ GW g (gst σ 6 (ix n) 8 0) (σ 6 (ix n) 8).toInt64 H)) : ZC g (B + 6010) (fun μ => mSettle μ n) v H := by
  have hu : Un σ (gst σ 6 (ix n) 8 0) := Un.g6 (Un.rf σ)
  have e8 : ∀ k i f, 8 ≤ k → (gst σ 6 (ix n) 8 0) k i f = σ k i f := fun k i f hk => hu k i f (by omega) (by omega) (fun z => by omega)
  have e3 : (gst σ 6 (ix n) 8 0) 3 0 2 = σ 3 0 2 := hu 3 0 2 (by decide) (by decide) (fun z => absurd z.1 (by decide))
  obtain ⟨p1, p2, p3⟩ := h.pre e8
  obtain ⟨q1, q2, q3⟩ := h.pre (σ1 := σ) (fun _ _ _ _ => rfl)
  refine ZC.of h hD (h.1.st rfl) e8 e3 (fun z => (q1.s_settle q2 q3 n).2 z) (fun z => ?_) (by omega)
  obtain ⟨o1, o2, o3⟩ := (p1.s_settle p2 p3 n).1 z
  exact ⟨_, o1, o2, o3, Um.settle _ _, p1.t_settle p2 n z, by omega⟩
theorem z_cab (h : LI g σ B) (hB : B + 6010 < 2 ^ 31) (n x : Int32) (hD : (¬ xCabE σ n x = 0 ∧ v = some (.int (xCabE σ n x)) ∧ GW g σ w H) ∨ (xCabE σ n x = 0 ∧ v = some (.int 0) ∧ GW g σ (xCabDet σ (ix n) x).toInt64 H)) : ZC g (B + 6010) (fun μ => mCab μ n x) v H := by
  obtain ⟨q1, q2, q3⟩ := h.pre (σ1 := σ) (fun _ _ _ _ => rfl)
  exact ZC.ofQ h hD (q1.s_cab (by omega) q2.1 q3 n x) (by omega)
theorem z_told (h : LI g σ B) (hB : B + 6010 < 2 ^ 31) (hk : ∀ o, o < nO σ → σ 7 o 6 = -1 ∨ ∃ j, j < nC σ ∧ σ 7 o 6 = nI j) (n x : Int32) (hD : (¬ xToldE σ n x = 0 ∧ v = some (.int (xToldE σ n x)) ∧ GW g σ w H) ∨ (xToldE σ n x = 0 ∧ v = some (.int 0) ∧ GW g σ (xOrdDet σ (ix n) x).toInt64 H)) : ZC g (B + 6010) (fun μ => mTold μ n x) v H := by
  obtain ⟨q1, q2, q3⟩ := h.pre (σ1 := σ) (fun _ _ _ _ => rfl)
  exact ZC.ofQ h hD (q1.s_told q2.1 q3 hk n x) (by omega)
theorem z_fare (h : LI g σ B) (hB : B + 6010 < 2 ^ 31) (n x : Int32) (hD : (¬ xToldE σ n x = 0 ∧ v = some (.int (xToldE σ n x)) ∧ GW g σ w H) ∨ (xToldE σ n x = 0 ∧ v = some (.int 0) ∧ GW g σ (xFareP σ (ix n) x).toInt64 H)) : ZC g (B + 6010) (fun μ => mFareX μ n x) v H := by
  obtain ⟨q1, q2, q3⟩ := h.pre (σ1 := σ) (fun _ _ _ _ => rfl)
  exact ZC.ofQ h hD (q1.s_fare q2.1 q3 n x) (by omega)
theorem z_queue (h : LI g σ B) (hB : B + 6010 < 2 ^ 31) (z p : Int32) (hD : (¬ xQueueE z p = 0 ∧ v = some (.int (xQueueE z p)) ∧ GW g σ w H) ∨ (xQueueE z p = 0 ∧ v = some (.int 0) ∧ GW g σ (xCiq σ z p).toInt64 H)) : ZC g (B + 6010) (fun μ => mQueue μ z p) v H := by
  obtain ⟨q1, q2, q3⟩ := h.pre (σ1 := σ) (fun _ _ _ _ => rfl)
  exact ZC.ofQ h hD (q1.s_queue (by omega) q3 z p) (by omega)
theorem z_count (h : LI g σ B) (hB : B + 6010 < 2 ^ 31) (x : Int32) (hD : (¬ xCountE x = 0 ∧ v = some (.int (xCountE x)) ∧ GW g σ w H) ∨ (xCountE x = 0 ∧ v = some (.int 0) ∧ GW g σ (xCount σ x).toInt64 H)) : ZC g (B + 6010) (fun μ => mCount μ x) v H := by
  obtain ⟨q1, q2, q3⟩ := h.pre (σ1 := σ) (fun _ _ _ _ => rfl)
  exact ZC.ofQ h hD (q1.s_count q2.1 q3 x) (by omega)
theorem z_money (h : LI g σ B) (hB : B + 6010 < 2 ^ 31) (n b : Int32) (hD : (¬ xMoneyE σ n = 0 ∧ v = some (.int (xMoneyE σ n)) ∧ GW g σ w H) ∨ (xMoneyE σ n = 0 ∧ v = some (.int 0) ∧ GW g σ (xMoney σ n b).toInt64 H)) : ZC g (B + 6010) (fun μ => mMoney μ n b) v H := by
  obtain ⟨q1, q2, q3⟩ := h.pre (σ1 := σ) (fun _ _ _ _ => rfl)
  exact ZC.ofQ h hD (q1.s_money q2.1 q3 n b) (by omega)
theorem z_nearest (h : LI g σ B) (hB : B + 6010 < 2 ^ 31) (z n : Int32) (hD : (¬ xNearE z n = 0 ∧ v = some (.int (xNearE z n)) ∧ GW g σ w H) ∨ (xNearE z n = 0 ∧ v = some (.int 0) ∧ GW g σ (xNear σ z n).toInt64 H)) : ZC g (B + 6010) (fun μ => mNearest μ z n) v H := by
  obtain ⟨q1, q2, q3⟩ := h.pre (σ1 := σ) (fun _ _ _ _ => rfl)
  exact ZC.ofQ h hD (q1.s_nearest q3 z n) (by omega)
end ZCS
