theorem gst98 {σ : Mem} {i f : Nat} {v : Int32} {i' f' : Nat} : gst σ 9 i f v 8 i' f' = σ 8 i' f' := gst_nk (by decide)
def mIsOff (σ : Mem) (c : Nat) : Bool := if σ 9 3 c = 1 then (if σ 9 4 c = -1 then false else true) else false
def mCabTold (σ : Mem) (c : Nat) (x : Int32) : Int32 := if x = 0 then σ 9 3 c else if x = 1 then σ 9 2 c else if x = 2 then σ 9 1 c else if x = 3 then σ 9 4 c else mPl σ c
def mOrdTold (σ : Mem) (o q : Nat) : Int32 := if nI q = 4 then bcnt (σ 9 10 o) else mT σ o (4 + q)
def mSum (σ : Mem) (o : Nat) : Int32 := σ 9 11 (4 * o) + σ 9 11 (4 * o + 1) + σ 9 11 (4 * o + 2) + σ 9 11 (4 * o + 3)
def mFare (σ : Mem) (o q : Nat) : Int32 := if 4 ≤ nI q then mSum σ o else σ 9 11 (4 * o + q)
def mRide (σ : Mem) (c o : Nat) : Mem :=
  gst (gst (gst (gst (gst (gst (gst (gst (gst σ 9 3 c 3) 9 2 c (mT σ o 0)) 9 5 c (σ 8 0 1 + mWay σ (mT σ o 0) (mT σ o 1))) 9 9 (8 * o + 4) 3) 9 9 (8 * o + 6) (σ 8 0 1)) 9 11 (4 * o) (σ 8 0 3)) 9 11 (4 * o + 1) (σ 8 0 4 * mWay σ (mT σ o 0) (mT σ o 1)))
    9 11 (4 * o + 2) (-(if σ 8 0 1 - mT σ o 3 < 5 then σ 8 0 1 - mT σ o 3 else 5))) 9 11 (4 * o + 3) (if 360 ≤ σ 8 0 1 - σ 8 0 1 / 1440 * 1440 then 0 else (σ 8 0 3 + σ 8 0 4 * mWay σ (mT σ o 0) (mT σ o 1)) / 2)
def mKeep (σ : Mem) (o : Nat) : Int32 := mSum σ o * 80 / 100
def mDone (σ : Mem) (c o : Nat) : Mem :=
  mFree (gst (gst (gst (gst σ 9 9 (8 * o + 4) 4) 9 9 (8 * o + 7) (σ 8 0 1)) 9 7 c (σ 9 7 c + mKeep σ o)) 9 8 c (σ 9 8 c + (mSum σ o - mKeep σ o))) c (mT σ o 1)
theorem Mok.ride {g : gG} {σ : Mem} {c o : Nat} (h : Mok g σ) (ho : o < 60) : Mok g (mRide σ c o) :=
  ((((((((h.st9 (by decide)).stZ (h.t0 ho)).st9 (by decide)).stT (by decide)).stT (by decide)).st9 (by decide)).st9 (by decide)).st9 (by decide)).st9 (by decide)
theorem Mok.done {g : gG} {σ : Mem} {c o : Nat} (h : Mok g σ) (ho : o < 60) : Mok g (mDone σ c o) :=
  ((((h.stT (by decide)).stT (by decide)).st9 (by decide)).st9 (by decide)).free (h.t1 ho)
/-- what a cab has to do with is an order; a cab on CALL or BUSY has one -/
def Mf (g : gG) (σ : Mem) : Prop := Mok g σ ∧ (∀ c, c < 10 → σ 9 4 c = -1 ∨ ∃ o, o < 60 ∧ σ 9 4 c = nI o) ∧ (∀ c, c < 10 → σ 9 3 c = 2 ∨ σ 9 3 c = 3 → ¬ σ 9 4 c = -1)
theorem Mf.of {g : gG} {σ σ' : Mem} (h : Mf g σ) (hM : Mok g σ') (h4 : ∀ c, c < 10 → (σ' 9 4 c = σ 9 4 c ∧ (σ' 9 3 c = σ 9 3 c ∨ ¬ σ 9 4 c = -1)) ∨ (∃ o, o < 60 ∧ σ' 9 4 c = nI o) ∨ (σ' 9 4 c = -1 ∧ ¬ σ' 9 3 c = 2 ∧ ¬ σ' 9 3 c = 3)) : Mf g σ' := by
  refine ⟨hM, fun c hc => ?_, fun c hc h3 => ?_⟩
  · rcases h4 c hc with ⟨e, -⟩ | e | ⟨e, -, -⟩
    · rw [e]; exact h.2.1 c hc
    · exact Or.inr e
    · exact Or.inl e
  · rcases h4 c hc with ⟨e, e2⟩ | ⟨o, ho, e⟩ | ⟨-, e2, e3⟩
    · rw [e]
      rcases e2 with e2 | e2
      · rw [e2] at h3; exact h.2.2 c hc h3
      · exact e2
    · rw [e]; exact nI_nm (by omega)
    · rcases h3 with z | z
      · exact absurd z e2
      · exact absurd z e3
theorem Mf.now {g : gG} {σ : Mem} {v : Int32} (h : Mf g σ) : Mf g (gst σ 8 0 1 v) := h.of (h.1.st8 rfl) (fun c _ => Or.inl ⟨gst_nk (by decide), Or.inl (gst_nk (by decide))⟩)
theorem Mf.thr {g : gG} {σ : Mem} {v : Int32} (h : Mf g σ) : Mf g (gst σ 8 0 0 v) := h.of (h.1.st8 rfl) (fun c _ => Or.inl ⟨gst_nk (by decide), Or.inl (gst_nk (by decide))⟩)
theorem mQup_3 {σ : Mem} {c k : Nat} : mQup σ c 9 3 k = σ 9 3 k := by unfold mQup; rw [gst_ni (by decide), gst_nk (by decide)]
theorem mQup_4 {σ : Mem} {c k : Nat} : mQup σ c 9 4 k = σ 9 4 k := by unfold mQup; rw [gst_ni (by decide), gst_nk (by decide)]
theorem Mf.qup {g : gG} {σ : Mem} {c : Nat} (h : Mf g σ) : Mf g (mQup σ c) := h.of h.1.qup (fun k _ => Or.inl ⟨mQup_4, Or.inl mQup_3⟩)
theorem mRfd_3 {σ : Mem} {c k : Nat} : mRfd σ c 9 3 k = σ 9 3 k := by
  unfold mRfd
  split
  · rfl
  · rw [gst_ni (by decide), gst_ni (by decide), gst_ni (by decide), gst_ni (by decide)]
theorem mRfd_4 {σ : Mem} {c k : Nat} : mRfd σ c 9 4 k = if k = c then -1 else σ 9 4 k := by
  unfold mRfd
  split
  · next h =>
    split
    · next e => rw [e, h]
    · rfl
  · by_cases e : k = c
    · subst e; rw [gst_eq, if_pos rfl]
    · rw [gst_nf e, gst_ni (by decide), gst_ni (by decide), gst_ni (by decide), if_neg e]
theorem Mf.rfd {g : gG} {σ : Mem} {c : Nat} (h : Mf g σ) (hc : σ 9 3 c = 1) : Mf g (mRfd σ c) := h.of h.1.rfd (fun k _ => by
  rw [mRfd_3, mRfd_4]
  by_cases e : k = c
  · subst e
    rw [if_pos rfl, hc]
    exact Or.inr (Or.inr ⟨rfl, by decide, by decide⟩)
  · rw [if_neg e]
    exact Or.inl ⟨rfl, Or.inl rfl⟩)
theorem mFree_3 {σ : Mem} {c k : Nat} {z : Int32} : mFree σ c z 9 3 k = if k = c then 1 else σ 9 3 k := by
  unfold mFree
  rw [mQup_3, gst_ni (by decide), gst_ni (by decide)]
  by_cases e : k = c
  · subst e; rw [gst_eq, if_pos rfl]
  · rw [gst_nf e, if_neg e]
theorem mFree_4 {σ : Mem} {c k : Nat} {z : Int32} : mFree σ c z 9 4 k = if k = c then -1 else σ 9 4 k := by
  unfold mFree
  rw [mQup_4]
  by_cases e : k = c
  · subst e; rw [gst_eq, if_pos rfl]
  · rw [gst_nf e, if_neg e, gst_ni (by decide), gst_ni (by decide)]
theorem Mf.free {g : gG} {σ : Mem} {c : Nat} {z : Int32} (h : Mf g σ) (hz : mZ z) : Mf g (mFree σ c z) := h.of (h.1.free hz) (fun k _ => by
  rw [mFree_3, mFree_4]
  by_cases e : k = c
  · rw [if_pos e, if_pos e]
    exact Or.inr (Or.inr ⟨rfl, by decide, by decide⟩)
  · rw [if_neg e, if_neg e]
    exact Or.inl ⟨rfl, Or.inl rfl⟩)
theorem mRide_3 {σ : Mem} {c o k : Nat} : mRide σ c o 9 3 k = if k = c then 3 else σ 9 3 k := by
  unfold mRide
  rw [gst_ni (by decide), gst_ni (by decide), gst_ni (by decide), gst_ni (by decide), gst_ni (by decide), gst_ni (by decide), gst_ni (by decide), gst_ni (by decide)]
  by_cases e : k = c
  · subst e; rw [gst_eq, if_pos rfl]
  · rw [gst_nf e, if_neg e]
theorem mRide_4 {σ : Mem} {c o k : Nat} : mRide σ c o 9 4 k = σ 9 4 k := by
  unfold mRide
  rw [gst_ni (by decide), gst_ni (by decide), gst_ni (by decide), gst_ni (by decide), gst_ni (by decide), gst_ni (by decide), gst_ni (by decide), gst_ni (by decide), gst_ni (by decide)]
theorem Mf.ride {g : gG} {σ : Mem} {c o : Nat} (h : Mf g σ) (ho : o < 60) (hc : ¬ σ 9 4 c = -1) : Mf g (mRide σ c o) := h.of (h.1.ride ho) (fun k _ => by
  rw [mRide_3, mRide_4]
  by_cases e : k = c
  · subst e; exact Or.inl ⟨rfl, Or.inr hc⟩
  · rw [if_neg e]; exact Or.inl ⟨rfl, Or.inl rfl⟩)
theorem Mf.done {g : gG} {σ : Mem} {c o : Nat} (h : Mf g σ) (ho : o < 60) : Mf g (mDone σ c o) := by
  unfold mDone
  refine Mf.free (h.of ((((h.1.stT (by decide)).stT (by decide)).st9 (by decide)).st9 (by decide)) (fun k _ => Or.inl ⟨?_, Or.inl ?_⟩)) (h.1.t1 ho)
  · rw [gst_ni (by decide), gst_ni (by decide), gst_ni (by decide), gst_ni (by decide)]
  · rw [gst_ni (by decide), gst_ni (by decide), gst_ni (by decide), gst_ni (by decide)]
theorem Mf.off1 {g : gG} {σ : Mem} (h : Mf g σ) (hb : ¬ mBest σ = -1) : Mf g (mOff1 σ) := by
  obtain ⟨o, c, ho, hc, eo, eo2, ec, ec2, hcan⟩ := h.1.best hb
  have h60 := h.1.o60
  refine h.of h.1.off1 (fun k _ => ?_)
  have e3 : mOff1 σ 9 3 k = σ 9 3 k := by unfold mOff1; rw [gst_ni (by decide), gst_ni (by decide), gst_ni (by decide), gst_ni (by decide)]
  have e4 : mOff1 σ 9 4 k = if k = c then mBest σ else σ 9 4 k := by
    unfold mOff1
    rw [gst_ni (by decide), gst_ni (by decide), gst_ni (by decide), eo2, ec2]
    by_cases e : k = c
    · subst e; rw [gst_eq, if_pos rfl]
    · rw [gst_nf e, if_neg e]
  rw [e3, e4]
  by_cases e : k = c
  · rw [if_pos e, eo]; exact Or.inr (Or.inl ⟨o, by omega, rfl⟩)
  · rw [if_neg e]; exact Or.inl ⟨rfl, Or.inl rfl⟩
theorem Mf.oaGo {g : gG} : ∀ (r : Nat) {σ : Mem} (_ : Mf g σ), Mf g (mOAGo r σ)
  | 0, _, h => h
  | r + 1, σ, h => by
    simp only [mOAGo]
    split
    · exact h
    · next hb => exact Mf.oaGo r (h.off1 hb)
theorem Mf.oa {g : gG} {σ : Mem} (h : Mf g σ) : Mf g (mOA σ) := Mf.oaGo 11 h
def mAgeGo : Nat → Nat → Mem → Mem
  | 0, _, σ => σ
  | r + 1, k, σ => if mIsOff σ k = true then (if 2 ≤ σ 8 0 1 - σ 9 5 k then mAgeGo r (k + 1) (mQup (mRfd σ k) k) else mAgeGo r (k + 1) σ) else mAgeGo r (k + 1) σ
def mAge (σ : Mem) : Mem := mAgeGo (mC σ) 0 σ
theorem mIsOff_1 {σ : Mem} {c : Nat} (h : mIsOff σ c = true) : σ 9 3 c = 1 ∧ ¬ σ 9 4 c = -1 := by
  unfold mIsOff at h
  split at h
  · next h1 =>
    split at h
    · cases h
    · next h2 => exact ⟨h1, h2⟩
  · cases h
theorem Mf.ageGo {g : gG} : ∀ (r k : Nat) {σ : Mem} (_ : Mf g σ), Mf g (mAgeGo r k σ)
  | 0, _, _, h => h
  | r + 1, k, σ, h => by
    simp only [mAgeGo]
    split
    · next h1 =>
      split
      · exact Mf.ageGo r (k + 1) (h.rfd (mIsOff_1 h1).1).qup
      · exact Mf.ageGo r (k + 1) h
    · exact Mf.ageGo r (k + 1) h
theorem Mf.age {g : gG} {σ : Mem} (h : Mf g σ) : Mf g (mAge σ) := Mf.ageGo _ 0 h
def mRunGo : Nat → Nat → Int32 → Mem → Int32 × Mem
  | 0, _, acc, σ => (acc, σ)
  | r + 1, k, acc, σ => if σ 9 3 k = 2 then (if σ 8 0 1 < σ 9 5 k then mRunGo r (k + 1) acc σ else if σ 8 0 1 < mT σ (ix (σ 9 4 k)) 3 then mRunGo r (k + 1) acc σ else mRunGo r (k + 1) acc (mRide σ k (ix (σ 9 4 k))))
    else if σ 9 3 k = 3 then (if σ 8 0 1 < σ 9 5 k then mRunGo r (k + 1) acc σ else mRunGo r (k + 1) (acc + 1) (mDone σ k (ix (σ 9 4 k)))) else mRunGo r (k + 1) acc σ
def mRun (σ : Mem) : Int32 × Mem := mRunGo (mC σ) 0 0 σ
theorem Mf.ord {g : gG} {σ : Mem} {c : Nat} (h : Mf g σ) (hc : c < 10) (h3 : σ 9 3 c = 2 ∨ σ 9 3 c = 3) : ix (σ 9 4 c) < 60 ∧ σ 9 4 c = nI (ix (σ 9 4 c)) := by
  obtain ⟨o, ho, e⟩ := (h.2.1 c hc).resolve_left (h.2.2 c hc h3)
  rw [e, ix_nI (by omega)]
  exact ⟨ho, rfl⟩
theorem Mf.runGo {g : gG} : ∀ (r k : Nat) (acc : Int32) {σ : Mem} (_ : Mf g σ), k + r ≤ 10 → Mf g (mRunGo r k acc σ).2
  | 0, _, _, _, h, _ => h
  | r + 1, k, acc, σ, h, hk => by
    simp only [mRunGo]
    split
    · next h1 =>
      have hc := h.ord (c := k) (by omega) (Or.inl h1)
      have hc2 := h.2.2 k (by omega) (Or.inl h1)
      split
      · exact Mf.runGo r (k + 1) _ h (by omega)
      · split
        · exact Mf.runGo r (k + 1) _ h (by omega)
        · exact Mf.runGo r (k + 1) _ (h.ride hc.1 hc2) (by omega)
    · split
      · next h1 =>
        have hc := h.ord (c := k) (by omega) (Or.inr h1)
        split
        · exact Mf.runGo r (k + 1) _ h (by omega)
        · exact Mf.runGo r (k + 1) _ (h.done hc.1) (by omega)
      · exact Mf.runGo r (k + 1) _ h (by omega)
theorem Mf.run {g : gG} {σ : Mem} (h : Mf g σ) : Mf g (mRun σ).2 := Mf.runGo _ 0 0 h (by have := h.1.c10; omega)
def mMin (σ : Mem) : Int32 × Mem := ((mRun (mAge (gst σ 8 0 1 (σ 8 0 1 + 1)))).1, mOA (mRun (mAge (gst σ 8 0 1 (σ 8 0 1 + 1)))).2)
theorem Mf.min {g : gG} {σ : Mem} (h : Mf g σ) : Mf g (mMin σ).2 := h.now.age.run.oa
theorem mC_qup {σ : Mem} {c : Nat} : mC (mQup σ c) = mC σ := by unfold mQup mC; rw [gst_nk (by decide), gst_nf (by decide)]
theorem mC_rfd {σ : Mem} {c : Nat} : mC (mRfd σ c) = mC σ := by
  unfold mRfd
  split
  · rfl
  · rw [mC_9, mC_9, mC_9, mC_9]
theorem mC_free {σ : Mem} {c : Nat} {z : Int32} : mC (mFree σ c z) = mC σ := by unfold mFree; rw [mC_qup, mC_9, mC_9, mC_9]
theorem mC_ride {σ : Mem} {c o : Nat} : mC (mRide σ c o) = mC σ := by unfold mRide; rw [mC_9, mC_9, mC_9, mC_9, mC_9, mC_9, mC_9, mC_9, mC_9]
theorem mC_done {σ : Mem} {c o : Nat} : mC (mDone σ c o) = mC σ := by unfold mDone; rw [mC_free, mC_9, mC_9, mC_9, mC_9]
set_option maxHeartbeats 4000000 in
set_option maxRecDepth 100000 in
theorem c_X3_isOffered (l : Launch) (g : gG) (σ : Mem) (w : Int64) (c : Nat) (hM : Mok g σ) (hc : c < 10) : Met l yX3_isOffered wsX3_isOffered ({ frames := 0, cells := 0, slots := 0, locals := 0 } : Room) (gPc g σ w [.ref (gad g 8 0), .int (nI c)]) (gR (.int (bI (mIsOff σ c)))) 0 0 (fun _ => False) := by
  refine gx_ofW (cc := cX3_isOffered) (maxL := 2) (ret := (some .boolean)) (by decide) rfl (Nat.le_of_ble_eq_true rfl) ?_
  intro p e s m below meth c0 hx hb hr hml hts hown hlocks hin hG hZ hS ls hl
  have hown : s.vm.findClass RX3 = some m.cls := hown
  have hl : lv_has ls 2 [(0, .ref (gad g 8 0)), (1, .int (nI c))] := hl
  have k1 := hts (.fieldLink RX3 26 "TaxiRankModel" "doing" "[I") (by decide +kernel)
  have k2 := hts (.fieldLink RX3 29 "TaxiRankModel" "orderOf" "[I") (by decide +kernel)
  have hc10 := hM.c10
  have ho60 := hM.o60
  refine lv_aload_n hx hb dX3_isOffered_0 rfl (lv_at hl 0 rfl) ?_
  refine gx_get hx hb hown hZ hG 8 0 8 hM.b8 rfl (by decide) k1 (fun _ h => h) (v := .ref (gad g 9 3)) (grf_j (hM.rf (f := 8) rfl) (by decide)) dX3_isOffered_1 ?_
  refine lv_iload_n hx hb dX3_isOffered_4 rfl (lv_at hl 1 rfl) ?_
  refine gx_aldN hx hb hZ hG 9 3 c (by rfl) (hM.b9 (by decide)) rfl rfl ⟨by rw [hM.lc (i := 3) (by decide) (by decide)]; omega, by omega⟩ (v := .int (σ 9 3 c)) rfl dX3_isOffered_5 ?_
  refine lv_iconst (v := 1) hx hb dX3_isOffered_6 (by decide) ?_
  refine lv_icmp_ne (tgt := 24) hx hb dX3_isOffered_7 (by decide) (fun c_1 => ?_) (fun c_1 => ?_)
  · skip
    refine lv_iconst (v := 0) hx hb dX3_isOffered_24 (by decide) ?_
    exact gx_zretR hx hb hr hlocks (by first | (simp only [mIsOff, bI, c_1, reduceIte, eq_self, Bool.false_eq_true]; done) | simp [mIsOff, bI, c_1]) rfl (Nat.le_of_ble_eq_true rfl) (Nat.le_of_ble_eq_true rfl) dX3_isOffered_25
  · skip
    refine lv_aload_n hx hb dX3_isOffered_10 rfl (lv_at hl 0 rfl) ?_
    refine gx_get hx hb hown hZ hG 8 0 9 hM.b8 rfl (by decide) k2 (fun _ h => h) (v := .ref (gad g 9 4)) (grf_j (hM.rf (f := 9) rfl) (by decide)) dX3_isOffered_11 ?_
    refine lv_iload_n hx hb dX3_isOffered_14 rfl (lv_at hl 1 rfl) ?_
    refine gx_aldN hx hb hZ hG 9 4 c (by rfl) (hM.b9 (by decide)) rfl rfl ⟨by rw [hM.lc (i := 4) (by decide) (by decide)]; omega, by omega⟩ (v := .int (σ 9 4 c)) rfl dX3_isOffered_15 ?_
    refine lv_iconst (v := (-1)) hx hb dX3_isOffered_16 (by decide) ?_
    refine lv_icmp_eq (tgt := 24) hx hb dX3_isOffered_17 (by decide) (fun c_2 => ?_) (fun c_2 => ?_)
    · skip
      refine lv_iconst (v := 0) hx hb dX3_isOffered_24 (by decide) ?_
      exact gx_zretR hx hb hr hlocks (by first | (simp only [mIsOff, bI, c_1, c_2, reduceIte, eq_self, Bool.false_eq_true]; done) | simp [mIsOff, bI, c_1, c_2]) rfl (Nat.le_of_ble_eq_true rfl) (Nat.le_of_ble_eq_true rfl) dX3_isOffered_25
    · skip
      refine lv_iconst (v := 1) hx hb dX3_isOffered_20 (by decide) ?_
      refine lv_goto (tgt := 25) hx hb dX3_isOffered_21 (by decide) ?_
      exact gx_zretR hx hb hr hlocks (by first | (simp only [mIsOff, bI, c_1, c_2, reduceIte, eq_self, Bool.false_eq_true]; done) | simp [mIsOff, bI, c_1, c_2]) rfl (Nat.le_of_ble_eq_true rfl) (Nat.le_of_ble_eq_true rfl) dX3_isOffered_25
set_option maxHeartbeats 4000000 in
set_option maxRecDepth 100000 in
theorem c_X3_cabTold (l : Launch) (g : gG) (σ : Mem) (w : Int64) (c : Nat) (x : Int32) (hM : Mok g σ) (hc : c < 10) : Met l yX3_cabTold wsX3_cabTold ({ frames := 1, cells := 0, slots := 0, locals := 23 } : Room) (gPc g σ w [.ref (gad g 8 0), .int (nI c), .int (x)]) (gR (.int (mCabTold σ c x))) 0 0 (fun _ => False) := by
  refine gx_ofW (cc := cX3_cabTold) (maxL := 3) (ret := (some .int)) (by decide) rfl (Nat.le_of_ble_eq_true rfl) ?_
  intro p e s m below meth c0 hx hb hr hml hts hown hlocks hin hG hZ hS ls hl
  have hown : s.vm.findClass RX3 = some m.cls := hown
  have hl : lv_has ls 3 [(0, .ref (gad g 8 0)), (1, .int (nI c)), (2, .int (x))] := hl
  have k1 := hts (.fieldLink RX3 26 "TaxiRankModel" "doing" "[I") (by decide +kernel)
  have k2 := hts (.fieldLink RX3 23 "TaxiRankModel" "zones" "[I") (by decide +kernel)
  have k3 := hts (.fieldLink RX3 20 "TaxiRankModel" "seats" "[I") (by decide +kernel)
  have k4 := hts (.fieldLink RX3 29 "TaxiRankModel" "orderOf" "[I") (by decide +kernel)
  have hc10 := hM.c10
  have ho60 := hM.o60
  refine lv_iload_n hx hb dX3_cabTold_0 rfl (lv_at hl 2 rfl) ?_
  by_cases z_1 : x = 0
  · refine lv_tableIn (off := 31) (tgt := 32) hx hb dX3_cabTold_1 (by rw [z_1]; decide) (by rw [z_1]; decide) (by rw [z_1]; rfl) (by decide) ?_
    refine lv_aload_n hx hb dX3_cabTold_32 rfl (lv_at hl 0 rfl) ?_
    refine gx_get hx hb hown hZ hG 8 0 8 hM.b8 rfl (by decide) k1 (fun _ h => h) (v := .ref (gad g 9 3)) (grf_j (hM.rf (f := 8) rfl) (by decide)) dX3_cabTold_33 ?_
    refine lv_iload_n hx hb dX3_cabTold_36 rfl (lv_at hl 1 rfl) ?_
    refine gx_aldN hx hb hZ hG 9 3 c (by rfl) (hM.b9 (by decide)) rfl rfl ⟨by rw [hM.lc (i := 3) (by decide) (by decide)]; omega, by omega⟩ (v := .int (σ 9 3 c)) rfl dX3_cabTold_37 ?_
    exact gx_iretR hx hb hr hlocks (by unfold mCabTold; (try first | rw [if_pos z_1] | rw [if_neg z_1]); try rfl) (Nat.le_of_ble_eq_true rfl) (Nat.le_of_ble_eq_true rfl) dX3_cabTold_38
  by_cases z_2 : x = 1
  · refine lv_tableIn (off := 38) (tgt := 39) hx hb dX3_cabTold_1 (by rw [z_2]; decide) (by rw [z_2]; decide) (by rw [z_2]; rfl) (by decide) ?_
    refine lv_aload_n hx hb dX3_cabTold_39 rfl (lv_at hl 0 rfl) ?_
    refine gx_get hx hb hown hZ hG 8 0 7 hM.b8 rfl (by decide) k2 (fun _ h => h) (v := .ref (gad g 9 2)) (grf_j (hM.rf (f := 7) rfl) (by decide)) dX3_cabTold_40 ?_
    refine lv_iload_n hx hb dX3_cabTold_43 rfl (lv_at hl 1 rfl) ?_
    refine gx_aldN hx hb hZ hG 9 2 c (by rfl) (hM.b9 (by decide)) rfl rfl ⟨by rw [hM.lc (i := 2) (by decide) (by decide)]; omega, by omega⟩ (v := .int (σ 9 2 c)) rfl dX3_cabTold_44 ?_
    exact gx_iretR hx hb hr hlocks (by unfold mCabTold; (try first | rw [if_pos z_1] | rw [if_neg z_1]); (try first | rw [if_pos z_2] | rw [if_neg z_2]); try rfl) (Nat.le_of_ble_eq_true rfl) (Nat.le_of_ble_eq_true rfl) dX3_cabTold_45
  by_cases z_3 : x = 2
  · refine lv_tableIn (off := 45) (tgt := 46) hx hb dX3_cabTold_1 (by rw [z_3]; decide) (by rw [z_3]; decide) (by rw [z_3]; rfl) (by decide) ?_
    refine lv_aload_n hx hb dX3_cabTold_46 rfl (lv_at hl 0 rfl) ?_
    refine gx_get hx hb hown hZ hG 8 0 6 hM.b8 rfl (by decide) k3 (fun _ h => h) (v := .ref (gad g 9 1)) (grf_j (hM.rf (f := 6) rfl) (by decide)) dX3_cabTold_47 ?_
    refine lv_iload_n hx hb dX3_cabTold_50 rfl (lv_at hl 1 rfl) ?_
    refine gx_aldN hx hb hZ hG 9 1 c (by rfl) (hM.b9 (by decide)) rfl rfl ⟨by rw [hM.lc (i := 1) (by decide) (by decide)]; omega, by omega⟩ (v := .int (σ 9 1 c)) rfl dX3_cabTold_51 ?_
    exact gx_iretR hx hb hr hlocks (by unfold mCabTold; (try first | rw [if_pos z_1] | rw [if_neg z_1]); (try first | rw [if_pos z_2] | rw [if_neg z_2]); (try first | rw [if_pos z_3] | rw [if_neg z_3]); try rfl) (Nat.le_of_ble_eq_true rfl) (Nat.le_of_ble_eq_true rfl) dX3_cabTold_52
  by_cases z_4 : x = 3
  · refine lv_tableIn (off := 52) (tgt := 53) hx hb dX3_cabTold_1 (by rw [z_4]; decide) (by rw [z_4]; decide) (by rw [z_4]; rfl) (by decide) ?_
    refine lv_aload_n hx hb dX3_cabTold_53 rfl (lv_at hl 0 rfl) ?_
    refine gx_get hx hb hown hZ hG 8 0 9 hM.b8 rfl (by decide) k4 (fun _ h => h) (v := .ref (gad g 9 4)) (grf_j (hM.rf (f := 9) rfl) (by decide)) dX3_cabTold_54 ?_
    refine lv_iload_n hx hb dX3_cabTold_57 rfl (lv_at hl 1 rfl) ?_
    refine gx_aldN hx hb hZ hG 9 4 c (by rfl) (hM.b9 (by decide)) rfl rfl ⟨by rw [hM.lc (i := 4) (by decide) (by decide)]; omega, by omega⟩ (v := .int (σ 9 4 c)) rfl dX3_cabTold_58 ?_
    exact gx_iretR hx hb hr hlocks (by unfold mCabTold; (try first | rw [if_pos z_1] | rw [if_neg z_1]); (try first | rw [if_pos z_2] | rw [if_neg z_2]); (try first | rw [if_pos z_3] | rw [if_neg z_3]); (try first | rw [if_pos z_4] | rw [if_neg z_4]); try rfl) (Nat.le_of_ble_eq_true rfl) (Nat.le_of_ble_eq_true rfl) dX3_cabTold_59
  refine lv_tableOut (tgt := 60) hx hb dX3_cabTold_1 (sw_out4 z_1 z_2 z_3 z_4) (by decide) ?_
  refine lv_aload_n hx hb dX3_cabTold_60 rfl (lv_at hl 0 rfl) ?_
  refine lv_iload_n hx hb dX3_cabTold_61 rfl (lv_at hl 1 rfl) ?_
  refine gx_cR (gx_runV (As := [.int (nI c)]) (rest := []) ⟨hx, hb, hml, hown, hts⟩ (c_X3_placeOf l g σ w c hM hc) (cwV 1 hts gX3_cabTold_X3_placeOf rfl rfl rfl (by decide +kernel) ⟨Nat.le_of_ble_eq_true rfl, Nat.le_of_ble_eq_true rfl⟩) (gx_obj hZ hG 8 0 hM.b8 rfl) hZ hG hS rfl hl.1 rfl (Nat.le_of_ble_eq_true rfl) dX3_cabTold_62 ⟨Nat.le_of_ble_eq_true rfl, Nat.le_of_ble_eq_true rfl⟩) ?_
  exact gx_iretR hx hb hr hlocks (by unfold mCabTold; (try first | rw [if_pos z_1] | rw [if_neg z_1]); (try first | rw [if_pos z_2] | rw [if_neg z_2]); (try first | rw [if_pos z_3] | rw [if_neg z_3]); (try first | rw [if_pos z_4] | rw [if_neg z_4]); try rfl) (Nat.le_of_ble_eq_true rfl) (Nat.le_of_ble_eq_true rfl) dX3_cabTold_65
set_option maxHeartbeats 4000000 in
set_option maxRecDepth 100000 in
theorem c_X3_orderTold (l : Launch) (g : gG) (σ : Mem) (w : Int64) (o q : Nat) (hM : Mok g σ) (ho : o < 60) (hq : q ≤ 4) : Met l yX3_orderTold wsX3_orderTold ({ frames := 1, cells := 0, slots := 0, locals := 22 } : Room) (gPc g σ w [.ref (gad g 8 0), .int (nI o), .int (nI q)]) (gR (.int (mOrdTold σ o q))) 0 0 (fun _ => False) := by
  refine gx_ofW (cc := cX3_orderTold) (maxL := 3) (ret := (some .int)) (by decide) rfl (Nat.le_of_ble_eq_true rfl) ?_
  intro p e s m below meth c0 hx hb hr hml hts hown hlocks hin hG hZ hS ls hl
  have hown : s.vm.findClass RX3 = some m.cls := hown
  have hl : lv_has ls 3 [(0, .ref (gad g 8 0)), (1, .int (nI o)), (2, .int (nI q))] := hl
  have k1 := hts (.fieldLink RX3 47 "TaxiRankModel" "refusals" "[I") (by decide +kernel)
  have hc10 := hM.c10
  have ho60 := hM.o60
  refine lv_iload_n hx hb dX3_orderTold_0 rfl (lv_at hl 2 rfl) ?_
  refine lv_iconst (v := 4) hx hb dX3_orderTold_1 (by decide) ?_
  refine lv_icmp_ne (tgt := 17) hx hb dX3_orderTold_2 (by decide) (fun c_1 => ?_) (fun c_1 => ?_)
  · skip
    have hq4 : q ≠ 4 := fun z => c_1 (by rw [z]; rfl)
    refine lv_aload_n hx hb dX3_orderTold_17 rfl (lv_at hl 0 rfl) ?_
    refine lv_iload_n hx hb dX3_orderTold_18 rfl (lv_at hl 1 rfl) ?_
    refine lv_iconst (v := 4) hx hb dX3_orderTold_19 (by decide) ?_
    refine lv_iload_n hx hb dX3_orderTold_20 rfl (lv_at hl 2 rfl) ?_
    refine lv_iadd hx hb dX3_orderTold_21 ?_
    refine gx_topN (y := nI (4 + q)) (by rw [show (4 : Int32) = nI 4 from rfl, nI_add]) ?_
    refine gx_cR (gx_runV (As := [.int (nI o), .int (nI (4 + q))]) (rest := []) ⟨hx, hb, hml, hown, hts⟩ (c_X3_get l g σ w o (4 + q) hM ho (by omega)) (cwV 2 hts gX3_orderTold_X3_get rfl rfl rfl (by decide +kernel) ⟨Nat.le_of_ble_eq_true rfl, Nat.le_of_ble_eq_true rfl⟩) (gx_obj hZ hG 8 0 hM.b8 rfl) hZ hG hS rfl hl.1 rfl (Nat.le_of_ble_eq_true rfl) dX3_orderTold_22 ⟨Nat.le_of_ble_eq_true rfl, Nat.le_of_ble_eq_true rfl⟩) ?_
    exact gx_iretR hx hb hr hlocks (by unfold mOrdTold; (try first | rw [if_pos c_1] | rw [if_neg c_1]); try rfl) (Nat.le_of_ble_eq_true rfl) (Nat.le_of_ble_eq_true rfl) dX3_orderTold_25
  · skip
    refine lv_aload_n hx hb dX3_orderTold_5 rfl (lv_at hl 0 rfl) ?_
    refine gx_get hx hb hown hZ hG 8 0 17 hM.b8 rfl (by decide) k1 (fun _ h => h) (v := .ref (gad g 9 10)) (grf_j (hM.rf (f := 17) rfl) (by decide)) dX3_orderTold_6 ?_
    refine lv_iload_n hx hb dX3_orderTold_9 rfl (lv_at hl 1 rfl) ?_
    refine gx_aldN hx hb hZ hG 9 10 o (by rfl) (hM.b9 (by decide)) rfl rfl ⟨by rw [hM.l10]; omega, by omega⟩ (v := .int (σ 9 10 o)) rfl dX3_orderTold_10 ?_
    refine gx_cR (gx_runS (As := [.int (σ 9 10 o)]) (rest := []) ⟨hx, hb, hml, hown, hts⟩ (c_bitCount l g σ w (σ 9 10 o)) (va_cwS 1 hts gX3_orderTold_J6_bitCount_0f7a4 rfl rfl rfl (by decide +kernel) ⟨Nat.le_of_ble_eq_true rfl, Nat.le_of_ble_eq_true rfl⟩) hZ hG hS rfl hl.1 rfl (Nat.le_of_ble_eq_true rfl) dX3_orderTold_11 ⟨Nat.le_of_ble_eq_true rfl, Nat.le_of_ble_eq_true rfl⟩) ?_
    refine lv_goto (tgt := 25) hx hb dX3_orderTold_14 (by decide) ?_
    exact gx_iretR hx hb hr hlocks (by unfold mOrdTold; (try first | rw [if_pos c_1] | rw [if_neg c_1]); try rfl) (Nat.le_of_ble_eq_true rfl) (Nat.le_of_ble_eq_true rfl) dX3_orderTold_25
set_option maxHeartbeats 4000000 in
set_option maxRecDepth 100000 in
theorem c_X3_fareOf (l : Launch) (g : gG) (σ : Mem) (w : Int64) (o q : Nat) (hM : Mok g σ) (ho : o < 60) (hq : q ≤ 4) : Met l yX3_fareOf wsX3_fareOf ({ frames := 0, cells := 0, slots := 0, locals := 0 } : Room) (gPc g σ w [.ref (gad g 8 0), .int (nI o), .int (nI q)]) (gR (.int (mFare σ o q))) 0 0 (fun _ => False) := by
  refine gx_ofW (cc := cX3_fareOf) (maxL := 3) (ret := (some .int)) (by decide) rfl (Nat.le_of_ble_eq_true rfl) ?_
  intro p e s m below meth c0 hx hb hr hml hts hown hlocks hin hG hZ hS ls hl
  have hown : s.vm.findClass RX3 = some m.cls := hown
  have hl : lv_has ls 3 [(0, .ref (gad g 8 0)), (1, .int (nI o)), (2, .int (nI q))] := hl
  have k1 := hts (.fieldLink RX3 50 "TaxiRankModel" "parts" "[I") (by decide +kernel)
  have hc10 := hM.c10
  have ho60 := hM.o60
  refine lv_iload_n hx hb dX3_fareOf_0 rfl (lv_at hl 2 rfl) ?_
  refine lv_iconst (v := 4) hx hb dX3_fareOf_1 (by decide) ?_
  refine lv_icmp_ge (tgt := 16) hx hb dX3_fareOf_2 (by decide) (fun c_1 => ?_) (fun c_1 => ?_)
  · skip
    refine lv_aload_n hx hb dX3_fareOf_16 rfl (lv_at hl 0 rfl) ?_
    refine gx_get hx hb hown hZ hG 8 0 18 hM.b8 rfl (by decide) k1 (fun _ h => h) (v := .ref (gad g 9 11)) (grf_j (hM.rf (f := 18) rfl) (by decide)) dX3_fareOf_17 ?_
    refine lv_iconst (v := 4) hx hb dX3_fareOf_20 (by decide) ?_
    refine lv_iload_n hx hb dX3_fareOf_21 rfl (lv_at hl 1 rfl) ?_
    refine lv_imul hx hb dX3_fareOf_22 ?_
    refine gx_topN (y := nI (4 * o)) (by rw [show (4 : Int32) = nI 4 from rfl, pk_mul]) ?_
    refine gx_aldN hx hb hZ hG 9 11 (4 * o) (by rfl) (hM.b9 (by decide)) rfl rfl ⟨by rw [hM.l11]; omega, by omega⟩ (v := .int (σ 9 11 (4 * o))) rfl dX3_fareOf_23 ?_
    refine lv_aload_n hx hb dX3_fareOf_24 rfl (lv_at hl 0 rfl) ?_
    refine gx_get hx hb hown hZ hG 8 0 18 hM.b8 rfl (by decide) k1 (fun _ h => h) (v := .ref (gad g 9 11)) (grf_j (hM.rf (f := 18) rfl) (by decide)) dX3_fareOf_25 ?_
    refine lv_iconst (v := 4) hx hb dX3_fareOf_28 (by decide) ?_
    refine lv_iload_n hx hb dX3_fareOf_29 rfl (lv_at hl 1 rfl) ?_
    refine lv_imul hx hb dX3_fareOf_30 ?_
    refine gx_topN (y := nI (4 * o)) (by rw [show (4 : Int32) = nI 4 from rfl, pk_mul]) ?_
    refine lv_iconst (v := 1) hx hb dX3_fareOf_31 (by decide) ?_
    refine lv_iadd hx hb dX3_fareOf_32 ?_
    refine gx_topN (y := nI ((4 * o) + 1)) (by rw [show (1 : Int32) = nI 1 from rfl, nI_add]) ?_
    refine gx_aldN hx hb hZ hG 9 11 ((4 * o) + 1) (by rfl) (hM.b9 (by decide)) rfl rfl ⟨by rw [hM.l11]; omega, by omega⟩ (v := .int (σ 9 11 ((4 * o) + 1))) rfl dX3_fareOf_33 ?_
    refine lv_iadd hx hb dX3_fareOf_34 ?_
    refine lv_aload_n hx hb dX3_fareOf_35 rfl (lv_at hl 0 rfl) ?_
    refine gx_get hx hb hown hZ hG 8 0 18 hM.b8 rfl (by decide) k1 (fun _ h => h) (v := .ref (gad g 9 11)) (grf_j (hM.rf (f := 18) rfl) (by decide)) dX3_fareOf_36 ?_
    refine lv_iconst (v := 4) hx hb dX3_fareOf_39 (by decide) ?_
    refine lv_iload_n hx hb dX3_fareOf_40 rfl (lv_at hl 1 rfl) ?_
    refine lv_imul hx hb dX3_fareOf_41 ?_
    refine gx_topN (y := nI (4 * o)) (by rw [show (4 : Int32) = nI 4 from rfl, pk_mul]) ?_
    refine lv_iconst (v := 2) hx hb dX3_fareOf_42 (by decide) ?_
    refine lv_iadd hx hb dX3_fareOf_43 ?_
    refine gx_topN (y := nI ((4 * o) + 2)) (by rw [show (2 : Int32) = nI 2 from rfl, nI_add]) ?_
    refine gx_aldN hx hb hZ hG 9 11 ((4 * o) + 2) (by rfl) (hM.b9 (by decide)) rfl rfl ⟨by rw [hM.l11]; omega, by omega⟩ (v := .int (σ 9 11 ((4 * o) + 2))) rfl dX3_fareOf_44 ?_
    refine lv_iadd hx hb dX3_fareOf_45 ?_
    refine lv_aload_n hx hb dX3_fareOf_46 rfl (lv_at hl 0 rfl) ?_
    refine gx_get hx hb hown hZ hG 8 0 18 hM.b8 rfl (by decide) k1 (fun _ h => h) (v := .ref (gad g 9 11)) (grf_j (hM.rf (f := 18) rfl) (by decide)) dX3_fareOf_47 ?_
    refine lv_iconst (v := 4) hx hb dX3_fareOf_50 (by decide) ?_
    refine lv_iload_n hx hb dX3_fareOf_51 rfl (lv_at hl 1 rfl) ?_
    refine lv_imul hx hb dX3_fareOf_52 ?_
    refine gx_topN (y := nI (4 * o)) (by rw [show (4 : Int32) = nI 4 from rfl, pk_mul]) ?_
    refine lv_iconst (v := 3) hx hb dX3_fareOf_53 (by decide) ?_
    refine lv_iadd hx hb dX3_fareOf_54 ?_
    refine gx_topN (y := nI ((4 * o) + 3)) (by rw [show (3 : Int32) = nI 3 from rfl, nI_add]) ?_
    refine gx_aldN hx hb hZ hG 9 11 ((4 * o) + 3) (by rfl) (hM.b9 (by decide)) rfl rfl ⟨by rw [hM.l11]; omega, by omega⟩ (v := .int (σ 9 11 ((4 * o) + 3))) rfl dX3_fareOf_55 ?_
    refine lv_iadd hx hb dX3_fareOf_56 ?_
    exact gx_iretR hx hb hr hlocks (by unfold mFare; (try first | rw [if_pos c_1] | rw [if_neg c_1]); try rfl) (Nat.le_of_ble_eq_true rfl) (Nat.le_of_ble_eq_true rfl) dX3_fareOf_57
  · skip
    have hq4 : q < 4 := by rcases Nat.lt_or_ge q 4 with z | z; exact z; exact absurd (nI_le z (by omega)) c_1
    refine lv_aload_n hx hb dX3_fareOf_5 rfl (lv_at hl 0 rfl) ?_
    refine gx_get hx hb hown hZ hG 8 0 18 hM.b8 rfl (by decide) k1 (fun _ h => h) (v := .ref (gad g 9 11)) (grf_j (hM.rf (f := 18) rfl) (by decide)) dX3_fareOf_6 ?_
    refine lv_iconst (v := 4) hx hb dX3_fareOf_9 (by decide) ?_
    refine lv_iload_n hx hb dX3_fareOf_10 rfl (lv_at hl 1 rfl) ?_
    refine lv_imul hx hb dX3_fareOf_11 ?_
    refine gx_topN (y := nI (4 * o)) (by rw [show (4 : Int32) = nI 4 from rfl, pk_mul]) ?_
    refine lv_iload_n hx hb dX3_fareOf_12 rfl (lv_at hl 2 rfl) ?_
    refine lv_iadd hx hb dX3_fareOf_13 ?_
    refine gx_topN (y := nI ((4 * o) + q)) (by rw [nI_add]) ?_
    refine gx_aldN hx hb hZ hG 9 11 ((4 * o) + q) (by rfl) (hM.b9 (by decide)) rfl rfl ⟨by rw [hM.l11]; omega, by omega⟩ (v := .int (σ 9 11 ((4 * o) + q))) rfl dX3_fareOf_14 ?_
    exact gx_iretR hx hb hr hlocks (by unfold mFare; (try first | rw [if_pos c_1] | rw [if_neg c_1]); try rfl) (Nat.le_of_ble_eq_true rfl) (Nat.le_of_ble_eq_true rfl) dX3_fareOf_15
set_option maxHeartbeats 4000000 in
set_option maxRecDepth 100000 in
theorem c_X3_ride (l : Launch) (g : gG) (σ : Mem) (w : Int64) (c o : Nat) (hM : Mok g σ) (hc : c < 10) (ho : o < 60) (eo : σ 9 4 c = nI o) : Met l yX3_ride wsX3_ride ({ frames := 1, cells := 0, slots := 0, locals := 23 } : Room) (gPc g σ w [.ref (gad g 8 0), .int (nI c)]) (gM g g (mRide σ c o) w (none)) 0 0 (gA g) := by
  refine gx_ofW (cc := cX3_ride) (maxL := 4) (ret := none) (by decide) rfl (Nat.le_of_ble_eq_true rfl) ?_
  intro p e s m below meth c0 hx hb hr hml hts hown hlocks hin hG hZ hS ls hl
  have hown : s.vm.findClass RX3 = some m.cls := hown
  have hl : lv_has ls 4 [(0, .ref (gad g 8 0)), (1, .int (nI c))] := hl
  have k1 := hts (.fieldLink RX3 29 "TaxiRankModel" "orderOf" "[I") (by decide +kernel)
  have k2 := hts (.fieldLink RX3 26 "TaxiRankModel" "doing" "[I") (by decide +kernel)
  have k3 := hts (.fieldLink RX3 23 "TaxiRankModel" "zones" "[I") (by decide +kernel)
  have k4 := hts (.fieldLink RX3 32 "TaxiRankModel" "times" "[I") (by decide +kernel)
  have k5 := hts (.fieldLink RX3 121 "TaxiRankModel" "now" "I") (by decide +kernel)
  have k6 := hts (.fieldLink RX3 50 "TaxiRankModel" "parts" "[I") (by decide +kernel)
  have k7 := hts (.fieldLink RX3 13 "TaxiRankModel" "base" "I") (by decide +kernel)
  have k8 := hts (.fieldLink RX3 17 "TaxiRankModel" "rate" "I") (by decide +kernel)
  have k9 := hts (.methodLink RX3 150 Lib.Math.min.name) (by decide +kernel)
  have k10 := hts (.static Lib.Math.min.name) (by decide +kernel)
  have k11 := hts (.initialized "java/lang/Math") (by decide +kernel)
  have k12 := hts (.code Lib.Math.min.name Lib.Math.min.code 2 (some .int)) (by decide +kernel)
  have hc10 := hM.c10
  have ho60 := hM.o60
  refine lv_aload_n hx hb dX3_ride_0 rfl (lv_at hl 0 rfl) ?_
  refine gx_get hx hb hown hZ hG 8 0 9 hM.b8 rfl (by decide) k1 (fun _ h => h) (v := .ref (gad g 9 4)) (grf_j (hM.rf (f := 9) rfl) (by decide)) dX3_ride_1 ?_
  refine lv_iload_n hx hb dX3_ride_4 rfl (lv_at hl 1 rfl) ?_
  refine gx_aldN hx hb hZ hG 9 4 c (by rfl) (hM.b9 (by decide)) rfl rfl ⟨by rw [hM.lc (i := 4) (by decide) (by decide)]; omega, by omega⟩ (v := .int (σ 9 4 c)) rfl dX3_ride_5 ?_
  refine lv_istore_n (lv' := [(2, .int (σ 9 4 c)), (0, .ref (gad g 8 0)), (1, .int (nI c))]) hx hb dX3_ride_6 rfl hl (by decide) rfl (fun ls hl => ?_)
  rw [eo] at hl
  refine lv_aload_n hx hb dX3_ride_7 rfl (lv_at hl 1 rfl) ?_
  refine lv_aload_n hx hb dX3_ride_8 rfl (lv_at hl 1 rfl) ?_
  refine lv_iload_n hx hb dX3_ride_9 rfl (lv_at hl 0 rfl) ?_
  refine lv_iconst (v := 0) hx hb dX3_ride_10 (by decide) ?_
  refine gx_cR (gx_runV (As := [.int (nI o), .int (0)]) (rest := [.ref (gad g 8 0)]) ⟨hx, hb, hml, hown, hts⟩ (c_X3_get l g σ w o 0 hM ho (by decide)) (cwV 2 hts gX3_ride_X3_get rfl rfl rfl (by decide +kernel) ⟨Nat.le_of_ble_eq_true rfl, Nat.le_of_ble_eq_true rfl⟩) (gx_obj hZ hG 8 0 hM.b8 rfl) hZ hG hS rfl hl.1 rfl (Nat.le_of_ble_eq_true rfl) dX3_ride_11 ⟨Nat.le_of_ble_eq_true rfl, Nat.le_of_ble_eq_true rfl⟩) ?_
  refine lv_aload_n hx hb dX3_ride_14 rfl (lv_at hl 1 rfl) ?_
  refine lv_iload_n hx hb dX3_ride_15 rfl (lv_at hl 0 rfl) ?_
  refine lv_iconst (v := 1) hx hb dX3_ride_16 (by decide) ?_
  refine gx_cR (gx_runV (As := [.int (nI o), .int (1)]) (rest := [.int (mT σ o 0), .ref (gad g 8 0)]) ⟨hx, hb, hml, hown, hts⟩ (c_X3_get l g σ w o 1 hM ho (by decide)) (cwV 2 hts gX3_ride_X3_get rfl rfl rfl (by decide +kernel) ⟨Nat.le_of_ble_eq_true rfl, Nat.le_of_ble_eq_true rfl⟩) (gx_obj hZ hG 8 0 hM.b8 rfl) hZ hG hS rfl hl.1 rfl (Nat.le_of_ble_eq_true rfl) dX3_ride_17 ⟨Nat.le_of_ble_eq_true rfl, Nat.le_of_ble_eq_true rfl⟩) ?_
  refine gx_cR (gx_runV (As := [.int (mT σ o 0), .int (mT σ o 1)]) (rest := []) ⟨hx, hb, hml, hown, hts⟩ (c_X3_way l g σ w (mT σ o 0) (mT σ o 1) hM (hM.t0 ho) (hM.t1 ho)) (cwV 2 hts gX3_ride_X3_way rfl rfl rfl (by decide +kernel) ⟨Nat.le_of_ble_eq_true rfl, Nat.le_of_ble_eq_true rfl⟩) (gx_obj hZ hG 8 0 hM.b8 rfl) hZ hG hS rfl hl.1 rfl (Nat.le_of_ble_eq_true rfl) dX3_ride_20 ⟨Nat.le_of_ble_eq_true rfl, Nat.le_of_ble_eq_true rfl⟩) ?_
  refine lv_istore_n (lv' := [(3, .int (mWay σ (mT σ o 0) (mT σ o 1))), (2, .int (nI o)), (0, .ref (gad g 8 0)), (1, .int (nI c))]) hx hb dX3_ride_23 rfl hl (by decide) rfl (fun ls hl => ?_)
  refine lv_aload_n hx hb dX3_ride_24 rfl (lv_at hl 2 rfl) ?_
  refine gx_get hx hb hown hZ hG 8 0 8 hM.b8 rfl (by decide) k2 (fun _ h => h) (v := .ref (gad g 9 3)) (grf_j (hM.rf (f := 8) rfl) (by decide)) dX3_ride_25 ?_
  refine lv_iload_n hx hb dX3_ride_28 rfl (lv_at hl 3 rfl) ?_
  refine lv_iconst (v := 3) hx hb dX3_ride_29 (by decide) ?_
  refine gx_astN hx hb hZ hG hS 9 3 c (by rfl) (hM.b9 (by decide)) rfl rfl ⟨by rw [hM.lc (i := 3) (by decide) (by decide)]; omega, by omega⟩ rfl trivial dX3_ride_30 (fun H locs hG hS => ?_)
  have hM := hM.st9 (i := 3) (f := c) (v := 3) (by decide)
  refine lv_aload_n hx hb dX3_ride_31 rfl (lv_at hl 2 rfl) ?_
  refine gx_get hx hb hown hZ hG 8 0 7 hM.b8 rfl (by decide) k3 (fun _ h => h) (v := .ref (gad g 9 2)) (grf_j (hM.rf (f := 7) rfl) (by decide)) dX3_ride_32 ?_
  refine lv_iload_n hx hb dX3_ride_35 rfl (lv_at hl 3 rfl) ?_
  refine lv_aload_n hx hb dX3_ride_36 rfl (lv_at hl 2 rfl) ?_
  refine lv_iload_n hx hb dX3_ride_37 rfl (lv_at hl 1 rfl) ?_
  refine lv_iconst (v := 0) hx hb dX3_ride_38 (by decide) ?_
  refine gx_cR (gx_runV (As := [.int (nI o), .int (0)]) (rest := [.int (nI c), .ref (gad g 9 2)]) ⟨hx, hb, hml, hown, hts⟩ (c_X3_get l g (gst σ 9 3 c 3) w o 0 hM ho (by decide)) (cwV 2 hts gX3_ride_X3_get rfl rfl rfl (by decide +kernel) ⟨Nat.le_of_ble_eq_true rfl, Nat.le_of_ble_eq_true rfl⟩) (gx_obj hZ hG 8 0 hM.b8 rfl) hZ hG hS rfl hl.1 rfl (Nat.le_of_ble_eq_true rfl) dX3_ride_39 ⟨Nat.le_of_ble_eq_true rfl, Nat.le_of_ble_eq_true rfl⟩) ?_
  refine gx_topN (y := mT σ o 0) (by simp [mT, gst_app]) ?_
  refine gx_astN hx hb hZ hG hS 9 2 c (by rfl) (hM.b9 (by decide)) rfl rfl ⟨by rw [hM.lc (i := 2) (by decide) (by decide)]; omega, by omega⟩ rfl trivial dX3_ride_42 (fun H locs hG hS => ?_)
  have hM := hM.stZ (f := c) (v := mT σ o 0) (hM.t0 ho)
  refine lv_aload_n hx hb dX3_ride_43 rfl (lv_at hl 2 rfl) ?_
  refine gx_get hx hb hown hZ hG 8 0 10 hM.b8 rfl (by decide) k4 (fun _ h => h) (v := .ref (gad g 9 5)) (grf_j (hM.rf (f := 10) rfl) (by decide)) dX3_ride_44 ?_
  refine lv_iload_n hx hb dX3_ride_47 rfl (lv_at hl 3 rfl) ?_
  refine lv_aload_n hx hb dX3_ride_48 rfl (lv_at hl 2 rfl) ?_
  refine gx_get hx hb hown hZ hG 8 0 1 hM.b8 rfl (by decide) k5 (fun _ h => h) (v := .int (σ 8 0 1)) (congrArg Value.int (by simp [gst_app])) dX3_ride_49 ?_
  refine lv_iload_n hx hb dX3_ride_52 rfl (lv_at hl 0 rfl) ?_
  refine lv_iadd hx hb dX3_ride_53 ?_
  refine gx_astN hx hb hZ hG hS 9 5 c (by rfl) (hM.b9 (by decide)) rfl rfl ⟨by rw [hM.lc (i := 5) (by decide) (by decide)]; omega, by omega⟩ rfl trivial dX3_ride_54 (fun H locs hG hS => ?_)
  have hM := hM.st9 (i := 5) (f := c) (v := (σ 8 0 1) + (mWay σ (mT σ o 0) (mT σ o 1))) (by decide)
  refine lv_aload_n hx hb dX3_ride_55 rfl (lv_at hl 2 rfl) ?_
  refine lv_iload_n hx hb dX3_ride_56 rfl (lv_at hl 1 rfl) ?_
  refine lv_iconst (v := 4) hx hb dX3_ride_57 (by decide) ?_
  refine lv_iconst (v := 3) hx hb dX3_ride_58 (by decide) ?_
  refine gx_cM (gx_runV (As := [.int (nI o), .int (4), .int (3)]) (rest := []) ⟨hx, hb, hml, hown, hts⟩ (c_X3_set l g (gst (gst (gst σ 9 3 c 3) 9 2 c (mT σ o 0)) 9 5 c ((σ 8 0 1) + (mWay σ (mT σ o 0) (mT σ o 1)))) w o 4 3 hM ho (by decide)) (cwV 3 hts gX3_ride_X3_set rfl rfl rfl (by decide +kernel) ⟨Nat.le_of_ble_eq_true rfl, Nat.le_of_ble_eq_true rfl⟩) (gx_obj hZ hG 8 0 hM.b8 rfl) hZ hG hS rfl hl.1 rfl (Nat.le_of_ble_eq_true rfl) dX3_ride_59 ⟨Nat.le_of_ble_eq_true rfl, Nat.le_of_ble_eq_true rfl⟩) hS (fun H locs hG hS hsz => ?_)
  have hM := hM.stT (o := o) (k := 4) (v := 3) (by decide)
  refine lv_aload_n hx hb dX3_ride_62 rfl (lv_at hl 2 rfl) ?_
  refine lv_iload_n hx hb dX3_ride_63 rfl (lv_at hl 1 rfl) ?_
  refine lv_bipush (v := 6) hx hb dX3_ride_64 (by decide) ?_
  refine lv_aload_n hx hb dX3_ride_66 rfl (lv_at hl 2 rfl) ?_
  refine gx_get hx hb hown hZ hG 8 0 1 hM.b8 rfl (by decide) k5 (fun _ h => h) (v := .int ((gst (gst (gst (gst σ 9 3 c 3) 9 2 c (mT σ o 0)) 9 5 c ((σ 8 0 1) + (mWay σ (mT σ o 0) (mT σ o 1)))) 9 9 (8 * o + 4) 3) 8 0 1)) rfl dX3_ride_67 ?_
  refine gx_cM (gx_runV (As := [.int (nI o), .int (6), .int ((gst (gst (gst (gst σ 9 3 c 3) 9 2 c (mT σ o 0)) 9 5 c ((σ 8 0 1) + (mWay σ (mT σ o 0) (mT σ o 1)))) 9 9 (8 * o + 4) 3) 8 0 1)]) (rest := []) ⟨hx, hb, hml, hown, hts⟩ (c_X3_set l g (gst (gst (gst (gst σ 9 3 c 3) 9 2 c (mT σ o 0)) 9 5 c ((σ 8 0 1) + (mWay σ (mT σ o 0) (mT σ o 1)))) 9 9 (8 * o + 4) 3) w o 6 ((gst (gst (gst (gst σ 9 3 c 3) 9 2 c (mT σ o 0)) 9 5 c ((σ 8 0 1) + (mWay σ (mT σ o 0) (mT σ o 1)))) 9 9 (8 * o + 4) 3) 8 0 1) hM ho (by decide)) (cwV 3 hts gX3_ride_X3_set rfl rfl rfl (by decide +kernel) ⟨Nat.le_of_ble_eq_true rfl, Nat.le_of_ble_eq_true rfl⟩) (gx_obj hZ hG 8 0 hM.b8 rfl) hZ hG hS rfl hl.1 rfl (Nat.le_of_ble_eq_true rfl) dX3_ride_70 ⟨Nat.le_of_ble_eq_true rfl, Nat.le_of_ble_eq_true rfl⟩) hS (fun H locs hG hS hsz => ?_)
  have hM := hM.stT (o := o) (k := 6) (v := (gst (gst (gst (gst σ 9 3 c 3) 9 2 c (mT σ o 0)) 9 5 c ((σ 8 0 1) + (mWay σ (mT σ o 0) (mT σ o 1)))) 9 9 (8 * o + 4) 3) 8 0 1) (by decide)
  refine lv_aload_n hx hb dX3_ride_73 rfl (lv_at hl 2 rfl) ?_
  refine gx_get hx hb hown hZ hG 8 0 18 hM.b8 rfl (by decide) k6 (fun _ h => h) (v := .ref (gad g 9 11)) (grf_j (hM.rf (f := 18) rfl) (by decide)) dX3_ride_74 ?_
  refine lv_iconst (v := 4) hx hb dX3_ride_77 (by decide) ?_
  refine lv_iload_n hx hb dX3_ride_78 rfl (lv_at hl 1 rfl) ?_
  refine lv_imul hx hb dX3_ride_79 ?_
  refine gx_topN (y := nI (4 * o)) (by rw [show (4 : Int32) = nI 4 from rfl, pk_mul]) ?_
  refine lv_aload_n hx hb dX3_ride_80 rfl (lv_at hl 2 rfl) ?_
  refine gx_get hx hb hown hZ hG 8 0 3 hM.b8 rfl (by decide) k7 (fun _ h => h) (v := .int ((gst (gst (gst (gst (gst σ 9 3 c 3) 9 2 c (mT σ o 0)) 9 5 c ((σ 8 0 1) + (mWay σ (mT σ o 0) (mT σ o 1)))) 9 9 (8 * o + 4) 3) 9 9 (8 * o + 6) ((gst (gst (gst (gst σ 9 3 c 3) 9 2 c (mT σ o 0)) 9 5 c ((σ 8 0 1) + (mWay σ (mT σ o 0) (mT σ o 1)))) 9 9 (8 * o + 4) 3) 8 0 1)) 8 0 3)) rfl dX3_ride_81 ?_
  refine gx_astN hx hb hZ hG hS 9 11 (4 * o) (by rfl) (hM.b9 (by decide)) rfl rfl ⟨by rw [hM.l11]; omega, by omega⟩ rfl trivial dX3_ride_84 (fun H locs hG hS => ?_)
  have hM := hM.st9 (i := 11) (f := 4 * o) (v := (gst (gst (gst (gst (gst σ 9 3 c 3) 9 2 c (mT σ o 0)) 9 5 c ((σ 8 0 1) + (mWay σ (mT σ o 0) (mT σ o 1)))) 9 9 (8 * o + 4) 3) 9 9 (8 * o + 6) ((gst (gst (gst (gst σ 9 3 c 3) 9 2 c (mT σ o 0)) 9 5 c ((σ 8 0 1) + (mWay σ (mT σ o 0) (mT σ o 1)))) 9 9 (8 * o + 4) 3) 8 0 1)) 8 0 3) (by decide)
  refine lv_aload_n hx hb dX3_ride_85 rfl (lv_at hl 2 rfl) ?_
  refine gx_get hx hb hown hZ hG 8 0 18 hM.b8 rfl (by decide) k6 (fun _ h => h) (v := .ref (gad g 9 11)) (grf_j (hM.rf (f := 18) rfl) (by decide)) dX3_ride_86 ?_
  refine lv_iconst (v := 4) hx hb dX3_ride_89 (by decide) ?_
  refine lv_iload_n hx hb dX3_ride_90 rfl (lv_at hl 1 rfl) ?_
  refine lv_imul hx hb dX3_ride_91 ?_
  refine gx_topN (y := nI (4 * o)) (by rw [show (4 : Int32) = nI 4 from rfl, pk_mul]) ?_
  refine lv_iconst (v := 1) hx hb dX3_ride_92 (by decide) ?_
  refine lv_iadd hx hb dX3_ride_93 ?_
  refine gx_topN (y := nI ((4 * o) + 1)) (by rw [show (1 : Int32) = nI 1 from rfl, nI_add]) ?_
  refine lv_aload_n hx hb dX3_ride_94 rfl (lv_at hl 2 rfl) ?_
  refine gx_get hx hb hown hZ hG 8 0 4 hM.b8 rfl (by decide) k8 (fun _ h => h) (v := .int ((gst (gst (gst (gst (gst σ 9 3 c 3) 9 2 c (mT σ o 0)) 9 5 c ((σ 8 0 1) + (mWay σ (mT σ o 0) (mT σ o 1)))) 9 9 (8 * o + 4) 3) 9 9 (8 * o + 6) ((gst (gst (gst (gst σ 9 3 c 3) 9 2 c (mT σ o 0)) 9 5 c ((σ 8 0 1) + (mWay σ (mT σ o 0) (mT σ o 1)))) 9 9 (8 * o + 4) 3) 8 0 1)) 8 0 4)) (congrArg Value.int (by simp [gst_app])) dX3_ride_95 ?_
  refine lv_iload_n hx hb dX3_ride_98 rfl (lv_at hl 0 rfl) ?_
  refine lv_imul hx hb dX3_ride_99 ?_
  refine gx_astN hx hb hZ hG hS 9 11 ((4 * o) + 1) (by rfl) (hM.b9 (by decide)) rfl rfl ⟨by rw [hM.l11]; omega, by omega⟩ rfl trivial dX3_ride_100 (fun H locs hG hS => ?_)
  have hM := hM.st9 (i := 11) (f := (4 * o) + 1) (v := ((gst (gst (gst (gst (gst σ 9 3 c 3) 9 2 c (mT σ o 0)) 9 5 c ((σ 8 0 1) + (mWay σ (mT σ o 0) (mT σ o 1)))) 9 9 (8 * o + 4) 3) 9 9 (8 * o + 6) ((gst (gst (gst (gst σ 9 3 c 3) 9 2 c (mT σ o 0)) 9 5 c ((σ 8 0 1) + (mWay σ (mT σ o 0) (mT σ o 1)))) 9 9 (8 * o + 4) 3) 8 0 1)) 8 0 4) * (mWay σ (mT σ o 0) (mT σ o 1))) (by decide)
  refine lv_aload_n hx hb dX3_ride_101 rfl (lv_at hl 2 rfl) ?_
  refine gx_get hx hb hown hZ hG 8 0 18 hM.b8 rfl (by decide) k6 (fun _ h => h) (v := .ref (gad g 9 11)) (grf_j (hM.rf (f := 18) rfl) (by decide)) dX3_ride_102 ?_
  refine lv_iconst (v := 4) hx hb dX3_ride_105 (by decide) ?_
  refine lv_iload_n hx hb dX3_ride_106 rfl (lv_at hl 1 rfl) ?_
  refine lv_imul hx hb dX3_ride_107 ?_
  refine gx_topN (y := nI (4 * o)) (by rw [show (4 : Int32) = nI 4 from rfl, pk_mul]) ?_
  refine lv_iconst (v := 2) hx hb dX3_ride_108 (by decide) ?_
  refine lv_iadd hx hb dX3_ride_109 ?_
  refine gx_topN (y := nI ((4 * o) + 2)) (by rw [show (2 : Int32) = nI 2 from rfl, nI_add]) ?_
  refine lv_iconst (v := 5) hx hb dX3_ride_110 (by decide) ?_
  refine lv_aload_n hx hb dX3_ride_111 rfl (lv_at hl 2 rfl) ?_
  refine gx_get hx hb hown hZ hG 8 0 1 hM.b8 rfl (by decide) k5 (fun _ h => h) (v := .int ((gst (gst (gst (gst (gst σ 9 3 c 3) 9 2 c (mT σ o 0)) 9 5 c ((σ 8 0 1) + (mWay σ (mT σ o 0) (mT σ o 1)))) 9 9 (8 * o + 4) 3) 9 9 (8 * o + 6) ((gst (gst (gst (gst σ 9 3 c 3) 9 2 c (mT σ o 0)) 9 5 c ((σ 8 0 1) + (mWay σ (mT σ o 0) (mT σ o 1)))) 9 9 (8 * o + 4) 3) 8 0 1)) 8 0 1)) (congrArg Value.int (by simp [gst_app])) dX3_ride_112 ?_
  refine lv_aload_n hx hb dX3_ride_115 rfl (lv_at hl 2 rfl) ?_
  refine lv_iload_n hx hb dX3_ride_116 rfl (lv_at hl 1 rfl) ?_
  refine lv_iconst (v := 3) hx hb dX3_ride_117 (by decide) ?_
  refine gx_cR (gx_runV (As := [.int (nI o), .int (3)]) (rest := [.int ((gst (gst (gst (gst (gst σ 9 3 c 3) 9 2 c (mT σ o 0)) 9 5 c ((σ 8 0 1) + (mWay σ (mT σ o 0) (mT σ o 1)))) 9 9 (8 * o + 4) 3) 9 9 (8 * o + 6) ((gst (gst (gst (gst σ 9 3 c 3) 9 2 c (mT σ o 0)) 9 5 c ((σ 8 0 1) + (mWay σ (mT σ o 0) (mT σ o 1)))) 9 9 (8 * o + 4) 3) 8 0 1)) 8 0 1), .int (5), .int (nI ((4 * o) + 2)), .ref (gad g 9 11)]) ⟨hx, hb, hml, hown, hts⟩ (c_X3_get l g (gst (gst (gst (gst (gst (gst (gst σ 9 3 c 3) 9 2 c (mT σ o 0)) 9 5 c ((σ 8 0 1) + (mWay σ (mT σ o 0) (mT σ o 1)))) 9 9 (8 * o + 4) 3) 9 9 (8 * o + 6) ((gst (gst (gst (gst σ 9 3 c 3) 9 2 c (mT σ o 0)) 9 5 c ((σ 8 0 1) + (mWay σ (mT σ o 0) (mT σ o 1)))) 9 9 (8 * o + 4) 3) 8 0 1)) 9 11 (4 * o) ((gst (gst (gst (gst (gst σ 9 3 c 3) 9 2 c (mT σ o 0)) 9 5 c ((σ 8 0 1) + (mWay σ (mT σ o 0) (mT σ o 1)))) 9 9 (8 * o + 4) 3) 9 9 (8 * o + 6) ((gst (gst (gst (gst σ 9 3 c 3) 9 2 c (mT σ o 0)) 9 5 c ((σ 8 0 1) + (mWay σ (mT σ o 0) (mT σ o 1)))) 9 9 (8 * o + 4) 3) 8 0 1)) 8 0 3)) 9 11 ((4 * o) + 1) (((gst (gst (gst (gst (gst σ 9 3 c 3) 9 2 c (mT σ o 0)) 9 5 c ((σ 8 0 1) + (mWay σ (mT σ o 0) (mT σ o 1)))) 9 9 (8 * o + 4) 3) 9 9 (8 * o + 6) ((gst (gst (gst (gst σ 9 3 c 3) 9 2 c (mT σ o 0)) 9 5 c ((σ 8 0 1) + (mWay σ (mT σ o 0) (mT σ o 1)))) 9 9 (8 * o + 4) 3) 8 0 1)) 8 0 4) * (mWay σ (mT σ o 0) (mT σ o 1)))) w o 3 hM ho (by decide)) (cwV 2 hts gX3_ride_X3_get rfl rfl rfl (by decide +kernel) ⟨Nat.le_of_ble_eq_true rfl, Nat.le_of_ble_eq_true rfl⟩) (gx_obj hZ hG 8 0 hM.b8 rfl) hZ hG hS rfl hl.1 rfl (Nat.le_of_ble_eq_true rfl) dX3_ride_118 ⟨Nat.le_of_ble_eq_true rfl, Nat.le_of_ble_eq_true rfl⟩) ?_
  refine gx_topN (y := mT σ o 3) (by simp [mT, gst_app]) ?_
  refine lv_isub hx hb dX3_ride_121 ?_
  refine va_mmin hx hb (hml.trans hl.1.symm) hown k9 k10 k11 k12 (Nat.le_of_ble_eq_true rfl) (Nat.le_of_ble_eq_true rfl) (Nat.le_of_ble_eq_true rfl) (Nat.le_of_ble_eq_true rfl) dX3_ride_122 ?_
  refine lv_ineg hx hb dX3_ride_125 ?_
  refine gx_astN hx hb hZ hG hS 9 11 ((4 * o) + 2) (by rfl) (hM.b9 (by decide)) rfl rfl ⟨by rw [hM.l11]; omega, by omega⟩ rfl trivial dX3_ride_126 (fun H locs hG hS => ?_)
  have hM := hM.st9 (i := 11) (f := (4 * o) + 2) (v := -(if (((gst (gst (gst (gst (gst σ 9 3 c 3) 9 2 c (mT σ o 0)) 9 5 c ((σ 8 0 1) + (mWay σ (mT σ o 0) (mT σ o 1)))) 9 9 (8 * o + 4) 3) 9 9 (8 * o + 6) ((gst (gst (gst (gst σ 9 3 c 3) 9 2 c (mT σ o 0)) 9 5 c ((σ 8 0 1) + (mWay σ (mT σ o 0) (mT σ o 1)))) 9 9 (8 * o + 4) 3) 8 0 1)) 8 0 1) - (mT σ o 3)) < 5 then (((gst (gst (gst (gst (gst σ 9 3 c 3) 9 2 c (mT σ o 0)) 9 5 c ((σ 8 0 1) + (mWay σ (mT σ o 0) (mT σ o 1)))) 9 9 (8 * o + 4) 3) 9 9 (8 * o + 6) ((gst (gst (gst (gst σ 9 3 c 3) 9 2 c (mT σ o 0)) 9 5 c ((σ 8 0 1) + (mWay σ (mT σ o 0) (mT σ o 1)))) 9 9 (8 * o + 4) 3) 8 0 1)) 8 0 1) - (mT σ o 3)) else 5)) (by decide)
  refine lv_aload_n hx hb dX3_ride_127 rfl (lv_at hl 2 rfl) ?_
  refine gx_get hx hb hown hZ hG 8 0 18 hM.b8 rfl (by decide) k6 (fun _ h => h) (v := .ref (gad g 9 11)) (grf_j (hM.rf (f := 18) rfl) (by decide)) dX3_ride_128 ?_
  refine lv_iconst (v := 4) hx hb dX3_ride_131 (by decide) ?_
  refine lv_iload_n hx hb dX3_ride_132 rfl (lv_at hl 1 rfl) ?_
  refine lv_imul hx hb dX3_ride_133 ?_
  refine gx_topN (y := nI (4 * o)) (by rw [show (4 : Int32) = nI 4 from rfl, pk_mul]) ?_
  refine lv_iconst (v := 3) hx hb dX3_ride_134 (by decide) ?_
  refine lv_iadd hx hb dX3_ride_135 ?_
  refine gx_topN (y := nI ((4 * o) + 3)) (by rw [show (3 : Int32) = nI 3 from rfl, nI_add]) ?_
  refine lv_aload_n hx hb dX3_ride_136 rfl (lv_at hl 2 rfl) ?_
  refine gx_get hx hb hown hZ hG 8 0 1 hM.b8 rfl (by decide) k5 (fun _ h => h) (v := .int ((gst (gst (gst (gst (gst σ 9 3 c 3) 9 2 c (mT σ o 0)) 9 5 c ((σ 8 0 1) + (mWay σ (mT σ o 0) (mT σ o 1)))) 9 9 (8 * o + 4) 3) 9 9 (8 * o + 6) ((gst (gst (gst (gst σ 9 3 c 3) 9 2 c (mT σ o 0)) 9 5 c ((σ 8 0 1) + (mWay σ (mT σ o 0) (mT σ o 1)))) 9 9 (8 * o + 4) 3) 8 0 1)) 8 0 1)) (congrArg Value.int (by simp [gst_app])) dX3_ride_137 ?_
  refine lv_sipush (v := 1440) hx hb dX3_ride_140 (by decide) ?_
  refine lv_irem hx hb dX3_ride_143 (by decide) ?_
  refine lv_sipush (v := 360) hx hb dX3_ride_144 (by decide) ?_
  refine lv_icmp_ge (tgt := 166) hx hb dX3_ride_147 (by decide) (fun c_1 => ?_) (fun c_1 => ?_)
  · skip
    have c9 : 360 ≤ σ 8 0 1 - σ 8 0 1 / 1440 * 1440 := c_1
    refine lv_iconst (v := 0) hx hb dX3_ride_166 (by decide) ?_
    refine gx_astN hx hb hZ hG hS 9 11 ((4 * o) + 3) (by rfl) (hM.b9 (by decide)) rfl rfl ⟨by rw [hM.l11]; omega, by omega⟩ rfl trivial dX3_ride_167 (fun H locs hG hS => ?_)
    have hM := hM.st9 (i := 11) (f := (4 * o) + 3) (v := 0) (by decide)
    exact gx_vretM hx hb hr hlocks hG hS (by unfold mRide; simp only [gst98]; first | rw [if_pos c9] | rw [if_neg c9]) (Nat.le_of_ble_eq_true rfl) (Nat.le_of_ble_eq_true rfl) dX3_ride_168
  · skip
    have c9 : ¬ 360 ≤ σ 8 0 1 - σ 8 0 1 / 1440 * 1440 := c_1
    refine lv_aload_n hx hb dX3_ride_150 rfl (lv_at hl 2 rfl) ?_
    refine gx_get hx hb hown hZ hG 8 0 3 hM.b8 rfl (by decide) k7 (fun _ h => h) (v := .int ((gst (gst (gst (gst (gst σ 9 3 c 3) 9 2 c (mT σ o 0)) 9 5 c ((σ 8 0 1) + (mWay σ (mT σ o 0) (mT σ o 1)))) 9 9 (8 * o + 4) 3) 9 9 (8 * o + 6) ((gst (gst (gst (gst σ 9 3 c 3) 9 2 c (mT σ o 0)) 9 5 c ((σ 8 0 1) + (mWay σ (mT σ o 0) (mT σ o 1)))) 9 9 (8 * o + 4) 3) 8 0 1)) 8 0 3)) (congrArg Value.int (by simp [gst_app])) dX3_ride_151 ?_
    refine lv_aload_n hx hb dX3_ride_154 rfl (lv_at hl 2 rfl) ?_
    refine gx_get hx hb hown hZ hG 8 0 4 hM.b8 rfl (by decide) k8 (fun _ h => h) (v := .int ((gst (gst (gst (gst (gst σ 9 3 c 3) 9 2 c (mT σ o 0)) 9 5 c ((σ 8 0 1) + (mWay σ (mT σ o 0) (mT σ o 1)))) 9 9 (8 * o + 4) 3) 9 9 (8 * o + 6) ((gst (gst (gst (gst σ 9 3 c 3) 9 2 c (mT σ o 0)) 9 5 c ((σ 8 0 1) + (mWay σ (mT σ o 0) (mT σ o 1)))) 9 9 (8 * o + 4) 3) 8 0 1)) 8 0 4)) (congrArg Value.int (by simp [gst_app])) dX3_ride_155 ?_
    refine lv_iload_n hx hb dX3_ride_158 rfl (lv_at hl 0 rfl) ?_
    refine lv_imul hx hb dX3_ride_159 ?_
    refine lv_iadd hx hb dX3_ride_160 ?_
    refine lv_iconst (v := 2) hx hb dX3_ride_161 (by decide) ?_
    refine lv_idiv hx hb dX3_ride_162 (by decide) ?_
    refine lv_goto (tgt := 167) hx hb dX3_ride_163 (by decide) ?_
    refine gx_astN hx hb hZ hG hS 9 11 ((4 * o) + 3) (by rfl) (hM.b9 (by decide)) rfl rfl ⟨by rw [hM.l11]; omega, by omega⟩ rfl trivial dX3_ride_167 (fun H locs hG hS => ?_)
    have hM := hM.st9 (i := 11) (f := (4 * o) + 3) (v := (((gst (gst (gst (gst (gst σ 9 3 c 3) 9 2 c (mT σ o 0)) 9 5 c ((σ 8 0 1) + (mWay σ (mT σ o 0) (mT σ o 1)))) 9 9 (8 * o + 4) 3) 9 9 (8 * o + 6) ((gst (gst (gst (gst σ 9 3 c 3) 9 2 c (mT σ o 0)) 9 5 c ((σ 8 0 1) + (mWay σ (mT σ o 0) (mT σ o 1)))) 9 9 (8 * o + 4) 3) 8 0 1)) 8 0 3) + (((gst (gst (gst (gst (gst σ 9 3 c 3) 9 2 c (mT σ o 0)) 9 5 c ((σ 8 0 1) + (mWay σ (mT σ o 0) (mT σ o 1)))) 9 9 (8 * o + 4) 3) 9 9 (8 * o + 6) ((gst (gst (gst (gst σ 9 3 c 3) 9 2 c (mT σ o 0)) 9 5 c ((σ 8 0 1) + (mWay σ (mT σ o 0) (mT σ o 1)))) 9 9 (8 * o + 4) 3) 8 0 1)) 8 0 4) * (mWay σ (mT σ o 0) (mT σ o 1)))) / 2) (by decide)
    exact gx_vretM hx hb hr hlocks hG hS (by unfold mRide; simp only [gst98]; first | rw [if_pos c9] | rw [if_neg c9]) (Nat.le_of_ble_eq_true rfl) (Nat.le_of_ble_eq_true rfl) dX3_ride_168
set_option maxHeartbeats 4000000 in
set_option maxRecDepth 100000 in
theorem c_X3_done (l : Launch) (g : gG) (σ : Mem) (w : Int64) (c o : Nat) (hM : Mok g σ) (hc : c < 10) (ho : o < 60) (eo : σ 9 4 c = nI o) : Met l yX3_done wsX3_done ({ frames := 2, cells := 0, slots := 0, locals := 46 } : Room) (gPc g σ w [.ref (gad g 8 0), .int (nI c)]) (gM g g (mDone σ c o) w (none)) 0 0 (gA g) := by
  refine gx_ofW (cc := cX3_done) (maxL := 4) (ret := none) (by decide) rfl (Nat.le_of_ble_eq_true rfl) ?_
  intro p e s m below meth c0 hx hb hr hml hts hown hlocks hin hG hZ hS ls hl
  have hown : s.vm.findClass RX3 = some m.cls := hown
  have hl : lv_has ls 4 [(0, .ref (gad g 8 0)), (1, .int (nI c))] := hl
  have k1 := hts (.fieldLink RX3 29 "TaxiRankModel" "orderOf" "[I") (by decide +kernel)
  have k2 := hts (.fieldLink RX3 121 "TaxiRankModel" "now" "I") (by decide +kernel)
  have k3 := hts (.fieldLink RX3 38 "TaxiRankModel" "kept" "[I") (by decide +kernel)
  have k4 := hts (.fieldLink RX3 41 "TaxiRankModel" "dues" "[I") (by decide +kernel)
  have hc10 := hM.c10
  have ho60 := hM.o60
  have hM0 := hM
  refine lv_aload_n hx hb dX3_done_0 rfl (lv_at hl 0 rfl) ?_
  refine gx_get hx hb hown hZ hG 8 0 9 hM.b8 rfl (by decide) k1 (fun _ h => h) (v := .ref (gad g 9 4)) (grf_j (hM.rf (f := 9) rfl) (by decide)) dX3_done_1 ?_
  refine lv_iload_n hx hb dX3_done_4 rfl (lv_at hl 1 rfl) ?_
  refine gx_aldN hx hb hZ hG 9 4 c (by rfl) (hM.b9 (by decide)) rfl rfl ⟨by rw [hM.lc (i := 4) (by decide) (by decide)]; omega, by omega⟩ (v := .int (σ 9 4 c)) rfl dX3_done_5 ?_
  refine lv_istore_n (lv' := [(2, .int (σ 9 4 c)), (0, .ref (gad g 8 0)), (1, .int (nI c))]) hx hb dX3_done_6 rfl hl (by decide) rfl (fun ls hl => ?_)
  rw [eo] at hl
  refine lv_aload_n hx hb dX3_done_7 rfl (lv_at hl 1 rfl) ?_
  refine lv_iload_n hx hb dX3_done_8 rfl (lv_at hl 0 rfl) ?_
  refine lv_iconst (v := 4) hx hb dX3_done_9 (by decide) ?_
  refine lv_iconst (v := 4) hx hb dX3_done_10 (by decide) ?_
  refine gx_cM (gx_runV (As := [.int (nI o), .int (4), .int (4)]) (rest := []) ⟨hx, hb, hml, hown, hts⟩ (c_X3_set l g σ w o 4 4 hM ho (by decide)) (cwV 3 hts gX3_done_X3_set rfl rfl rfl (by decide +kernel) ⟨Nat.le_of_ble_eq_true rfl, Nat.le_of_ble_eq_true rfl⟩) (gx_obj hZ hG 8 0 hM.b8 rfl) hZ hG hS rfl hl.1 rfl (Nat.le_of_ble_eq_true rfl) dX3_done_11 ⟨Nat.le_of_ble_eq_true rfl, Nat.le_of_ble_eq_true rfl⟩) hS (fun H locs hG hS hsz => ?_)
  have hM := hM.stT (o := o) (k := 4) (v := 4) (by decide)
  refine lv_aload_n hx hb dX3_done_14 rfl (lv_at hl 1 rfl) ?_
  refine lv_iload_n hx hb dX3_done_15 rfl (lv_at hl 0 rfl) ?_
  refine lv_bipush (v := 7) hx hb dX3_done_16 (by decide) ?_
  refine lv_aload_n hx hb dX3_done_18 rfl (lv_at hl 1 rfl) ?_
  refine gx_get hx hb hown hZ hG 8 0 1 hM.b8 rfl (by decide) k2 (fun _ h => h) (v := .int ((gst σ 9 9 (8 * o + 4) 4) 8 0 1)) rfl dX3_done_19 ?_
  refine gx_cM (gx_runV (As := [.int (nI o), .int (7), .int ((gst σ 9 9 (8 * o + 4) 4) 8 0 1)]) (rest := []) ⟨hx, hb, hml, hown, hts⟩ (c_X3_set l g (gst σ 9 9 (8 * o + 4) 4) w o 7 ((gst σ 9 9 (8 * o + 4) 4) 8 0 1) hM ho (by decide)) (cwV 3 hts gX3_done_X3_set rfl rfl rfl (by decide +kernel) ⟨Nat.le_of_ble_eq_true rfl, Nat.le_of_ble_eq_true rfl⟩) (gx_obj hZ hG 8 0 hM.b8 rfl) hZ hG hS rfl hl.1 rfl (Nat.le_of_ble_eq_true rfl) dX3_done_22 ⟨Nat.le_of_ble_eq_true rfl, Nat.le_of_ble_eq_true rfl⟩) hS (fun H locs hG hS hsz => ?_)
  have hM := hM.stT (o := o) (k := 7) (v := (gst σ 9 9 (8 * o + 4) 4) 8 0 1) (by decide)
  refine lv_aload_n hx hb dX3_done_25 rfl (lv_at hl 1 rfl) ?_
  refine lv_iload_n hx hb dX3_done_26 rfl (lv_at hl 0 rfl) ?_
  refine lv_iconst (v := 4) hx hb dX3_done_27 (by decide) ?_
  refine gx_cR (gx_runV (As := [.int (nI o), .int (4)]) (rest := []) ⟨hx, hb, hml, hown, hts⟩ (c_X3_fareOf l g (gst (gst σ 9 9 (8 * o + 4) 4) 9 9 (8 * o + 7) ((gst σ 9 9 (8 * o + 4) 4) 8 0 1)) w o 4 hM ho (by decide)) (cwV 2 hts gX3_done_X3_fareOf rfl rfl rfl (by decide +kernel) ⟨Nat.le_of_ble_eq_true rfl, Nat.le_of_ble_eq_true rfl⟩) (gx_obj hZ hG 8 0 hM.b8 rfl) hZ hG hS rfl hl.1 rfl (Nat.le_of_ble_eq_true rfl) dX3_done_28 ⟨Nat.le_of_ble_eq_true rfl, Nat.le_of_ble_eq_true rfl⟩) ?_
  refine gx_topN (y := mSum σ o) (by simp [mFare, mSum, gst_app, nI]) ?_
  refine lv_bipush (v := 80) hx hb dX3_done_31 (by decide) ?_
  refine lv_imul hx hb dX3_done_33 ?_
  refine lv_bipush (v := 100) hx hb dX3_done_34 (by decide) ?_
  refine lv_idiv hx hb dX3_done_36 (by decide) ?_
  refine lv_istore_n (lv' := [(3, .int (((mSum σ o) * 80) / 100)), (2, .int (nI o)), (0, .ref (gad g 8 0)), (1, .int (nI c))]) hx hb dX3_done_37 rfl hl (by decide) rfl (fun ls hl => ?_)
  refine lv_aload_n hx hb dX3_done_38 rfl (lv_at hl 2 rfl) ?_
  refine gx_get hx hb hown hZ hG 8 0 13 hM.b8 rfl (by decide) k3 (fun _ h => h) (v := .ref (gad g 9 7)) (grf_j (hM.rf (f := 13) rfl) (by decide)) dX3_done_39 ?_
  refine lv_iload_n hx hb dX3_done_42 rfl (lv_at hl 3 rfl) ?_
  refine lv_dup2_11 hx hb dX3_done_43 rfl rfl ?_
  refine gx_aldN hx hb hZ hG 9 7 c (by rfl) (hM.b9 (by decide)) rfl rfl ⟨by rw [hM.lc (i := 7) (by decide) (by decide)]; omega, by omega⟩ (v := .int ((gst (gst σ 9 9 (8 * o + 4) 4) 9 9 (8 * o + 7) ((gst σ 9 9 (8 * o + 4) 4) 8 0 1)) 9 7 c)) rfl dX3_done_44 ?_
  refine lv_iload_n hx hb dX3_done_45 rfl (lv_at hl 0 rfl) ?_
  refine lv_iadd hx hb dX3_done_46 ?_
  refine gx_astN hx hb hZ hG hS 9 7 c (by rfl) (hM.b9 (by decide)) rfl rfl ⟨by rw [hM.lc (i := 7) (by decide) (by decide)]; omega, by omega⟩ rfl trivial dX3_done_47 (fun H locs hG hS => ?_)
  have hM := hM.st9 (i := 7) (f := c) (v := ((gst (gst σ 9 9 (8 * o + 4) 4) 9 9 (8 * o + 7) ((gst σ 9 9 (8 * o + 4) 4) 8 0 1)) 9 7 c) + (((mSum σ o) * 80) / 100)) (by decide)
  refine lv_aload_n hx hb dX3_done_48 rfl (lv_at hl 2 rfl) ?_
  refine gx_get hx hb hown hZ hG 8 0 14 hM.b8 rfl (by decide) k4 (fun _ h => h) (v := .ref (gad g 9 8)) (grf_j (hM.rf (f := 14) rfl) (by decide)) dX3_done_49 ?_
  refine lv_iload_n hx hb dX3_done_52 rfl (lv_at hl 3 rfl) ?_
  refine lv_dup2_11 hx hb dX3_done_53 rfl rfl ?_
  refine gx_aldN hx hb hZ hG 9 8 c (by rfl) (hM.b9 (by decide)) rfl rfl ⟨by rw [hM.lc (i := 8) (by decide) (by decide)]; omega, by omega⟩ (v := .int ((gst (gst σ 9 9 (8 * o + 4) 4) 9 9 (8 * o + 7) ((gst σ 9 9 (8 * o + 4) 4) 8 0 1)) 9 8 c)) (congrArg Value.int (by simp [gst_app])) dX3_done_54 ?_
  refine lv_aload_n hx hb dX3_done_55 rfl (lv_at hl 2 rfl) ?_
  refine lv_iload_n hx hb dX3_done_56 rfl (lv_at hl 1 rfl) ?_
  refine lv_iconst (v := 4) hx hb dX3_done_57 (by decide) ?_
  refine gx_cR (gx_runV (As := [.int (nI o), .int (4)]) (rest := [.int ((gst (gst σ 9 9 (8 * o + 4) 4) 9 9 (8 * o + 7) ((gst σ 9 9 (8 * o + 4) 4) 8 0 1)) 9 8 c), .int (nI c), .ref (gad g 9 8)]) ⟨hx, hb, hml, hown, hts⟩ (c_X3_fareOf l g (gst (gst (gst σ 9 9 (8 * o + 4) 4) 9 9 (8 * o + 7) ((gst σ 9 9 (8 * o + 4) 4) 8 0 1)) 9 7 c (((gst (gst σ 9 9 (8 * o + 4) 4) 9 9 (8 * o + 7) ((gst σ 9 9 (8 * o + 4) 4) 8 0 1)) 9 7 c) + (((mSum σ o) * 80) / 100))) w o 4 hM ho (by decide)) (cwV 2 hts gX3_done_X3_fareOf rfl rfl rfl (by decide +kernel) ⟨Nat.le_of_ble_eq_true rfl, Nat.le_of_ble_eq_true rfl⟩) (gx_obj hZ hG 8 0 hM.b8 rfl) hZ hG hS rfl hl.1 rfl (Nat.le_of_ble_eq_true rfl) dX3_done_58 ⟨Nat.le_of_ble_eq_true rfl, Nat.le_of_ble_eq_true rfl⟩) ?_
  refine gx_topN (y := mSum σ o) (by simp [mFare, mSum, gst_app, nI]) ?_
  refine lv_iload_n hx hb dX3_done_61 rfl (lv_at hl 0 rfl) ?_
  refine lv_isub hx hb dX3_done_62 ?_
  refine lv_iadd hx hb dX3_done_63 ?_
  refine gx_astN hx hb hZ hG hS 9 8 c (by rfl) (hM.b9 (by decide)) rfl rfl ⟨by rw [hM.lc (i := 8) (by decide) (by decide)]; omega, by omega⟩ rfl trivial dX3_done_64 (fun H locs hG hS => ?_)
  have hM := hM.st9 (i := 8) (f := c) (v := ((gst (gst σ 9 9 (8 * o + 4) 4) 9 9 (8 * o + 7) ((gst σ 9 9 (8 * o + 4) 4) 8 0 1)) 9 8 c) + ((mSum σ o) - (((mSum σ o) * 80) / 100))) (by decide)
  refine lv_aload_n hx hb dX3_done_65 rfl (lv_at hl 2 rfl) ?_
  refine lv_iload_n hx hb dX3_done_66 rfl (lv_at hl 3 rfl) ?_
  refine lv_aload_n hx hb dX3_done_67 rfl (lv_at hl 2 rfl) ?_
  refine lv_iload_n hx hb dX3_done_68 rfl (lv_at hl 1 rfl) ?_
  refine lv_iconst (v := 1) hx hb dX3_done_69 (by decide) ?_
  refine gx_cR (gx_runV (As := [.int (nI o), .int (1)]) (rest := [.int (nI c), .ref (gad g 8 0)]) ⟨hx, hb, hml, hown, hts⟩ (c_X3_get l g (gst (gst (gst (gst σ 9 9 (8 * o + 4) 4) 9 9 (8 * o + 7) ((gst σ 9 9 (8 * o + 4) 4) 8 0 1)) 9 7 c (((gst (gst σ 9 9 (8 * o + 4) 4) 9 9 (8 * o + 7) ((gst σ 9 9 (8 * o + 4) 4) 8 0 1)) 9 7 c) + (((mSum σ o) * 80) / 100))) 9 8 c (((gst (gst σ 9 9 (8 * o + 4) 4) 9 9 (8 * o + 7) ((gst σ 9 9 (8 * o + 4) 4) 8 0 1)) 9 8 c) + ((mSum σ o) - (((mSum σ o) * 80) / 100)))) w o 1 hM ho (by decide)) (cwV 2 hts gX3_done_X3_get rfl rfl rfl (by decide +kernel) ⟨Nat.le_of_ble_eq_true rfl, Nat.le_of_ble_eq_true rfl⟩) (gx_obj hZ hG 8 0 hM.b8 rfl) hZ hG hS rfl hl.1 rfl (Nat.le_of_ble_eq_true rfl) dX3_done_70 ⟨Nat.le_of_ble_eq_true rfl, Nat.le_of_ble_eq_true rfl⟩) ?_
  refine gx_topN (y := mT σ o 1) (by simp [mT, gst_app]) ?_
  refine gx_cM (gx_runV (As := [.int (nI c), .int (mT σ o 1)]) (rest := []) ⟨hx, hb, hml, hown, hts⟩ (c_X3_free l g (gst (gst (gst (gst σ 9 9 (8 * o + 4) 4) 9 9 (8 * o + 7) ((gst σ 9 9 (8 * o + 4) 4) 8 0 1)) 9 7 c (((gst (gst σ 9 9 (8 * o + 4) 4) 9 9 (8 * o + 7) ((gst σ 9 9 (8 * o + 4) 4) 8 0 1)) 9 7 c) + (((mSum σ o) * 80) / 100))) 9 8 c (((gst (gst σ 9 9 (8 * o + 4) 4) 9 9 (8 * o + 7) ((gst σ 9 9 (8 * o + 4) 4) 8 0 1)) 9 8 c) + ((mSum σ o) - (((mSum σ o) * 80) / 100)))) w c (mT σ o 1) hM hc (hM0.t1 ho)) (cwV 2 hts gX3_done_X3_free rfl rfl rfl (by decide +kernel) ⟨Nat.le_of_ble_eq_true rfl, Nat.le_of_ble_eq_true rfl⟩) (gx_obj hZ hG 8 0 hM.b8 rfl) hZ hG hS rfl hl.1 rfl (Nat.le_of_ble_eq_true rfl) dX3_done_73 ⟨Nat.le_of_ble_eq_true rfl, Nat.le_of_ble_eq_true rfl⟩) hS (fun H locs hG hS hsz => ?_)
  exact gx_vretM hx hb hr hlocks hG hS (by unfold mDone mKeep; first | rfl | simp [gst_app]) (Nat.le_of_ble_eq_true rfl) (Nat.le_of_ble_eq_true rfl) dX3_done_76
