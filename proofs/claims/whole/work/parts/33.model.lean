/-! the model's memory -/
def mZ (z : Int32) : Prop := ∃ q, q < 6 ∧ z = nI q
def mC (σ : Mem) : Nat := ix (σ 8 0 5)
def mO (σ : Mem) : Nat := ix (σ 8 0 15)
def mRef : Nat → Option Nat
  | 2 => some 0 | 6 => some 1 | 7 => some 2 | 8 => some 3 | 9 => some 4 | 10 => some 5 | 11 => some 6 | 13 => some 7 | 14 => some 8 | 16 => some 9 | 17 => some 10 | 18 => some 11 | _ => none
def MokG (g : gG) : Prop := gcn g 8 = 1 ∧ 12 ≤ gcn g 9 ∧ gln g 9 0 = 36 ∧ (∀ i, 1 ≤ i → i ≤ 8 → gln g 9 i = 10) ∧ gln g 9 9 = 480 ∧ gln g 9 10 = 60 ∧ gln g 9 11 = 240
def Mok (g : gG) (σ : Mem) : Prop := MokG g ∧ (∀ f i, mRef f = some i → σ 8 0 f = nI i) ∧ (σ 8 0 5 = nI (mC σ) ∧ mC σ ≤ 10) ∧ (σ 8 0 15 = nI (mO σ) ∧ mO σ ≤ 60) ∧ gcn g 9 ≤ 100 ∧
  (∀ c, c < 10 → mZ (σ 9 2 c)) ∧ (∀ o, o < 60 → mZ (σ 9 9 (8 * o)) ∧ mZ (σ 9 9 (8 * o + 1)))
section MOK
variable {g : gG} {σ : Mem}
theorem Mok.b8 (h : Mok g σ) : 0 < gcn g 8 := by rw [h.1.1]; decide
theorem Mok.b9 (h : Mok g σ) {i : Nat} (hi : i < 12) : i < gcn g 9 := Nat.lt_of_lt_of_le hi h.1.2.1
theorem Mok.l0 (h : Mok g σ) : gln g 9 0 = 36 := h.1.2.2.1
theorem Mok.lc (h : Mok g σ) {i : Nat} (h1 : 1 ≤ i) (h8 : i ≤ 8) : gln g 9 i = 10 := h.1.2.2.2.1 i h1 h8
theorem Mok.l9 (h : Mok g σ) : gln g 9 9 = 480 := h.1.2.2.2.2.1
theorem Mok.l10 (h : Mok g σ) : gln g 9 10 = 60 := h.1.2.2.2.2.2.1
theorem Mok.l11 (h : Mok g σ) : gln g 9 11 = 240 := h.1.2.2.2.2.2.2
theorem Mok.rf (h : Mok g σ) {f i : Nat} (hf : mRef f = some i) : σ 8 0 f = nI i := h.2.1 f i hf
theorem Mok.eC (h : Mok g σ) : σ 8 0 5 = nI (mC σ) := h.2.2.1.1
theorem Mok.c10 (h : Mok g σ) : mC σ ≤ 10 := h.2.2.1.2
theorem Mok.eO (h : Mok g σ) : σ 8 0 15 = nI (mO σ) := h.2.2.2.1.1
theorem Mok.o60 (h : Mok g σ) : mO σ ≤ 60 := h.2.2.2.1.2
theorem Mok.n9 (h : Mok g σ) : gcn g 9 ≤ 100 := h.2.2.2.2.1
theorem Mok.z (h : Mok g σ) {c : Nat} (hc : c < 10) : mZ (σ 9 2 c) := h.2.2.2.2.2.1 c hc
theorem Mok.t0 (h : Mok g σ) {o : Nat} (ho : o < 60) : mZ (σ 9 9 (8 * o + 0)) := (h.2.2.2.2.2.2 o ho).1
theorem Mok.t1 (h : Mok g σ) {o : Nat} (ho : o < 60) : mZ (σ 9 9 (8 * o + 1)) := (h.2.2.2.2.2.2 o ho).2
def mSens : Nat → Bool
  | 0 => false | 1 => false | 3 => false | 4 => false | 12 => false | _ => true
theorem Mok.st8 {f : Nat} {v : Int32} (h : Mok g σ) (hf : mSens f = false) : Mok g (gst σ 8 0 f v) := by
  obtain ⟨h1, h2, h3, h4, h5, h6, h7⟩ := h
  have e : ∀ f', mSens f' = true → gst σ 8 0 f v 8 0 f' = σ 8 0 f' := fun f' h' => gst_nf (by rintro rfl; rw [hf] at h'; cases h')
  have eC : mC (gst σ 8 0 f v) = mC σ := by unfold mC; rw [e 5 rfl]
  have eO : mO (gst σ 8 0 f v) = mO σ := by unfold mO; rw [e 15 rfl]
  refine ⟨h1, fun f' i hr => ?_, ?_, ?_, ?_, fun c hc => ?_, fun o ho => ?_⟩
  · rw [e f' ?_]
    · exact h2 f' i hr
    · unfold mRef at hr
      split at hr <;> first | rfl | cases hr
  · rw [eC, e 5 rfl]; exact h3
  · rw [eO, e 15 rfl]; exact h4
  · exact h5
  · rw [gst_nk (by decide)]; exact h6 c hc
  · rw [gst_nk (by decide), gst_nk (by decide)]; exact h7 o ho
theorem Mok.st9 {i f : Nat} {v : Int32} (h : Mok g σ) (hi : i ≠ 2 ∧ i ≠ 9) : Mok g (gst σ 9 i f v) := by
  obtain ⟨h1, h2, h3, h4, h5, h6, h7⟩ := h
  have e : ∀ f', gst σ 9 i f v 8 0 f' = σ 8 0 f' := fun f' => gst_nk (by decide)
  have eC : mC (gst σ 9 i f v) = mC σ := by unfold mC; rw [e 5]
  have eO : mO (gst σ 9 i f v) = mO σ := by unfold mO; rw [e 15]
  refine ⟨h1, fun f' i hr => ?_, ?_, ?_, ?_, fun c hc => ?_, fun o ho => ?_⟩
  · rw [e f']; exact h2 f' i hr
  · rw [eC, e 5]; exact h3
  · rw [eO, e 15]; exact h4
  · exact h5
  · rw [gst_ni (Ne.symm hi.1)]; exact h6 c hc
  · rw [gst_ni (Ne.symm hi.2), gst_ni (Ne.symm hi.2)]; exact h7 o ho
theorem Mok.stZ {f : Nat} {v : Int32} (h : Mok g σ) (hv : mZ v) : Mok g (gst σ 9 2 f v) := by
  obtain ⟨h1, h2, h3, h4, h5, h6, h7⟩ := h
  have e : ∀ f', gst σ 9 2 f v 8 0 f' = σ 8 0 f' := fun f' => gst_nk (by decide)
  have eC : mC (gst σ 9 2 f v) = mC σ := by unfold mC; rw [e 5]
  have eO : mO (gst σ 9 2 f v) = mO σ := by unfold mO; rw [e 15]
  refine ⟨h1, fun f' i hr => ?_, ?_, ?_, ?_, fun c hc => ?_, fun o ho => ?_⟩
  · rw [e f']; exact h2 f' i hr
  · rw [eC, e 5]; exact h3
  · rw [eO, e 15]; exact h4
  · exact h5
  · by_cases e : c = f
    · subst e; rw [gst_eq]; exact hv
    · rw [gst_nf e]; exact h6 c hc
  · rw [gst_ni (by decide), gst_ni (by decide)]; exact h7 o ho
theorem Mok.stT {o k : Nat} {v : Int32} (h : Mok g σ) (hk : 2 ≤ k ∧ k < 8) : Mok g (gst σ 9 9 (8 * o + k) v) := by
  obtain ⟨h1, h2, h3, h4, h5, h6, h7⟩ := h
  have e : ∀ f', gst σ 9 9 (8 * o + k) v 8 0 f' = σ 8 0 f' := fun f' => gst_nk (by decide)
  have eC : mC (gst σ 9 9 (8 * o + k) v) = mC σ := by unfold mC; rw [e 5]
  have eO : mO (gst σ 9 9 (8 * o + k) v) = mO σ := by unfold mO; rw [e 15]
  refine ⟨h1, fun f' i hr => ?_, ?_, ?_, ?_, fun c hc => ?_, fun o ho => ?_⟩
  · rw [e f']; exact h2 f' i hr
  · rw [eC, e 5]; exact h3
  · rw [eO, e 15]; exact h4
  · exact h5
  · rw [gst_ni (by decide)]; exact h6 c hc
  · rw [gst_nf (by omega), gst_nf (by omega)]; exact h7 o ho
end MOK
def mIn (v l h : Int32) : Bool := if v < l then false else if h < v then false else true
def mZo (z : Int32) : Bool := mIn z 0 5
theorem mZo_z {z : Int32} (h : mZo z = true) : mZ z := by
  unfold mZo mIn at h
  split at h
  · cases h
  · next h1 =>
    split at h
    · cases h
    · next h2 =>
      rcases pk_ix z (n := 6) (by decide) with q | q | ⟨j, hj, rfl⟩
      · exact absurd q h1
      · exact absurd (Int32.lt_of_lt_of_le (by decide : (5 : Int32) < nI 6) q) h2
      · exact ⟨j, hj, rfl⟩
def mIsC (σ : Mem) (n : Int32) : Bool := mIn n 0 (σ 8 0 5 - 1)
def mIsO (σ : Mem) (n : Int32) : Bool := mIn n 0 (σ 8 0 15 - 1)
theorem mIn_n {n : Int32} {m : Nat} (hm : m ≤ 60) (h : mIn n 0 (nI m - 1) = true) : ix n < m ∧ n = nI (ix n) := by
  unfold mIn at h
  split at h
  · cases h
  · next h1 =>
    split at h
    · cases h
    · next h2 =>
      rcases pk_ix n (n := m) (by omega) with q | q | ⟨j, hj, rfl⟩
      · exact absurd q h1
      · exfalso
        apply h2
        cases m with
        | zero => exact Int32.lt_of_lt_of_le (by decide : nI 0 - 1 < nI 0) q
        | succ m =>
          have e : nI (m + 1) - 1 = nI m := by
            have k := pk_sub (a := m + 1) (b := 1) (by omega)
            exact k
          rw [e]
          exact Int32.lt_of_lt_of_le (nI_lt (by omega) (by omega)) q
      · rw [ix_nI (by omega)]
        exact ⟨hj, rfl⟩
theorem Mok.isC {g : gG} {σ : Mem} {n : Int32} (h : Mok g σ) (hn : mIsC σ n = true) : ix n < mC σ ∧ n = nI (ix n) := by
  unfold mIsC at hn
  rw [h.eC] at hn
  exact mIn_n (by have := h.c10; omega) hn
theorem Mok.isO {g : gG} {σ : Mem} {n : Int32} (h : Mok g σ) (hn : mIsO σ n = true) : ix n < mO σ ∧ n = nI (ix n) := by
  unfold mIsO at hn
  rw [h.eO] at hn
  exact mIn_n h.o60 hn
theorem mZ_in {a b : Int32} (ha : mZ a) (hb : mZ b) : vp_in (6 * a + b) 36 := by
  obtain ⟨x, hx, rfl⟩ := ha
  obtain ⟨y, hy, rfl⟩ := hb
  have e : (6 : Int32) * nI x + nI y = nI (6 * x + y) := by
    rw [show (6 : Int32) = nI 6 from rfl, pk_mul, nI_add]
  rw [e]
  exact vp_in_nI (by omega) (by omega)
def mWay (σ : Mem) (a b : Int32) : Int32 := σ 9 0 (ix (6 * a + b))
def mT (σ : Mem) (o k : Nat) : Int32 := σ 9 9 (8 * o + k)
def mQup (σ : Mem) (c : Nat) : Mem := gst (gst σ 8 0 12 (σ 8 0 12 + 1)) 9 6 c (σ 8 0 12 + 1)
def mFree (σ : Mem) (c : Nat) (z : Int32) : Mem := mQup (gst (gst (gst σ 9 3 c 1) 9 2 c z) 9 4 c (-1)) c
theorem Mok.qup {g : gG} {σ : Mem} {c : Nat} (h : Mok g σ) : Mok g (mQup σ c) := (h.st8 rfl).st9 (by decide)
theorem Mok.free {g : gG} {σ : Mem} {c : Nat} {z : Int32} (h : Mok g σ) (hz : mZ z) : Mok g (mFree σ c z) := (((h.st9 (by decide)).stZ hz).st9 (by decide)).qup
def mRfd (σ : Mem) (c : Nat) : Mem := if σ 9 4 c = -1 then σ else
  gst (gst (gst (gst σ 9 10 (ix (σ 9 4 c)) (σ 9 10 (ix (σ 9 4 c)) ||| (1 <<< (nI c &&& 31)))) 9 9 (8 * ix (σ 9 4 c) + 4) 0) 9 9 (8 * ix (σ 9 4 c) + 5) (-1)) 9 4 c (-1)
theorem Mok.rfd {g : gG} {σ : Mem} {c : Nat} (h : Mok g σ) : Mok g (mRfd σ c) := by
  unfold mRfd
  split
  · exact h
  · exact (((h.st9 (by decide)).stT (by decide)).stT (by decide)).st9 (by decide)
def mPlGo (σ : Mem) (c : Nat) : Nat → Nat → Int32 → Int32
  | 0, _, acc => acc
  | r + 1, k, acc => if σ 9 3 k = 1 then (if σ 9 2 k = σ 9 2 c then (if σ 9 6 c ≤ σ 9 6 k then mPlGo σ c r (k + 1) (acc + 0) else mPlGo σ c r (k + 1) (acc + 1)) else mPlGo σ c r (k + 1) (acc + 0)) else mPlGo σ c r (k + 1) (acc + 0)
def mPl (σ : Mem) (c : Nat) : Int32 := if σ 9 3 c = 1 then mPlGo σ c (mC σ) 0 0 else -1
def mCan (σ : Mem) (o c : Nat) : Bool := if σ 9 3 c = 1 then (if σ 9 4 c = -1 then (if σ 9 1 c < mT σ o 2 then false else if (σ 9 10 o >>> (nI c &&& 31)) &&& 1 = 0 then true else false) else false) else false
def mNear (σ : Mem) (c b : Nat) (z : Int32) : Bool :=
  if σ 9 2 c = z then (if σ 9 2 b = z then (if σ 9 2 c = σ 9 2 b then (if σ 9 6 b ≤ σ 9 6 c then false else true) else if mWay σ (σ 9 2 c) z - mWay σ (σ 9 2 b) z = 0 then (if σ 9 2 b ≤ σ 9 2 c then false else true) else if 0 ≤ mWay σ (σ 9 2 c) z - mWay σ (σ 9 2 b) z then false else true) else true)
  else (if σ 9 2 b = z then false else (if σ 9 2 c = σ 9 2 b then (if σ 9 6 b ≤ σ 9 6 c then false else true) else if mWay σ (σ 9 2 c) z - mWay σ (σ 9 2 b) z = 0 then (if σ 9 2 b ≤ σ 9 2 c then false else true) else if 0 ≤ mWay σ (σ 9 2 c) z - mWay σ (σ 9 2 b) z then false else true))
def mCfGo (σ : Mem) (o : Nat) : Nat → Nat → Int32 → Int32
  | 0, _, best => best
  | r + 1, k, best => if mCan σ o k = true then (if best = -1 then mCfGo σ o r (k + 1) (nI k) else if mNear σ k (ix best) (mT σ o 0) = true then mCfGo σ o r (k + 1) (nI k) else mCfGo σ o r (k + 1) best) else mCfGo σ o r (k + 1) best
def mCf (σ : Mem) (o : Nat) : Int32 := mCfGo σ o (mC σ) 0 (-1)
set_option maxHeartbeats 4000000 in
set_option maxRecDepth 100000 in
theorem c_X3_thrown (l : Launch) (g : gG) (σ : Mem) (w : Int64) (hM : Mok g σ) : Met l yX3_thrown wsX3_thrown ({ frames := 0, cells := 0, slots := 0, locals := 0 } : Room) (gPc g σ w [.ref (gad g 8 0)]) (gR (.int (σ 8 0 0))) 0 0 (fun _ => False) := by
  refine gx_ofW (cc := cX3_thrown) (maxL := 1) (ret := (some .int)) (by decide) rfl (Nat.le_of_ble_eq_true rfl) ?_
  intro p e s m below meth c0 hx hb hr hml hts hown hlocks hin hG hZ hS ls hl
  have hown : s.vm.findClass RX3 = some m.cls := hown
  have hl : lv_has ls 1 [(0, .ref (gad g 8 0))] := hl
  have k1 := hts (.fieldLink RX3 53 "TaxiRankModel" "thrown" "I") (by decide +kernel)
  have hc10 := hM.c10
  have ho60 := hM.o60
  refine lv_aload_n hx hb dX3_thrown_0 rfl (lv_at hl 0 rfl) ?_
  refine gx_get hx hb hown hZ hG 8 0 0 hM.b8 rfl (by decide) k1 (fun _ h => h) (v := .int (σ 8 0 0)) rfl dX3_thrown_1 ?_
  exact gx_iretR hx hb hr hlocks rfl (Nat.le_of_ble_eq_true rfl) (Nat.le_of_ble_eq_true rfl) dX3_thrown_4
set_option maxHeartbeats 4000000 in
set_option maxRecDepth 100000 in
theorem c_X3_fail (l : Launch) (g : gG) (σ : Mem) (w : Int64) (n : Int32) (hM : Mok g σ) : Met l yX3_fail wsX3_fail ({ frames := 0, cells := 0, slots := 0, locals := 0 } : Room) (gPc g σ w [.ref (gad g 8 0), .int (n)]) (gM g g (gst σ 8 0 0 n) w (some (.int 0))) 0 0 (gA g) := by
  refine gx_ofW (cc := cX3_fail) (maxL := 2) (ret := (some .int)) (by decide) rfl (Nat.le_of_ble_eq_true rfl) ?_
  intro p e s m below meth c0 hx hb hr hml hts hown hlocks hin hG hZ hS ls hl
  have hown : s.vm.findClass RX3 = some m.cls := hown
  have hl : lv_has ls 2 [(0, .ref (gad g 8 0)), (1, .int (n))] := hl
  have k1 := hts (.fieldLink RX3 53 "TaxiRankModel" "thrown" "I") (by decide +kernel)
  have hc10 := hM.c10
  have ho60 := hM.o60
  refine lv_aload_n hx hb dX3_fail_0 rfl (lv_at hl 0 rfl) ?_
  refine lv_iload_n hx hb dX3_fail_1 rfl (lv_at hl 1 rfl) ?_
  refine gx_put hx hb hown hZ hG hS 8 0 0 (n) hM.b8 rfl (by decide) k1 (fun _ h => h) rfl rfl trivial rfl rfl dX3_fail_2 (fun H locs hG hS => ?_)
  have hM := hM.st8 (f := 0) (v := n) rfl
  refine lv_iconst (v := 0) hx hb dX3_fail_5 (by decide) ?_
  exact gx_iretM hx hb hr hlocks hG hS rfl rfl (Nat.le_of_ble_eq_true rfl) (Nat.le_of_ble_eq_true rfl) dX3_fail_6
set_option maxHeartbeats 4000000 in
set_option maxRecDepth 100000 in
theorem c_X3_isIn (l : Launch) (g : gG) (σ : Mem) (w : Int64) (v x y : Int32) : Met l yX3_isIn wsX3_isIn ({ frames := 0, cells := 0, slots := 0, locals := 0 } : Room) (gPc g σ w [.int (v), .int (x), .int (y)]) (gR (.int (bI (mIn v x y)))) 0 0 (fun _ => False) := by
  refine gx_ofW (cc := cX3_isIn) (maxL := 3) (ret := (some .boolean)) (by decide) rfl (Nat.le_of_ble_eq_true rfl) ?_
  intro p e s m below meth c0 hx hb hr hml hts hown hlocks hin hG hZ hS ls hl
  have hown : s.vm.findClass RX3 = some m.cls := hown
  have hl : lv_has ls 3 [(0, .int (v)), (1, .int (x)), (2, .int (y))] := hl
  refine lv_iload_n hx hb dX3_isIn_0 rfl (lv_at hl 0 rfl) ?_
  refine lv_iload_n hx hb dX3_isIn_1 rfl (lv_at hl 1 rfl) ?_
  refine lv_icmp_lt (tgt := 14) hx hb dX3_isIn_2 (by decide) (fun c_1 => ?_) (fun c_1 => ?_)
  · skip
    refine lv_iconst (v := 0) hx hb dX3_isIn_14 (by decide) ?_
    exact gx_zretR hx hb hr hlocks (by first | (simp only [mIn, bI, c_1, reduceIte, eq_self, Bool.false_eq_true]; done) | simp [mIn, bI, c_1]) rfl (Nat.le_of_ble_eq_true rfl) (Nat.le_of_ble_eq_true rfl) dX3_isIn_15
  · skip
    refine lv_iload_n hx hb dX3_isIn_5 rfl (lv_at hl 0 rfl) ?_
    refine lv_iload_n hx hb dX3_isIn_6 rfl (lv_at hl 2 rfl) ?_
    refine lv_icmp_gt (tgt := 14) hx hb dX3_isIn_7 (by decide) (fun c_2 => ?_) (fun c_2 => ?_)
    · skip
      refine lv_iconst (v := 0) hx hb dX3_isIn_14 (by decide) ?_
      exact gx_zretR hx hb hr hlocks (by first | (simp only [mIn, bI, c_1, c_2, reduceIte, eq_self, Bool.false_eq_true]; done) | simp [mIn, bI, c_1, c_2]) rfl (Nat.le_of_ble_eq_true rfl) (Nat.le_of_ble_eq_true rfl) dX3_isIn_15
    · skip
      refine lv_iconst (v := 1) hx hb dX3_isIn_10 (by decide) ?_
      refine lv_goto (tgt := 15) hx hb dX3_isIn_11 (by decide) ?_
      exact gx_zretR hx hb hr hlocks (by first | (simp only [mIn, bI, c_1, c_2, reduceIte, eq_self, Bool.false_eq_true]; done) | simp [mIn, bI, c_1, c_2]) rfl (Nat.le_of_ble_eq_true rfl) (Nat.le_of_ble_eq_true rfl) dX3_isIn_15
set_option maxHeartbeats 4000000 in
set_option maxRecDepth 100000 in
theorem c_X3_isZone (l : Launch) (g : gG) (σ : Mem) (w : Int64) (z : Int32) : Met l yX3_isZone wsX3_isZone ({ frames := 1, cells := 0, slots := 0, locals := 22 } : Room) (gPc g σ w [.int (z)]) (gR (.int (bI (mZo z)))) 0 0 (fun _ => False) := by
  refine gx_ofW (cc := cX3_isZone) (maxL := 1) (ret := (some .boolean)) (by decide) rfl (Nat.le_of_ble_eq_true rfl) ?_
  intro p e s m below meth c0 hx hb hr hml hts hown hlocks hin hG hZ hS ls hl
  have hown : s.vm.findClass RX3 = some m.cls := hown
  have hl : lv_has ls 1 [(0, .int (z))] := hl
  refine lv_iload_n hx hb dX3_isZone_0 rfl (lv_at hl 0 rfl) ?_
  refine lv_iconst (v := 0) hx hb dX3_isZone_1 (by decide) ?_
  refine lv_iconst (v := 5) hx hb dX3_isZone_2 (by decide) ?_
  refine gx_cR (gx_runS (As := [.int (z), .int (0), .int (5)]) (rest := []) ⟨hx, hb, hml, hown, hts⟩ (c_X3_isIn l g σ w z 0 5) (va_cwS 3 hts gX3_isZone_X3_isIn rfl rfl rfl (by decide +kernel) ⟨Nat.le_of_ble_eq_true rfl, Nat.le_of_ble_eq_true rfl⟩) hZ hG hS rfl hl.1 rfl (Nat.le_of_ble_eq_true rfl) dX3_isZone_3 ⟨Nat.le_of_ble_eq_true rfl, Nat.le_of_ble_eq_true rfl⟩) ?_
  exact gx_zretR hx hb hr hlocks rfl (bI_n _) (Nat.le_of_ble_eq_true rfl) (Nat.le_of_ble_eq_true rfl) dX3_isZone_6
set_option maxHeartbeats 4000000 in
set_option maxRecDepth 100000 in
theorem c_X3_isCab (l : Launch) (g : gG) (σ : Mem) (w : Int64) (n : Int32) (hM : Mok g σ) : Met l yX3_isCab wsX3_isCab ({ frames := 1, cells := 0, slots := 0, locals := 22 } : Room) (gPc g σ w [.ref (gad g 8 0), .int (n)]) (gR (.int (bI (mIsC σ n)))) 0 0 (fun _ => False) := by
  refine gx_ofW (cc := cX3_isCab) (maxL := 2) (ret := (some .boolean)) (by decide) rfl (Nat.le_of_ble_eq_true rfl) ?_
  intro p e s m below meth c0 hx hb hr hml hts hown hlocks hin hG hZ hS ls hl
  have hown : s.vm.findClass RX3 = some m.cls := hown
  have hl : lv_has ls 2 [(0, .ref (gad g 8 0)), (1, .int (n))] := hl
  have k1 := hts (.fieldLink RX3 60 "TaxiRankModel" "cabs" "I") (by decide +kernel)
  have hc10 := hM.c10
  have ho60 := hM.o60
  refine lv_iload_n hx hb dX3_isCab_0 rfl (lv_at hl 1 rfl) ?_
  refine lv_iconst (v := 0) hx hb dX3_isCab_1 (by decide) ?_
  refine lv_aload_n hx hb dX3_isCab_2 rfl (lv_at hl 0 rfl) ?_
  refine gx_get hx hb hown hZ hG 8 0 5 hM.b8 rfl (by decide) k1 (fun _ h => h) (v := .int (σ 8 0 5)) rfl dX3_isCab_3 ?_
  refine lv_iconst (v := 1) hx hb dX3_isCab_6 (by decide) ?_
  refine lv_isub hx hb dX3_isCab_7 ?_
  refine gx_cR (gx_runS (As := [.int (n), .int (0), .int ((σ 8 0 5) - 1)]) (rest := []) ⟨hx, hb, hml, hown, hts⟩ (c_X3_isIn l g σ w n 0 (σ 8 0 5 - 1)) (va_cwS 3 hts gX3_isCab_X3_isIn rfl rfl rfl (by decide +kernel) ⟨Nat.le_of_ble_eq_true rfl, Nat.le_of_ble_eq_true rfl⟩) hZ hG hS rfl hl.1 rfl (Nat.le_of_ble_eq_true rfl) dX3_isCab_8 ⟨Nat.le_of_ble_eq_true rfl, Nat.le_of_ble_eq_true rfl⟩) ?_
  exact gx_zretR hx hb hr hlocks rfl (bI_n _) (Nat.le_of_ble_eq_true rfl) (Nat.le_of_ble_eq_true rfl) dX3_isCab_11
set_option maxHeartbeats 4000000 in
set_option maxRecDepth 100000 in
theorem c_X3_isOrder (l : Launch) (g : gG) (σ : Mem) (w : Int64) (n : Int32) (hM : Mok g σ) : Met l yX3_isOrder wsX3_isOrder ({ frames := 1, cells := 0, slots := 0, locals := 22 } : Room) (gPc g σ w [.ref (gad g 8 0), .int (n)]) (gR (.int (bI (mIsO σ n)))) 0 0 (fun _ => False) := by
  refine gx_ofW (cc := cX3_isOrder) (maxL := 2) (ret := (some .boolean)) (by decide) rfl (Nat.le_of_ble_eq_true rfl) ?_
  intro p e s m below meth c0 hx hb hr hml hts hown hlocks hin hG hZ hS ls hl
  have hown : s.vm.findClass RX3 = some m.cls := hown
  have hl : lv_has ls 2 [(0, .ref (gad g 8 0)), (1, .int (n))] := hl
  have k1 := hts (.fieldLink RX3 63 "TaxiRankModel" "orders" "I") (by decide +kernel)
  have hc10 := hM.c10
  have ho60 := hM.o60
  refine lv_iload_n hx hb dX3_isOrder_0 rfl (lv_at hl 1 rfl) ?_
  refine lv_iconst (v := 0) hx hb dX3_isOrder_1 (by decide) ?_
  refine lv_aload_n hx hb dX3_isOrder_2 rfl (lv_at hl 0 rfl) ?_
  refine gx_get hx hb hown hZ hG 8 0 15 hM.b8 rfl (by decide) k1 (fun _ h => h) (v := .int (σ 8 0 15)) rfl dX3_isOrder_3 ?_
  refine lv_iconst (v := 1) hx hb dX3_isOrder_6 (by decide) ?_
  refine lv_isub hx hb dX3_isOrder_7 ?_
  refine gx_cR (gx_runS (As := [.int (n), .int (0), .int ((σ 8 0 15) - 1)]) (rest := []) ⟨hx, hb, hml, hown, hts⟩ (c_X3_isIn l g σ w n 0 (σ 8 0 15 - 1)) (va_cwS 3 hts gX3_isOrder_X3_isIn rfl rfl rfl (by decide +kernel) ⟨Nat.le_of_ble_eq_true rfl, Nat.le_of_ble_eq_true rfl⟩) hZ hG hS rfl hl.1 rfl (Nat.le_of_ble_eq_true rfl) dX3_isOrder_8 ⟨Nat.le_of_ble_eq_true rfl, Nat.le_of_ble_eq_true rfl⟩) ?_
  exact gx_zretR hx hb hr hlocks rfl (bI_n _) (Nat.le_of_ble_eq_true rfl) (Nat.le_of_ble_eq_true rfl) dX3_isOrder_11
set_option maxHeartbeats 4000000 in
set_option maxRecDepth 100000 in
theorem c_X3_way (l : Launch) (g : gG) (σ : Mem) (w : Int64) (a b : Int32) (hM : Mok g σ) (ha : mZ a) (hb2 : mZ b) : Met l yX3_way wsX3_way ({ frames := 0, cells := 0, slots := 0, locals := 0 } : Room) (gPc g σ w [.ref (gad g 8 0), .int (a), .int (b)]) (gR (.int (mWay σ a b))) 0 0 (fun _ => False) := by
  refine gx_ofW (cc := cX3_way) (maxL := 3) (ret := (some .int)) (by decide) rfl (Nat.le_of_ble_eq_true rfl) ?_
  intro p e s m below meth c0 hx hb hr hml hts hown hlocks hin hG hZ hS ls hl
  have hown : s.vm.findClass RX3 = some m.cls := hown
  have hl : lv_has ls 3 [(0, .ref (gad g 8 0)), (1, .int (a)), (2, .int (b))] := hl
  have k1 := hts (.fieldLink RX3 9 "TaxiRankModel" "ways" "[I") (by decide +kernel)
  have hc10 := hM.c10
  have ho60 := hM.o60
  refine lv_aload_n hx hb dX3_way_0 rfl (lv_at hl 0 rfl) ?_
  refine gx_get hx hb hown hZ hG 8 0 2 hM.b8 rfl (by decide) k1 (fun _ h => h) (v := .ref (gad g 9 0)) (grf_j (hM.rf (f := 2) rfl) (by decide)) dX3_way_1 ?_
  refine lv_bipush (v := 6) hx hb dX3_way_4 (by decide) ?_
  refine lv_iload_n hx hb dX3_way_6 rfl (lv_at hl 1 rfl) ?_
  refine lv_imul hx hb dX3_way_7 ?_
  refine lv_iload_n hx hb dX3_way_8 rfl (lv_at hl 2 rfl) ?_
  refine lv_iadd hx hb dX3_way_9 ?_
  refine gx_ald hx hb hZ hG 9 0 (hM.b9 (by decide)) rfl rfl (by rw [hM.l0]; exact mZ_in ha hb2) (v := .int (σ 9 0 (ix ((6 * a) + b)))) rfl dX3_way_10 ?_
  exact gx_iretR hx hb hr hlocks rfl (Nat.le_of_ble_eq_true rfl) (Nat.le_of_ble_eq_true rfl) dX3_way_11
set_option maxHeartbeats 4000000 in
set_option maxRecDepth 100000 in
theorem c_X3_get (l : Launch) (g : gG) (σ : Mem) (w : Int64) (o k : Nat) (hM : Mok g σ) (ho : o < 60) (hk : k < 8) : Met l yX3_get wsX3_get ({ frames := 0, cells := 0, slots := 0, locals := 0 } : Room) (gPc g σ w [.ref (gad g 8 0), .int (nI o), .int (nI k)]) (gR (.int (mT σ o k))) 0 0 (fun _ => False) := by
  refine gx_ofW (cc := cX3_get) (maxL := 3) (ret := (some .int)) (by decide) rfl (Nat.le_of_ble_eq_true rfl) ?_
  intro p e s m below meth c0 hx hb hr hml hts hown hlocks hin hG hZ hS ls hl
  have hown : s.vm.findClass RX3 = some m.cls := hown
  have hl : lv_has ls 3 [(0, .ref (gad g 8 0)), (1, .int (nI o)), (2, .int (nI k))] := hl
  have k1 := hts (.fieldLink RX3 44 "TaxiRankModel" "table" "[I") (by decide +kernel)
  have hc10 := hM.c10
  have ho60 := hM.o60
  refine lv_aload_n hx hb dX3_get_0 rfl (lv_at hl 0 rfl) ?_
  refine gx_get hx hb hown hZ hG 8 0 16 hM.b8 rfl (by decide) k1 (fun _ h => h) (v := .ref (gad g 9 9)) (grf_j (hM.rf (f := 16) rfl) (by decide)) dX3_get_1 ?_
  refine lv_bipush (v := 8) hx hb dX3_get_4 (by decide) ?_
  refine lv_iload_n hx hb dX3_get_6 rfl (lv_at hl 1 rfl) ?_
  refine lv_imul hx hb dX3_get_7 ?_
  refine gx_topN (y := nI (8 * o)) (by rw [show (8 : Int32) = nI 8 from rfl, pk_mul]) ?_
  refine lv_iload_n hx hb dX3_get_8 rfl (lv_at hl 2 rfl) ?_
  refine lv_iadd hx hb dX3_get_9 ?_
  refine gx_topN (y := nI ((8 * o) + k)) (by rw [nI_add]) ?_
  refine gx_aldN hx hb hZ hG 9 9 ((8 * o) + k) (by rfl) (hM.b9 (by decide)) rfl rfl ⟨by rw [hM.l9]; omega, by omega⟩ (v := .int (σ 9 9 ((8 * o) + k))) rfl dX3_get_10 ?_
  exact gx_iretR hx hb hr hlocks rfl (Nat.le_of_ble_eq_true rfl) (Nat.le_of_ble_eq_true rfl) dX3_get_11
set_option maxHeartbeats 4000000 in
set_option maxRecDepth 100000 in
theorem c_X3_state (l : Launch) (g : gG) (σ : Mem) (w : Int64) (o : Nat) (hM : Mok g σ) (ho : o < 60) : Met l yX3_state wsX3_state ({ frames := 0, cells := 0, slots := 0, locals := 0 } : Room) (gPc g σ w [.ref (gad g 8 0), .int (nI o)]) (gR (.int (mT σ o 4))) 0 0 (fun _ => False) := by
  refine gx_ofW (cc := cX3_state) (maxL := 2) (ret := (some .int)) (by decide) rfl (Nat.le_of_ble_eq_true rfl) ?_
  intro p e s m below meth c0 hx hb hr hml hts hown hlocks hin hG hZ hS ls hl
  have hown : s.vm.findClass RX3 = some m.cls := hown
  have hl : lv_has ls 2 [(0, .ref (gad g 8 0)), (1, .int (nI o))] := hl
  have k1 := hts (.fieldLink RX3 44 "TaxiRankModel" "table" "[I") (by decide +kernel)
  have hc10 := hM.c10
  have ho60 := hM.o60
  refine lv_aload_n hx hb dX3_state_0 rfl (lv_at hl 0 rfl) ?_
  refine gx_get hx hb hown hZ hG 8 0 16 hM.b8 rfl (by decide) k1 (fun _ h => h) (v := .ref (gad g 9 9)) (grf_j (hM.rf (f := 16) rfl) (by decide)) dX3_state_1 ?_
  refine lv_bipush (v := 8) hx hb dX3_state_4 (by decide) ?_
  refine lv_iload_n hx hb dX3_state_6 rfl (lv_at hl 1 rfl) ?_
  refine lv_imul hx hb dX3_state_7 ?_
  refine gx_topN (y := nI (8 * o)) (by rw [show (8 : Int32) = nI 8 from rfl, pk_mul]) ?_
  refine lv_iconst (v := 4) hx hb dX3_state_8 (by decide) ?_
  refine lv_iadd hx hb dX3_state_9 ?_
  refine gx_topN (y := nI ((8 * o) + 4)) (by rw [show (4 : Int32) = nI 4 from rfl, nI_add]) ?_
  refine gx_aldN hx hb hZ hG 9 9 ((8 * o) + 4) (by rfl) (hM.b9 (by decide)) rfl rfl ⟨by rw [hM.l9]; omega, by omega⟩ (v := .int (σ 9 9 ((8 * o) + 4))) rfl dX3_state_10 ?_
  exact gx_iretR hx hb hr hlocks rfl (Nat.le_of_ble_eq_true rfl) (Nat.le_of_ble_eq_true rfl) dX3_state_11
set_option maxHeartbeats 4000000 in
set_option maxRecDepth 100000 in
theorem c_X3_set (l : Launch) (g : gG) (σ : Mem) (w : Int64) (o k : Nat) (v : Int32) (hM : Mok g σ) (ho : o < 60) (hk : k < 8) : Met l yX3_set wsX3_set ({ frames := 0, cells := 0, slots := 0, locals := 0 } : Room) (gPc g σ w [.ref (gad g 8 0), .int (nI o), .int (nI k), .int (v)]) (gM g g (gst σ 9 9 (8 * o + k) v) w (none)) 0 0 (gA g) := by
  refine gx_ofW (cc := cX3_set) (maxL := 4) (ret := none) (by decide) rfl (Nat.le_of_ble_eq_true rfl) ?_
  intro p e s m below meth c0 hx hb hr hml hts hown hlocks hin hG hZ hS ls hl
  have hown : s.vm.findClass RX3 = some m.cls := hown
  have hl : lv_has ls 4 [(0, .ref (gad g 8 0)), (1, .int (nI o)), (2, .int (nI k)), (3, .int (v))] := hl
  have k1 := hts (.fieldLink RX3 44 "TaxiRankModel" "table" "[I") (by decide +kernel)
  have hc10 := hM.c10
  have ho60 := hM.o60
  refine lv_aload_n hx hb dX3_set_0 rfl (lv_at hl 0 rfl) ?_
  refine gx_get hx hb hown hZ hG 8 0 16 hM.b8 rfl (by decide) k1 (fun _ h => h) (v := .ref (gad g 9 9)) (grf_j (hM.rf (f := 16) rfl) (by decide)) dX3_set_1 ?_
  refine lv_bipush (v := 8) hx hb dX3_set_4 (by decide) ?_
  refine lv_iload_n hx hb dX3_set_6 rfl (lv_at hl 1 rfl) ?_
  refine lv_imul hx hb dX3_set_7 ?_
  refine gx_topN (y := nI (8 * o)) (by rw [show (8 : Int32) = nI 8 from rfl, pk_mul]) ?_
  refine lv_iload_n hx hb dX3_set_8 rfl (lv_at hl 2 rfl) ?_
  refine lv_iadd hx hb dX3_set_9 ?_
  refine gx_topN (y := nI ((8 * o) + k)) (by rw [nI_add]) ?_
  refine lv_iload_n hx hb dX3_set_10 rfl (lv_at hl 3 rfl) ?_
  refine gx_astN hx hb hZ hG hS 9 9 ((8 * o) + k) (by rfl) (hM.b9 (by decide)) rfl rfl ⟨by rw [hM.l9]; omega, by omega⟩ rfl trivial dX3_set_11 (fun H locs hG hS => ?_)
  exact gx_vretM hx hb hr hlocks hG hS rfl (Nat.le_of_ble_eq_true rfl) (Nat.le_of_ble_eq_true rfl) dX3_set_12
set_option maxHeartbeats 4000000 in
set_option maxRecDepth 100000 in
theorem c_X3_queueUp (l : Launch) (g : gG) (σ : Mem) (w : Int64) (c : Nat) (hM : Mok g σ) (hc : c < 10) : Met l yX3_queueUp wsX3_queueUp ({ frames := 0, cells := 0, slots := 0, locals := 0 } : Room) (gPc g σ w [.ref (gad g 8 0), .int (nI c)]) (gM g g (mQup σ c) w (none)) 0 0 (gA g) := by
  refine gx_ofW (cc := cX3_queueUp) (maxL := 2) (ret := none) (by decide) rfl (Nat.le_of_ble_eq_true rfl) ?_
  intro p e s m below meth c0 hx hb hr hml hts hown hlocks hin hG hZ hS ls hl
  have hown : s.vm.findClass RX3 = some m.cls := hown
  have hl : lv_has ls 2 [(0, .ref (gad g 8 0)), (1, .int (nI c))] := hl
  have k1 := hts (.fieldLink RX3 78 "TaxiRankModel" "turn" "I") (by decide +kernel)
  have k2 := hts (.fieldLink RX3 35 "TaxiRankModel" "turns" "[I") (by decide +kernel)
  have hc10 := hM.c10
  have ho60 := hM.o60
  refine lv_aload_n hx hb dX3_queueUp_0 rfl (lv_at hl 0 rfl) ?_
  refine lv_dup hx hb dX3_queueUp_1 rfl ?_
  refine gx_get hx hb hown hZ hG 8 0 12 hM.b8 rfl (by decide) k1 (fun _ h => h) (v := .int (σ 8 0 12)) rfl dX3_queueUp_2 ?_
  refine lv_iconst (v := 1) hx hb dX3_queueUp_5 (by decide) ?_
  refine lv_iadd hx hb dX3_queueUp_6 ?_
  refine gx_put hx hb hown hZ hG hS 8 0 12 ((σ 8 0 12) + 1) hM.b8 rfl (by decide) k1 (fun _ h => h) rfl rfl trivial rfl rfl dX3_queueUp_7 (fun H locs hG hS => ?_)
  have hM := hM.st8 (f := 12) (v := (σ 8 0 12) + 1) rfl
  refine lv_aload_n hx hb dX3_queueUp_10 rfl (lv_at hl 0 rfl) ?_
  refine gx_get hx hb hown hZ hG 8 0 11 hM.b8 rfl (by decide) k2 (fun _ h => h) (v := .ref (gad g 9 6)) (grf_j (hM.rf (f := 11) rfl) (by decide)) dX3_queueUp_11 ?_
  refine lv_iload_n hx hb dX3_queueUp_14 rfl (lv_at hl 1 rfl) ?_
  refine lv_aload_n hx hb dX3_queueUp_15 rfl (lv_at hl 0 rfl) ?_
  refine gx_get hx hb hown hZ hG 8 0 12 hM.b8 rfl (by decide) k1 (fun _ h => h) (v := .int ((σ 8 0 12) + 1)) (congrArg Value.int (by simp [gst_app])) dX3_queueUp_16 ?_
  refine gx_astN hx hb hZ hG hS 9 6 c (by rfl) (hM.b9 (by decide)) rfl rfl ⟨by rw [hM.lc (i := 6) (by decide) (by decide)]; omega, by omega⟩ rfl trivial dX3_queueUp_19 (fun H locs hG hS => ?_)
  have hM := hM.st9 (i := 6) (f := c) (v := (σ 8 0 12) + 1) (by decide)
  exact gx_vretM hx hb hr hlocks hG hS rfl (Nat.le_of_ble_eq_true rfl) (Nat.le_of_ble_eq_true rfl) dX3_queueUp_20
set_option maxHeartbeats 4000000 in
set_option maxRecDepth 100000 in
theorem c_X3_free (l : Launch) (g : gG) (σ : Mem) (w : Int64) (c : Nat) (z : Int32) (hM : Mok g σ) (hc : c < 10) (hz : mZ z) : Met l yX3_free wsX3_free ({ frames := 1, cells := 0, slots := 0, locals := 22 } : Room) (gPc g σ w [.ref (gad g 8 0), .int (nI c), .int (z)]) (gM g g (mFree σ c z) w (none)) 0 0 (gA g) := by
  refine gx_ofW (cc := cX3_free) (maxL := 3) (ret := none) (by decide) rfl (Nat.le_of_ble_eq_true rfl) ?_
  intro p e s m below meth c0 hx hb hr hml hts hown hlocks hin hG hZ hS ls hl
  have hown : s.vm.findClass RX3 = some m.cls := hown
  have hl : lv_has ls 3 [(0, .ref (gad g 8 0)), (1, .int (nI c)), (2, .int (z))] := hl
  have k1 := hts (.fieldLink RX3 26 "TaxiRankModel" "doing" "[I") (by decide +kernel)
  have k2 := hts (.fieldLink RX3 23 "TaxiRankModel" "zones" "[I") (by decide +kernel)
  have k3 := hts (.fieldLink RX3 29 "TaxiRankModel" "orderOf" "[I") (by decide +kernel)
  have hc10 := hM.c10
  have ho60 := hM.o60
  refine lv_aload_n hx hb dX3_free_0 rfl (lv_at hl 0 rfl) ?_
  refine gx_get hx hb hown hZ hG 8 0 8 hM.b8 rfl (by decide) k1 (fun _ h => h) (v := .ref (gad g 9 3)) (grf_j (hM.rf (f := 8) rfl) (by decide)) dX3_free_1 ?_
  refine lv_iload_n hx hb dX3_free_4 rfl (lv_at hl 1 rfl) ?_
  refine lv_iconst (v := 1) hx hb dX3_free_5 (by decide) ?_
  refine gx_astN hx hb hZ hG hS 9 3 c (by rfl) (hM.b9 (by decide)) rfl rfl ⟨by rw [hM.lc (i := 3) (by decide) (by decide)]; omega, by omega⟩ rfl trivial dX3_free_6 (fun H locs hG hS => ?_)
  have hM := hM.st9 (i := 3) (f := c) (v := 1) (by decide)
  refine lv_aload_n hx hb dX3_free_7 rfl (lv_at hl 0 rfl) ?_
  refine gx_get hx hb hown hZ hG 8 0 7 hM.b8 rfl (by decide) k2 (fun _ h => h) (v := .ref (gad g 9 2)) (grf_j (hM.rf (f := 7) rfl) (by decide)) dX3_free_8 ?_
  refine lv_iload_n hx hb dX3_free_11 rfl (lv_at hl 1 rfl) ?_
  refine lv_iload_n hx hb dX3_free_12 rfl (lv_at hl 2 rfl) ?_
  refine gx_astN hx hb hZ hG hS 9 2 c (by rfl) (hM.b9 (by decide)) rfl rfl ⟨by rw [hM.lc (i := 2) (by decide) (by decide)]; omega, by omega⟩ rfl trivial dX3_free_13 (fun H locs hG hS => ?_)
  have hM := hM.stZ (f := c) (v := z) hz
  refine lv_aload_n hx hb dX3_free_14 rfl (lv_at hl 0 rfl) ?_
  refine gx_get hx hb hown hZ hG 8 0 9 hM.b8 rfl (by decide) k3 (fun _ h => h) (v := .ref (gad g 9 4)) (grf_j (hM.rf (f := 9) rfl) (by decide)) dX3_free_15 ?_
  refine lv_iload_n hx hb dX3_free_18 rfl (lv_at hl 1 rfl) ?_
  refine lv_iconst (v := (-1)) hx hb dX3_free_19 (by decide) ?_
  refine gx_astN hx hb hZ hG hS 9 4 c (by rfl) (hM.b9 (by decide)) rfl rfl ⟨by rw [hM.lc (i := 4) (by decide) (by decide)]; omega, by omega⟩ rfl trivial dX3_free_20 (fun H locs hG hS => ?_)
  have hM := hM.st9 (i := 4) (f := c) (v := -1) (by decide)
  refine lv_aload_n hx hb dX3_free_21 rfl (lv_at hl 0 rfl) ?_
  refine lv_iload_n hx hb dX3_free_22 rfl (lv_at hl 1 rfl) ?_
  refine gx_cM (gx_runV (As := [.int (nI c)]) (rest := []) ⟨hx, hb, hml, hown, hts⟩ (c_X3_queueUp l g (gst (gst (gst σ 9 3 c 1) 9 2 c z) 9 4 c (-1)) w c hM hc) (cwV 1 hts gX3_free_X3_queueUp rfl rfl rfl (by decide +kernel) ⟨Nat.le_of_ble_eq_true rfl, Nat.le_of_ble_eq_true rfl⟩) (gx_obj hZ hG 8 0 hM.b8 rfl) hZ hG hS rfl hl.1 rfl (Nat.le_of_ble_eq_true rfl) dX3_free_23 ⟨Nat.le_of_ble_eq_true rfl, Nat.le_of_ble_eq_true rfl⟩) hS (fun H locs hG hS hsz => ?_)
  exact gx_vretM hx hb hr hlocks hG hS rfl (Nat.le_of_ble_eq_true rfl) (Nat.le_of_ble_eq_true rfl) dX3_free_26
set_option maxHeartbeats 4000000 in
set_option maxRecDepth 100000 in
theorem c_X3_refused (l : Launch) (g : gG) (σ : Mem) (w : Int64) (c : Nat) (hM : Mok g σ) (hc : c < 10) (h6 : σ 9 4 c = -1 ∨ ∃ o, o < 60 ∧ σ 9 4 c = nI o) : Met l yX3_refused wsX3_refused ({ frames := 1, cells := 0, slots := 0, locals := 23 } : Room) (gPc g σ w [.ref (gad g 8 0), .int (nI c)]) (gM g g (mRfd σ c) w (none)) 0 0 (gA g) := by
  refine gx_ofW (cc := cX3_refused) (maxL := 3) (ret := none) (by decide) rfl (Nat.le_of_ble_eq_true rfl) ?_
  intro p e s m below meth c0 hx hb hr hml hts hown hlocks hin hG hZ hS ls hl
  have hown : s.vm.findClass RX3 = some m.cls := hown
  have hl : lv_has ls 3 [(0, .ref (gad g 8 0)), (1, .int (nI c))] := hl
  have k1 := hts (.fieldLink RX3 29 "TaxiRankModel" "orderOf" "[I") (by decide +kernel)
  have k2 := hts (.fieldLink RX3 47 "TaxiRankModel" "refusals" "[I") (by decide +kernel)
  have hc10 := hM.c10
  have ho60 := hM.o60
  refine lv_aload_n hx hb dX3_refused_0 rfl (lv_at hl 0 rfl) ?_
  refine gx_get hx hb hown hZ hG 8 0 9 hM.b8 rfl (by decide) k1 (fun _ h => h) (v := .ref (gad g 9 4)) (grf_j (hM.rf (f := 9) rfl) (by decide)) dX3_refused_1 ?_
  refine lv_iload_n hx hb dX3_refused_4 rfl (lv_at hl 1 rfl) ?_
  refine gx_aldN hx hb hZ hG 9 4 c (by rfl) (hM.b9 (by decide)) rfl rfl ⟨by rw [hM.lc (i := 4) (by decide) (by decide)]; omega, by omega⟩ (v := .int (σ 9 4 c)) rfl dX3_refused_5 ?_
  refine lv_istore_n (lv' := [(2, .int (σ 9 4 c)), (0, .ref (gad g 8 0)), (1, .int (nI c))]) hx hb dX3_refused_6 rfl hl (by decide) rfl (fun ls hl => ?_)
  refine lv_iload_n hx hb dX3_refused_7 rfl (lv_at hl 0 rfl) ?_
  refine lv_iconst (v := (-1)) hx hb dX3_refused_8 (by decide) ?_
  refine lv_icmp_ne (tgt := 13) hx hb dX3_refused_9 (by decide) (fun c_1 => ?_) (fun c_1 => ?_)
  · skip
    obtain ⟨o, ho, eo⟩ := h6.resolve_left c_1
    rw [eo] at hl
    refine lv_aload_n hx hb dX3_refused_13 rfl (lv_at hl 1 rfl) ?_
    refine gx_get hx hb hown hZ hG 8 0 17 hM.b8 rfl (by decide) k2 (fun _ h => h) (v := .ref (gad g 9 10)) (grf_j (hM.rf (f := 17) rfl) (by decide)) dX3_refused_14 ?_
    refine lv_iload_n hx hb dX3_refused_17 rfl (lv_at hl 0 rfl) ?_
    refine lv_dup2_11 hx hb dX3_refused_18 rfl rfl ?_
    refine gx_aldN hx hb hZ hG 9 10 o (by rfl) (hM.b9 (by decide)) rfl rfl ⟨by rw [hM.l10]; omega, by omega⟩ (v := .int (σ 9 10 o)) rfl dX3_refused_19 ?_
    refine lv_iconst (v := 1) hx hb dX3_refused_20 (by decide) ?_
    refine lv_iload_n hx hb dX3_refused_21 rfl (lv_at hl 2 rfl) ?_
    refine lv_ishl hx hb dX3_refused_22 ?_
    refine lv_ior hx hb dX3_refused_23 ?_
    refine gx_astN hx hb hZ hG hS 9 10 o (by rfl) (hM.b9 (by decide)) rfl rfl ⟨by rw [hM.l10]; omega, by omega⟩ rfl trivial dX3_refused_24 (fun H locs hG hS => ?_)
    have hM := hM.st9 (i := 10) (f := o) (v := (σ 9 10 o) ||| (1 <<< ((nI c) &&& 31))) (by decide)
    refine lv_aload_n hx hb dX3_refused_25 rfl (lv_at hl 1 rfl) ?_
    refine lv_iload_n hx hb dX3_refused_26 rfl (lv_at hl 0 rfl) ?_
    refine lv_iconst (v := 4) hx hb dX3_refused_27 (by decide) ?_
    refine lv_iconst (v := 0) hx hb dX3_refused_28 (by decide) ?_
    refine gx_cM (gx_runV (As := [.int (nI o), .int (4), .int (0)]) (rest := []) ⟨hx, hb, hml, hown, hts⟩ (c_X3_set l g (gst σ 9 10 o ((σ 9 10 o) ||| (1 <<< ((nI c) &&& 31)))) w o 4 0 hM ho (by decide)) (cwV 3 hts gX3_refused_X3_set rfl rfl rfl (by decide +kernel) ⟨Nat.le_of_ble_eq_true rfl, Nat.le_of_ble_eq_true rfl⟩) (gx_obj hZ hG 8 0 hM.b8 rfl) hZ hG hS rfl hl.1 rfl (Nat.le_of_ble_eq_true rfl) dX3_refused_29 ⟨Nat.le_of_ble_eq_true rfl, Nat.le_of_ble_eq_true rfl⟩) hS (fun H locs hG hS hsz => ?_)
    have hM := hM.stT (o := o) (k := 4) (v := 0) (by decide)
    refine lv_aload_n hx hb dX3_refused_32 rfl (lv_at hl 1 rfl) ?_
    refine lv_iload_n hx hb dX3_refused_33 rfl (lv_at hl 0 rfl) ?_
    refine lv_iconst (v := 5) hx hb dX3_refused_34 (by decide) ?_
    refine lv_iconst (v := (-1)) hx hb dX3_refused_35 (by decide) ?_
    refine gx_cM (gx_runV (As := [.int (nI o), .int (5), .int (-1)]) (rest := []) ⟨hx, hb, hml, hown, hts⟩ (c_X3_set l g (gst (gst σ 9 10 o ((σ 9 10 o) ||| (1 <<< ((nI c) &&& 31)))) 9 9 (8 * o + 4) 0) w o 5 (-1) hM ho (by decide)) (cwV 3 hts gX3_refused_X3_set rfl rfl rfl (by decide +kernel) ⟨Nat.le_of_ble_eq_true rfl, Nat.le_of_ble_eq_true rfl⟩) (gx_obj hZ hG 8 0 hM.b8 rfl) hZ hG hS rfl hl.1 rfl (Nat.le_of_ble_eq_true rfl) dX3_refused_36 ⟨Nat.le_of_ble_eq_true rfl, Nat.le_of_ble_eq_true rfl⟩) hS (fun H locs hG hS hsz => ?_)
    have hM := hM.stT (o := o) (k := 5) (v := -1) (by decide)
    refine lv_aload_n hx hb dX3_refused_39 rfl (lv_at hl 1 rfl) ?_
    refine gx_get hx hb hown hZ hG 8 0 9 hM.b8 rfl (by decide) k1 (fun _ h => h) (v := .ref (gad g 9 4)) (grf_j (hM.rf (f := 9) rfl) (by decide)) dX3_refused_40 ?_
    refine lv_iload_n hx hb dX3_refused_43 rfl (lv_at hl 2 rfl) ?_
    refine lv_iconst (v := (-1)) hx hb dX3_refused_44 (by decide) ?_
    refine gx_astN hx hb hZ hG hS 9 4 c (by rfl) (hM.b9 (by decide)) rfl rfl ⟨by rw [hM.lc (i := 4) (by decide) (by decide)]; omega, by omega⟩ rfl trivial dX3_refused_45 (fun H locs hG hS => ?_)
    have hM := hM.st9 (i := 4) (f := c) (v := -1) (by decide)
    have eo2 : ix (σ 9 4 c) = o := by rw [eo, ix_nI (by omega)]
    exact gx_vretM hx hb hr hlocks hG hS (by rw [mRfd, if_neg c_1, eo2]) (Nat.le_of_ble_eq_true rfl) (Nat.le_of_ble_eq_true rfl) dX3_refused_46
  · skip
    exact gx_vretM hx hb hr hlocks hG hS (by rw [mRfd, if_pos c_1]) (Nat.le_of_ble_eq_true rfl) (Nat.le_of_ble_eq_true rfl) dX3_refused_12
set_option maxHeartbeats 4000000 in
set_option maxRecDepth 100000 in
theorem c_X3_placeOf (l : Launch) (g : gG) (σ : Mem) (w : Int64) (c : Nat) (hM : Mok g σ) (hc : c < 10) : Met l yX3_placeOf wsX3_placeOf ({ frames := 0, cells := 0, slots := 0, locals := 0 } : Room) (gPc g σ w [.ref (gad g 8 0), .int (nI c)]) (gR (.int (mPl σ c))) 0 0 (fun _ => False) := by
  refine gx_ofW (cc := cX3_placeOf) (maxL := 4) (ret := (some .int)) (by decide) rfl (Nat.le_of_ble_eq_true rfl) ?_
  intro p e s m below meth c0 hx hb hr hml hts hown hlocks hin hG hZ hS ls hl
  have hown : s.vm.findClass RX3 = some m.cls := hown
  have hl : lv_has ls 4 [(0, .ref (gad g 8 0)), (1, .int (nI c))] := hl
  have k1 := hts (.fieldLink RX3 26 "TaxiRankModel" "doing" "[I") (by decide +kernel)
  have k2 := hts (.fieldLink RX3 60 "TaxiRankModel" "cabs" "I") (by decide +kernel)
  have k3 := hts (.fieldLink RX3 23 "TaxiRankModel" "zones" "[I") (by decide +kernel)
  have k4 := hts (.fieldLink RX3 35 "TaxiRankModel" "turns" "[I") (by decide +kernel)
  have hc10 := hM.c10
  have ho60 := hM.o60
  refine lv_aload_n hx hb dX3_placeOf_0 rfl (lv_at hl 0 rfl) ?_
  refine gx_get hx hb hown hZ hG 8 0 8 hM.b8 rfl (by decide) k1 (fun _ h => h) (v := .ref (gad g 9 3)) (grf_j (hM.rf (f := 8) rfl) (by decide)) dX3_placeOf_1 ?_
  refine lv_iload_n hx hb dX3_placeOf_4 rfl (lv_at hl 1 rfl) ?_
  refine gx_aldN hx hb hZ hG 9 3 c (by rfl) (hM.b9 (by decide)) rfl rfl ⟨by rw [hM.lc (i := 3) (by decide) (by decide)]; omega, by omega⟩ (v := .int (σ 9 3 c)) rfl dX3_placeOf_5 ?_
  refine lv_iconst (v := 1) hx hb dX3_placeOf_6 (by decide) ?_
  refine lv_icmp_eq (tgt := 12) hx hb dX3_placeOf_7 (by decide) (fun c_1 => ?_) (fun c_1 => ?_)
  · skip
    refine lv_iconst (v := 0) hx hb dX3_placeOf_12 (by decide) ?_
    refine lv_istore_n (lv' := [(2, .int (0)), (0, .ref (gad g 8 0)), (1, .int (nI c))]) hx hb dX3_placeOf_13 rfl hl (by decide) rfl (fun ls hl => ?_)
    refine lv_iconst (v := 0) hx hb dX3_placeOf_14 (by decide) ?_
    refine lv_istore_n (lv' := [(3, .int (0)), (2, .int (0)), (0, .ref (gad g 8 0)), (1, .int (nI c))]) hx hb dX3_placeOf_15 rfl hl (by decide) rfl (fun ls hl => ?_)
    have loop_16 : ∀ (nf : Nat) (r : Nat) (k : Nat) (acc : Int32), r < nf → (k + r = mC σ) → (mPlGo σ c r k acc = mPl σ c) → ∀ ls : Array Slot, lv_has ls 4 [(0, .ref (gad g 8 0)), (1, .int (nI c)), (2, .int (acc)), (3, .int (nI k))] → W p l e ({ frames := 0, cells := 0, slots := 0, locals := 0 } : Room) s m ([.ref (gad g 8 0), .int (nI c)] : List Value).toArray below meth c0 s.heap [] 0 0 (MQ below (gR (.int (mPl σ c))) ([.ref (gad g 8 0), .int (nI c)] : List Value).toArray s 0 0 (fun _ => False)) (F0 m 16 ls []) := by
      intro nf
      induction nf with
      | zero => intro r k acc hn; exact absurd hn (Nat.not_lt_zero _)
      | succ nf ih =>
        intro r k acc hn hk hres ls hl
        refine lv_iload_n hx hb dX3_placeOf_16 rfl (lv_at hl 3 rfl) ?_
        refine lv_aload_n hx hb dX3_placeOf_17 rfl (lv_at hl 0 rfl) ?_
        refine gx_get hx hb hown hZ hG 8 0 5 hM.b8 rfl (by decide) k2 (fun _ h => h) (v := .int (σ 8 0 5)) rfl dX3_placeOf_18 ?_
        refine lv_icmp_ge (tgt := 78) hx hb dX3_placeOf_21 (by decide) (fun c_2 => ?_) (fun c_2 => ?_)
        · skip
          have hge := le_of_nIle (hM.eC ▸ c_2) (by omega) (by omega)
          obtain rfl : r = 0 := by omega
          refine lv_iload_n hx hb dX3_placeOf_78 rfl (lv_at hl 2 rfl) ?_
          exact gx_iretR hx hb hr hlocks (by rw [← hres]; rfl) (Nat.le_of_ble_eq_true rfl) (Nat.le_of_ble_eq_true rfl) dX3_placeOf_79
        · skip
          have hkc := lt_of_nle (hM.eC ▸ c_2) (by omega)
          obtain ⟨r, rfl⟩ : ∃ q, r = q + 1 := ⟨r - 1, by omega⟩
          refine lv_iload_n hx hb dX3_placeOf_24 rfl (lv_at hl 2 rfl) ?_
          refine lv_aload_n hx hb dX3_placeOf_25 rfl (lv_at hl 0 rfl) ?_
          refine gx_get hx hb hown hZ hG 8 0 8 hM.b8 rfl (by decide) k1 (fun _ h => h) (v := .ref (gad g 9 3)) (grf_j (hM.rf (f := 8) rfl) (by decide)) dX3_placeOf_26 ?_
          refine lv_iload_n hx hb dX3_placeOf_29 rfl (lv_at hl 3 rfl) ?_
          refine gx_aldN hx hb hZ hG 9 3 k (by rfl) (hM.b9 (by decide)) rfl rfl ⟨by rw [hM.lc (i := 3) (by decide) (by decide)]; omega, by omega⟩ (v := .int (σ 9 3 k)) rfl dX3_placeOf_30 ?_
          refine lv_iconst (v := 1) hx hb dX3_placeOf_31 (by decide) ?_
          refine lv_icmp_ne (tgt := 69) hx hb dX3_placeOf_32 (by decide) (fun c_3 => ?_) (fun c_3 => ?_)
          · skip
            refine lv_iconst (v := 0) hx hb dX3_placeOf_69 (by decide) ?_
            refine lv_iadd hx hb dX3_placeOf_70 ?_
            refine lv_istore_n (lv' := [(2, .int (acc + 0)), (0, .ref (gad g 8 0)), (1, .int (nI c)), (3, .int (nI k))]) hx hb dX3_placeOf_71 rfl hl (by decide) rfl (fun ls hl => ?_)
            refine lv_iinc (v := nI (k + 1)) (lv' := [(3, .int (nI (k + 1))), (2, .int (acc + 0)), (0, .ref (gad g 8 0)), (1, .int (nI c))]) hx hb dX3_placeOf_72 hl (k := 3) rfl (nI_1 _) (by decide) rfl (fun ls hl => ?_)
            refine lv_goto (tgt := 16) hx hb dX3_placeOf_75 (by decide) ?_
            exact ih r (k + 1) (acc + 0) (by omega) (by omega) (by rw [← hres]; simp only [mPlGo, c_2, c_3, reduceIte]) ls (lv_sub hl [2, 3, 1, 0] rfl)
          · skip
            refine lv_aload_n hx hb dX3_placeOf_35 rfl (lv_at hl 0 rfl) ?_
            refine gx_get hx hb hown hZ hG 8 0 7 hM.b8 rfl (by decide) k3 (fun _ h => h) (v := .ref (gad g 9 2)) (grf_j (hM.rf (f := 7) rfl) (by decide)) dX3_placeOf_36 ?_
            refine lv_iload_n hx hb dX3_placeOf_39 rfl (lv_at hl 3 rfl) ?_
            refine gx_aldN hx hb hZ hG 9 2 k (by rfl) (hM.b9 (by decide)) rfl rfl ⟨by rw [hM.lc (i := 2) (by decide) (by decide)]; omega, by omega⟩ (v := .int (σ 9 2 k)) rfl dX3_placeOf_40 ?_
            refine lv_aload_n hx hb dX3_placeOf_41 rfl (lv_at hl 0 rfl) ?_
            refine gx_get hx hb hown hZ hG 8 0 7 hM.b8 rfl (by decide) k3 (fun _ h => h) (v := .ref (gad g 9 2)) (grf_j (hM.rf (f := 7) rfl) (by decide)) dX3_placeOf_42 ?_
            refine lv_iload_n hx hb dX3_placeOf_45 rfl (lv_at hl 1 rfl) ?_
            refine gx_aldN hx hb hZ hG 9 2 c (by rfl) (hM.b9 (by decide)) rfl rfl ⟨by rw [hM.lc (i := 2) (by decide) (by decide)]; omega, by omega⟩ (v := .int (σ 9 2 c)) rfl dX3_placeOf_46 ?_
            refine lv_icmp_ne (tgt := 69) hx hb dX3_placeOf_47 (by decide) (fun c_4 => ?_) (fun c_4 => ?_)
            · skip
              refine lv_iconst (v := 0) hx hb dX3_placeOf_69 (by decide) ?_
              refine lv_iadd hx hb dX3_placeOf_70 ?_
              refine lv_istore_n (lv' := [(2, .int (acc + 0)), (0, .ref (gad g 8 0)), (1, .int (nI c)), (3, .int (nI k))]) hx hb dX3_placeOf_71 rfl hl (by decide) rfl (fun ls hl => ?_)
              refine lv_iinc (v := nI (k + 1)) (lv' := [(3, .int (nI (k + 1))), (2, .int (acc + 0)), (0, .ref (gad g 8 0)), (1, .int (nI c))]) hx hb dX3_placeOf_72 hl (k := 3) rfl (nI_1 _) (by decide) rfl (fun ls hl => ?_)
              refine lv_goto (tgt := 16) hx hb dX3_placeOf_75 (by decide) ?_
              exact ih r (k + 1) (acc + 0) (by omega) (by omega) (by rw [← hres]; simp only [mPlGo, c_2, c_3, c_4, reduceIte]) ls (lv_sub hl [2, 3, 1, 0] rfl)
            · skip
              refine lv_aload_n hx hb dX3_placeOf_50 rfl (lv_at hl 0 rfl) ?_
              refine gx_get hx hb hown hZ hG 8 0 11 hM.b8 rfl (by decide) k4 (fun _ h => h) (v := .ref (gad g 9 6)) (grf_j (hM.rf (f := 11) rfl) (by decide)) dX3_placeOf_51 ?_
              refine lv_iload_n hx hb dX3_placeOf_54 rfl (lv_at hl 3 rfl) ?_
              refine gx_aldN hx hb hZ hG 9 6 k (by rfl) (hM.b9 (by decide)) rfl rfl ⟨by rw [hM.lc (i := 6) (by decide) (by decide)]; omega, by omega⟩ (v := .int (σ 9 6 k)) rfl dX3_placeOf_55 ?_
              refine lv_aload_n hx hb dX3_placeOf_56 rfl (lv_at hl 0 rfl) ?_
              refine gx_get hx hb hown hZ hG 8 0 11 hM.b8 rfl (by decide) k4 (fun _ h => h) (v := .ref (gad g 9 6)) (grf_j (hM.rf (f := 11) rfl) (by decide)) dX3_placeOf_57 ?_
              refine lv_iload_n hx hb dX3_placeOf_60 rfl (lv_at hl 1 rfl) ?_
              refine gx_aldN hx hb hZ hG 9 6 c (by rfl) (hM.b9 (by decide)) rfl rfl ⟨by rw [hM.lc (i := 6) (by decide) (by decide)]; omega, by omega⟩ (v := .int (σ 9 6 c)) rfl dX3_placeOf_61 ?_
              refine lv_icmp_ge (tgt := 69) hx hb dX3_placeOf_62 (by decide) (fun c_5 => ?_) (fun c_5 => ?_)
              · skip
                refine lv_iconst (v := 0) hx hb dX3_placeOf_69 (by decide) ?_
                refine lv_iadd hx hb dX3_placeOf_70 ?_
                refine lv_istore_n (lv' := [(2, .int (acc + 0)), (0, .ref (gad g 8 0)), (1, .int (nI c)), (3, .int (nI k))]) hx hb dX3_placeOf_71 rfl hl (by decide) rfl (fun ls hl => ?_)
                refine lv_iinc (v := nI (k + 1)) (lv' := [(3, .int (nI (k + 1))), (2, .int (acc + 0)), (0, .ref (gad g 8 0)), (1, .int (nI c))]) hx hb dX3_placeOf_72 hl (k := 3) rfl (nI_1 _) (by decide) rfl (fun ls hl => ?_)
                refine lv_goto (tgt := 16) hx hb dX3_placeOf_75 (by decide) ?_
                exact ih r (k + 1) (acc + 0) (by omega) (by omega) (by rw [← hres]; simp only [mPlGo, c_2, c_3, c_4, c_5, reduceIte]) ls (lv_sub hl [2, 3, 1, 0] rfl)
              · skip
                refine lv_iconst (v := 1) hx hb dX3_placeOf_65 (by decide) ?_
                refine lv_goto (tgt := 70) hx hb dX3_placeOf_66 (by decide) ?_
                refine lv_iadd hx hb dX3_placeOf_70 ?_
                refine lv_istore_n (lv' := [(2, .int (acc + 1)), (0, .ref (gad g 8 0)), (1, .int (nI c)), (3, .int (nI k))]) hx hb dX3_placeOf_71 rfl hl (by decide) rfl (fun ls hl => ?_)
                refine lv_iinc (v := nI (k + 1)) (lv' := [(3, .int (nI (k + 1))), (2, .int (acc + 1)), (0, .ref (gad g 8 0)), (1, .int (nI c))]) hx hb dX3_placeOf_72 hl (k := 3) rfl (nI_1 _) (by decide) rfl (fun ls hl => ?_)
                refine lv_goto (tgt := 16) hx hb dX3_placeOf_75 (by decide) ?_
                exact ih r (k + 1) (acc + 1) (by omega) (by omega) (by rw [← hres]; simp only [mPlGo, c_2, c_3, c_4, c_5, reduceIte]) ls (lv_sub hl [2, 3, 1, 0] rfl)
    exact loop_16 (mC σ + 1) (mC σ) 0 0 (by omega) (by omega) (by simp only [mPl, c_1, reduceIte]) ls (lv_sub hl [2, 3, 1, 0] rfl)
  · skip
    refine lv_iconst (v := (-1)) hx hb dX3_placeOf_10 (by decide) ?_
    exact gx_iretR hx hb hr hlocks (by first | (simp only [mPl, c_1, reduceIte, eq_self, Bool.false_eq_true]; done) | simp [mPl, c_1]) (Nat.le_of_ble_eq_true rfl) (Nat.le_of_ble_eq_true rfl) dX3_placeOf_11
set_option maxHeartbeats 4000000 in
set_option maxRecDepth 100000 in
theorem c_X3_canOffer (l : Launch) (g : gG) (σ : Mem) (w : Int64) (o c : Nat) (hM : Mok g σ) (ho : o < 60) (hc : c < 10) : Met l yX3_canOffer wsX3_canOffer ({ frames := 1, cells := 0, slots := 0, locals := 22 } : Room) (gPc g σ w [.ref (gad g 8 0), .int (nI o), .int (nI c)]) (gR (.int (bI (mCan σ o c)))) 0 0 (fun _ => False) := by
  refine gx_ofW (cc := cX3_canOffer) (maxL := 3) (ret := (some .boolean)) (by decide) rfl (Nat.le_of_ble_eq_true rfl) ?_
  intro p e s m below meth c0 hx hb hr hml hts hown hlocks hin hG hZ hS ls hl
  have hown : s.vm.findClass RX3 = some m.cls := hown
  have hl : lv_has ls 3 [(0, .ref (gad g 8 0)), (1, .int (nI o)), (2, .int (nI c))] := hl
  have k1 := hts (.fieldLink RX3 26 "TaxiRankModel" "doing" "[I") (by decide +kernel)
  have k2 := hts (.fieldLink RX3 29 "TaxiRankModel" "orderOf" "[I") (by decide +kernel)
  have k3 := hts (.fieldLink RX3 20 "TaxiRankModel" "seats" "[I") (by decide +kernel)
  have k4 := hts (.fieldLink RX3 47 "TaxiRankModel" "refusals" "[I") (by decide +kernel)
  have hc10 := hM.c10
  have ho60 := hM.o60
  refine lv_aload_n hx hb dX3_canOffer_0 rfl (lv_at hl 0 rfl) ?_
  refine gx_get hx hb hown hZ hG 8 0 8 hM.b8 rfl (by decide) k1 (fun _ h => h) (v := .ref (gad g 9 3)) (grf_j (hM.rf (f := 8) rfl) (by decide)) dX3_canOffer_1 ?_
  refine lv_iload_n hx hb dX3_canOffer_4 rfl (lv_at hl 2 rfl) ?_
  refine gx_aldN hx hb hZ hG 9 3 c (by rfl) (hM.b9 (by decide)) rfl rfl ⟨by rw [hM.lc (i := 3) (by decide) (by decide)]; omega, by omega⟩ (v := .int (σ 9 3 c)) rfl dX3_canOffer_5 ?_
  refine lv_iconst (v := 1) hx hb dX3_canOffer_6 (by decide) ?_
  refine lv_icmp_ne (tgt := 52) hx hb dX3_canOffer_7 (by decide) (fun c_1 => ?_) (fun c_1 => ?_)
  · skip
    refine lv_iconst (v := 0) hx hb dX3_canOffer_52 (by decide) ?_
    exact gx_zretR hx hb hr hlocks (by first | (simp only [mCan, bI, c_1, reduceIte, eq_self, Bool.false_eq_true]; done) | simp [mCan, bI, c_1]) rfl (Nat.le_of_ble_eq_true rfl) (Nat.le_of_ble_eq_true rfl) dX3_canOffer_53
  · skip
    refine lv_aload_n hx hb dX3_canOffer_10 rfl (lv_at hl 0 rfl) ?_
    refine gx_get hx hb hown hZ hG 8 0 9 hM.b8 rfl (by decide) k2 (fun _ h => h) (v := .ref (gad g 9 4)) (grf_j (hM.rf (f := 9) rfl) (by decide)) dX3_canOffer_11 ?_
    refine lv_iload_n hx hb dX3_canOffer_14 rfl (lv_at hl 2 rfl) ?_
    refine gx_aldN hx hb hZ hG 9 4 c (by rfl) (hM.b9 (by decide)) rfl rfl ⟨by rw [hM.lc (i := 4) (by decide) (by decide)]; omega, by omega⟩ (v := .int (σ 9 4 c)) rfl dX3_canOffer_15 ?_
    refine lv_iconst (v := (-1)) hx hb dX3_canOffer_16 (by decide) ?_
    refine lv_icmp_ne (tgt := 52) hx hb dX3_canOffer_17 (by decide) (fun c_2 => ?_) (fun c_2 => ?_)
    · skip
      refine lv_iconst (v := 0) hx hb dX3_canOffer_52 (by decide) ?_
      exact gx_zretR hx hb hr hlocks (by first | (simp only [mCan, bI, c_1, c_2, reduceIte, eq_self, Bool.false_eq_true]; done) | simp [mCan, bI, c_1, c_2]) rfl (Nat.le_of_ble_eq_true rfl) (Nat.le_of_ble_eq_true rfl) dX3_canOffer_53
    · skip
      refine lv_aload_n hx hb dX3_canOffer_20 rfl (lv_at hl 0 rfl) ?_
      refine gx_get hx hb hown hZ hG 8 0 6 hM.b8 rfl (by decide) k3 (fun _ h => h) (v := .ref (gad g 9 1)) (grf_j (hM.rf (f := 6) rfl) (by decide)) dX3_canOffer_21 ?_
      refine lv_iload_n hx hb dX3_canOffer_24 rfl (lv_at hl 2 rfl) ?_
      refine gx_aldN hx hb hZ hG 9 1 c (by rfl) (hM.b9 (by decide)) rfl rfl ⟨by rw [hM.lc (i := 1) (by decide) (by decide)]; omega, by omega⟩ (v := .int (σ 9 1 c)) rfl dX3_canOffer_25 ?_
      refine lv_aload_n hx hb dX3_canOffer_26 rfl (lv_at hl 0 rfl) ?_
      refine lv_iload_n hx hb dX3_canOffer_27 rfl (lv_at hl 1 rfl) ?_
      refine lv_iconst (v := 2) hx hb dX3_canOffer_28 (by decide) ?_
      refine gx_cR (gx_runV (As := [.int (nI o), .int (2)]) (rest := [.int (σ 9 1 c)]) ⟨hx, hb, hml, hown, hts⟩ (c_X3_get l g σ w o 2 hM ho (by decide)) (cwV 2 hts gX3_canOffer_X3_get rfl rfl rfl (by decide +kernel) ⟨Nat.le_of_ble_eq_true rfl, Nat.le_of_ble_eq_true rfl⟩) (gx_obj hZ hG 8 0 hM.b8 rfl) hZ hG hS rfl hl.1 rfl (Nat.le_of_ble_eq_true rfl) dX3_canOffer_29 ⟨Nat.le_of_ble_eq_true rfl, Nat.le_of_ble_eq_true rfl⟩) ?_
      refine lv_icmp_lt (tgt := 52) hx hb dX3_canOffer_32 (by decide) (fun c_3 => ?_) (fun c_3 => ?_)
      · skip
        refine lv_iconst (v := 0) hx hb dX3_canOffer_52 (by decide) ?_
        exact gx_zretR hx hb hr hlocks (by first | (simp only [mCan, bI, c_1, c_2, c_3, reduceIte, eq_self, Bool.false_eq_true]; done) | simp [mCan, bI, c_1, c_2, c_3]) rfl (Nat.le_of_ble_eq_true rfl) (Nat.le_of_ble_eq_true rfl) dX3_canOffer_53
      · skip
        refine lv_aload_n hx hb dX3_canOffer_35 rfl (lv_at hl 0 rfl) ?_
        refine gx_get hx hb hown hZ hG 8 0 17 hM.b8 rfl (by decide) k4 (fun _ h => h) (v := .ref (gad g 9 10)) (grf_j (hM.rf (f := 17) rfl) (by decide)) dX3_canOffer_36 ?_
        refine lv_iload_n hx hb dX3_canOffer_39 rfl (lv_at hl 1 rfl) ?_
        refine gx_aldN hx hb hZ hG 9 10 o (by rfl) (hM.b9 (by decide)) rfl rfl ⟨by rw [hM.l10]; omega, by omega⟩ (v := .int (σ 9 10 o)) rfl dX3_canOffer_40 ?_
        refine lv_iload_n hx hb dX3_canOffer_41 rfl (lv_at hl 2 rfl) ?_
        refine lv_ishr hx hb dX3_canOffer_42 ?_
        refine lv_iconst (v := 1) hx hb dX3_canOffer_43 (by decide) ?_
        refine lv_iand hx hb dX3_canOffer_44 ?_
        refine lv_if_ne (tgt := 52) hx hb dX3_canOffer_45 (by decide) (fun c_4 => ?_) (fun c_4 => ?_)
        · skip
          refine lv_iconst (v := 0) hx hb dX3_canOffer_52 (by decide) ?_
          exact gx_zretR hx hb hr hlocks (by first | (simp only [mCan, bI, c_1, c_2, c_3, c_4, reduceIte, eq_self, Bool.false_eq_true]; done) | simp [mCan, bI, c_1, c_2, c_3, c_4]) rfl (Nat.le_of_ble_eq_true rfl) (Nat.le_of_ble_eq_true rfl) dX3_canOffer_53
        · skip
          refine lv_iconst (v := 1) hx hb dX3_canOffer_48 (by decide) ?_
          refine lv_goto (tgt := 53) hx hb dX3_canOffer_49 (by decide) ?_
          exact gx_zretR hx hb hr hlocks (by first | (simp only [mCan, bI, c_1, c_2, c_3, c_4, reduceIte, eq_self, Bool.false_eq_true]; done) | simp [mCan, bI, c_1, c_2, c_3, c_4]) rfl (Nat.le_of_ble_eq_true rfl) (Nat.le_of_ble_eq_true rfl) dX3_canOffer_53
set_option maxHeartbeats 4000000 in
set_option maxRecDepth 100000 in
theorem c_X3_isNearer (l : Launch) (g : gG) (σ : Mem) (w : Int64) (c b : Nat) (z : Int32) (hM : Mok g σ) (hc : c < 10) (hb3 : b < 10) (hz : mZ z) : Met l yX3_isNearer wsX3_isNearer ({ frames := 1, cells := 0, slots := 0, locals := 22 } : Room) (gPc g σ w [.ref (gad g 8 0), .int (nI c), .int (nI b), .int (z)]) (gR (.int (bI (mNear σ c b z)))) 0 0 (fun _ => False) := by
  refine gx_ofW (cc := cX3_isNearer) (maxL := 6) (ret := (some .boolean)) (by decide) rfl (Nat.le_of_ble_eq_true rfl) ?_
  intro p e s m below meth c0 hx hb hr hml hts hown hlocks hin hG hZ hS ls hl
  have hown : s.vm.findClass RX3 = some m.cls := hown
  have hl : lv_has ls 6 [(0, .ref (gad g 8 0)), (1, .int (nI c)), (2, .int (nI b)), (3, .int (z))] := hl
  have k1 := hts (.fieldLink RX3 23 "TaxiRankModel" "zones" "[I") (by decide +kernel)
  have k2 := hts (.fieldLink RX3 35 "TaxiRankModel" "turns" "[I") (by decide +kernel)
  have hc10 := hM.c10
  have ho60 := hM.o60
  refine lv_aload_n hx hb dX3_isNearer_0 rfl (lv_at hl 0 rfl) ?_
  refine gx_get hx hb hown hZ hG 8 0 7 hM.b8 rfl (by decide) k1 (fun _ h => h) (v := .ref (gad g 9 2)) (grf_j (hM.rf (f := 7) rfl) (by decide)) dX3_isNearer_1 ?_
  refine lv_iload_n hx hb dX3_isNearer_4 rfl (lv_at hl 1 rfl) ?_
  refine gx_aldN hx hb hZ hG 9 2 c (by rfl) (hM.b9 (by decide)) rfl rfl ⟨by rw [hM.lc (i := 2) (by decide) (by decide)]; omega, by omega⟩ (v := .int (σ 9 2 c)) rfl dX3_isNearer_5 ?_
  refine lv_iload_n hx hb dX3_isNearer_6 rfl (lv_at hl 3 rfl) ?_
  refine lv_icmp_ne (tgt := 14) hx hb dX3_isNearer_7 (by decide) (fun c_1 => ?_) (fun c_1 => ?_)
  · skip
    refine lv_iconst (v := 0) hx hb dX3_isNearer_14 (by decide) ?_
    refine lv_istore (lv' := [(4, .int (0)), (0, .ref (gad g 8 0)), (1, .int (nI c)), (2, .int (nI b)), (3, .int (z))]) hx hb dX3_isNearer_15 hl (by decide) rfl (fun ls hl => ?_)
    refine lv_iload hx hb dX3_isNearer_17 (lv_at hl 0 rfl) ?_
    refine lv_aload_n hx hb dX3_isNearer_19 rfl (lv_at hl 1 rfl) ?_
    refine gx_get hx hb hown hZ hG 8 0 7 hM.b8 rfl (by decide) k1 (fun _ h => h) (v := .ref (gad g 9 2)) (grf_j (hM.rf (f := 7) rfl) (by decide)) dX3_isNearer_20 ?_
    refine lv_iload_n hx hb dX3_isNearer_23 rfl (lv_at hl 3 rfl) ?_
    refine gx_aldN hx hb hZ hG 9 2 b (by rfl) (hM.b9 (by decide)) rfl rfl ⟨by rw [hM.lc (i := 2) (by decide) (by decide)]; omega, by omega⟩ (v := .int (σ 9 2 b)) rfl dX3_isNearer_24 ?_
    refine lv_iload_n hx hb dX3_isNearer_25 rfl (lv_at hl 4 rfl) ?_
    refine lv_icmp_ne (tgt := 33) hx hb dX3_isNearer_26 (by decide) (fun c_2 => ?_) (fun c_2 => ?_)
    · skip
      refine lv_iconst (v := 0) hx hb dX3_isNearer_33 (by decide) ?_
      refine lv_icmp_eq (tgt := 40) hx hb dX3_isNearer_34 (by decide) (fun c_3 => ?_) (fun c_3 => ?_)
      · skip
        refine lv_aload_n hx hb dX3_isNearer_40 rfl (lv_at hl 1 rfl) ?_
        refine gx_get hx hb hown hZ hG 8 0 7 hM.b8 rfl (by decide) k1 (fun _ h => h) (v := .ref (gad g 9 2)) (grf_j (hM.rf (f := 7) rfl) (by decide)) dX3_isNearer_41 ?_
        refine lv_iload_n hx hb dX3_isNearer_44 rfl (lv_at hl 2 rfl) ?_
        refine gx_aldN hx hb hZ hG 9 2 c (by rfl) (hM.b9 (by decide)) rfl rfl ⟨by rw [hM.lc (i := 2) (by decide) (by decide)]; omega, by omega⟩ (v := .int (σ 9 2 c)) rfl dX3_isNearer_45 ?_
        refine lv_aload_n hx hb dX3_isNearer_46 rfl (lv_at hl 1 rfl) ?_
        refine gx_get hx hb hown hZ hG 8 0 7 hM.b8 rfl (by decide) k1 (fun _ h => h) (v := .ref (gad g 9 2)) (grf_j (hM.rf (f := 7) rfl) (by decide)) dX3_isNearer_47 ?_
        refine lv_iload_n hx hb dX3_isNearer_50 rfl (lv_at hl 3 rfl) ?_
        refine gx_aldN hx hb hZ hG 9 2 b (by rfl) (hM.b9 (by decide)) rfl rfl ⟨by rw [hM.lc (i := 2) (by decide) (by decide)]; omega, by omega⟩ (v := .int (σ 9 2 b)) rfl dX3_isNearer_51 ?_
        refine lv_icmp_ne (tgt := 76) hx hb dX3_isNearer_52 (by decide) (fun c_4 => ?_) (fun c_4 => ?_)
        · skip
          refine lv_aload_n hx hb dX3_isNearer_76 rfl (lv_at hl 1 rfl) ?_
          refine lv_aload_n hx hb dX3_isNearer_77 rfl (lv_at hl 1 rfl) ?_
          refine gx_get hx hb hown hZ hG 8 0 7 hM.b8 rfl (by decide) k1 (fun _ h => h) (v := .ref (gad g 9 2)) (grf_j (hM.rf (f := 7) rfl) (by decide)) dX3_isNearer_78 ?_
          refine lv_iload_n hx hb dX3_isNearer_81 rfl (lv_at hl 2 rfl) ?_
          refine gx_aldN hx hb hZ hG 9 2 c (by rfl) (hM.b9 (by decide)) rfl rfl ⟨by rw [hM.lc (i := 2) (by decide) (by decide)]; omega, by omega⟩ (v := .int (σ 9 2 c)) rfl dX3_isNearer_82 ?_
          refine lv_iload_n hx hb dX3_isNearer_83 rfl (lv_at hl 4 rfl) ?_
          refine gx_cR (gx_runV (As := [.int (σ 9 2 c), .int (z)]) (rest := []) ⟨hx, hb, hml, hown, hts⟩ (c_X3_way l g σ w (σ 9 2 c) z hM (hM.z hc) hz) (cwV 2 hts gX3_isNearer_X3_way rfl rfl rfl (by decide +kernel) ⟨Nat.le_of_ble_eq_true rfl, Nat.le_of_ble_eq_true rfl⟩) (gx_obj hZ hG 8 0 hM.b8 rfl) hZ hG hS rfl hl.1 rfl (Nat.le_of_ble_eq_true rfl) dX3_isNearer_84 ⟨Nat.le_of_ble_eq_true rfl, Nat.le_of_ble_eq_true rfl⟩) ?_
          refine lv_aload_n hx hb dX3_isNearer_87 rfl (lv_at hl 1 rfl) ?_
          refine lv_aload_n hx hb dX3_isNearer_88 rfl (lv_at hl 1 rfl) ?_
          refine gx_get hx hb hown hZ hG 8 0 7 hM.b8 rfl (by decide) k1 (fun _ h => h) (v := .ref (gad g 9 2)) (grf_j (hM.rf (f := 7) rfl) (by decide)) dX3_isNearer_89 ?_
          refine lv_iload_n hx hb dX3_isNearer_92 rfl (lv_at hl 3 rfl) ?_
          refine gx_aldN hx hb hZ hG 9 2 b (by rfl) (hM.b9 (by decide)) rfl rfl ⟨by rw [hM.lc (i := 2) (by decide) (by decide)]; omega, by omega⟩ (v := .int (σ 9 2 b)) rfl dX3_isNearer_93 ?_
          refine lv_iload_n hx hb dX3_isNearer_94 rfl (lv_at hl 4 rfl) ?_
          refine gx_cR (gx_runV (As := [.int (σ 9 2 b), .int (z)]) (rest := [.int (mWay σ (σ 9 2 c) z)]) ⟨hx, hb, hml, hown, hts⟩ (c_X3_way l g σ w (σ 9 2 b) z hM (hM.z hb3) hz) (cwV 2 hts gX3_isNearer_X3_way rfl rfl rfl (by decide +kernel) ⟨Nat.le_of_ble_eq_true rfl, Nat.le_of_ble_eq_true rfl⟩) (gx_obj hZ hG 8 0 hM.b8 rfl) hZ hG hS rfl hl.1 rfl (Nat.le_of_ble_eq_true rfl) dX3_isNearer_95 ⟨Nat.le_of_ble_eq_true rfl, Nat.le_of_ble_eq_true rfl⟩) ?_
          refine lv_isub hx hb dX3_isNearer_98 ?_
          refine lv_istore (lv' := [(5, .int ((mWay σ (σ 9 2 c) z) - (mWay σ (σ 9 2 b) z))), (4, .int (0)), (0, .ref (gad g 8 0)), (1, .int (nI c)), (2, .int (nI b)), (3, .int (z))]) hx hb dX3_isNearer_99 hl (by decide) rfl (fun ls hl => ?_)
          refine lv_iload hx hb dX3_isNearer_101 (lv_at hl 0 rfl) ?_
          refine lv_if_eq (tgt := 119) hx hb dX3_isNearer_103 (by decide) (fun c_5 => ?_) (fun c_5 => ?_)
          · skip
            refine lv_aload_n hx hb dX3_isNearer_119 rfl (lv_at hl 2 rfl) ?_
            refine gx_get hx hb hown hZ hG 8 0 7 hM.b8 rfl (by decide) k1 (fun _ h => h) (v := .ref (gad g 9 2)) (grf_j (hM.rf (f := 7) rfl) (by decide)) dX3_isNearer_120 ?_
            refine lv_iload_n hx hb dX3_isNearer_123 rfl (lv_at hl 3 rfl) ?_
            refine gx_aldN hx hb hZ hG 9 2 c (by rfl) (hM.b9 (by decide)) rfl rfl ⟨by rw [hM.lc (i := 2) (by decide) (by decide)]; omega, by omega⟩ (v := .int (σ 9 2 c)) rfl dX3_isNearer_124 ?_
            refine lv_aload_n hx hb dX3_isNearer_125 rfl (lv_at hl 2 rfl) ?_
            refine gx_get hx hb hown hZ hG 8 0 7 hM.b8 rfl (by decide) k1 (fun _ h => h) (v := .ref (gad g 9 2)) (grf_j (hM.rf (f := 7) rfl) (by decide)) dX3_isNearer_126 ?_
            refine lv_iload_n hx hb dX3_isNearer_129 rfl (lv_at hl 4 rfl) ?_
            refine gx_aldN hx hb hZ hG 9 2 b (by rfl) (hM.b9 (by decide)) rfl rfl ⟨by rw [hM.lc (i := 2) (by decide) (by decide)]; omega, by omega⟩ (v := .int (σ 9 2 b)) rfl dX3_isNearer_130 ?_
            refine lv_icmp_ge (tgt := 138) hx hb dX3_isNearer_131 (by decide) (fun c_6 => ?_) (fun c_6 => ?_)
            · skip
              refine lv_iconst (v := 0) hx hb dX3_isNearer_138 (by decide) ?_
              exact gx_zretR hx hb hr hlocks (by unfold mNear; (try first | rw [if_pos c_1] | rw [if_neg c_1]); (try first | rw [if_pos c_2] | rw [if_neg c_2]); (try first | rw [if_pos c_3] | rw [if_neg c_3]); (try first | rw [if_pos c_4] | rw [if_neg c_4]); (try first | rw [if_pos c_5] | rw [if_neg c_5]); (try first | rw [if_pos c_6] | rw [if_neg c_6]); try rfl) rfl (Nat.le_of_ble_eq_true rfl) (Nat.le_of_ble_eq_true rfl) dX3_isNearer_139
            · skip
              refine lv_iconst (v := 1) hx hb dX3_isNearer_134 (by decide) ?_
              refine lv_goto (tgt := 139) hx hb dX3_isNearer_135 (by decide) ?_
              exact gx_zretR hx hb hr hlocks (by unfold mNear; (try first | rw [if_pos c_1] | rw [if_neg c_1]); (try first | rw [if_pos c_2] | rw [if_neg c_2]); (try first | rw [if_pos c_3] | rw [if_neg c_3]); (try first | rw [if_pos c_4] | rw [if_neg c_4]); (try first | rw [if_pos c_5] | rw [if_neg c_5]); (try first | rw [if_pos c_6] | rw [if_neg c_6]); try rfl) rfl (Nat.le_of_ble_eq_true rfl) (Nat.le_of_ble_eq_true rfl) dX3_isNearer_139
          · skip
            refine lv_iload hx hb dX3_isNearer_106 (lv_at hl 0 rfl) ?_
            refine lv_if_ge (tgt := 115) hx hb dX3_isNearer_108 (by decide) (fun c_7 => ?_) (fun c_7 => ?_)
            · skip
              refine lv_iconst (v := 0) hx hb dX3_isNearer_115 (by decide) ?_
              refine lv_goto (tgt := 139) hx hb dX3_isNearer_116 (by decide) ?_
              exact gx_zretR hx hb hr hlocks (by unfold mNear; (try first | rw [if_pos c_1] | rw [if_neg c_1]); (try first | rw [if_pos c_2] | rw [if_neg c_2]); (try first | rw [if_pos c_3] | rw [if_neg c_3]); (try first | rw [if_pos c_4] | rw [if_neg c_4]); (try first | rw [if_pos c_5] | rw [if_neg c_5]); (try first | rw [if_pos c_7] | rw [if_neg c_7]); try rfl) rfl (Nat.le_of_ble_eq_true rfl) (Nat.le_of_ble_eq_true rfl) dX3_isNearer_139
            · skip
              refine lv_iconst (v := 1) hx hb dX3_isNearer_111 (by decide) ?_
              refine lv_goto (tgt := 139) hx hb dX3_isNearer_112 (by decide) ?_
              exact gx_zretR hx hb hr hlocks (by unfold mNear; (try first | rw [if_pos c_1] | rw [if_neg c_1]); (try first | rw [if_pos c_2] | rw [if_neg c_2]); (try first | rw [if_pos c_3] | rw [if_neg c_3]); (try first | rw [if_pos c_4] | rw [if_neg c_4]); (try first | rw [if_pos c_5] | rw [if_neg c_5]); (try first | rw [if_pos c_7] | rw [if_neg c_7]); try rfl) rfl (Nat.le_of_ble_eq_true rfl) (Nat.le_of_ble_eq_true rfl) dX3_isNearer_139
        · skip
          refine lv_aload_n hx hb dX3_isNearer_55 rfl (lv_at hl 1 rfl) ?_
          refine gx_get hx hb hown hZ hG 8 0 11 hM.b8 rfl (by decide) k2 (fun _ h => h) (v := .ref (gad g 9 6)) (grf_j (hM.rf (f := 11) rfl) (by decide)) dX3_isNearer_56 ?_
          refine lv_iload_n hx hb dX3_isNearer_59 rfl (lv_at hl 2 rfl) ?_
          refine gx_aldN hx hb hZ hG 9 6 c (by rfl) (hM.b9 (by decide)) rfl rfl ⟨by rw [hM.lc (i := 6) (by decide) (by decide)]; omega, by omega⟩ (v := .int (σ 9 6 c)) rfl dX3_isNearer_60 ?_
          refine lv_aload_n hx hb dX3_isNearer_61 rfl (lv_at hl 1 rfl) ?_
          refine gx_get hx hb hown hZ hG 8 0 11 hM.b8 rfl (by decide) k2 (fun _ h => h) (v := .ref (gad g 9 6)) (grf_j (hM.rf (f := 11) rfl) (by decide)) dX3_isNearer_62 ?_
          refine lv_iload_n hx hb dX3_isNearer_65 rfl (lv_at hl 3 rfl) ?_
          refine gx_aldN hx hb hZ hG 9 6 b (by rfl) (hM.b9 (by decide)) rfl rfl ⟨by rw [hM.lc (i := 6) (by decide) (by decide)]; omega, by omega⟩ (v := .int (σ 9 6 b)) rfl dX3_isNearer_66 ?_
          refine lv_icmp_ge (tgt := 74) hx hb dX3_isNearer_67 (by decide) (fun c_8 => ?_) (fun c_8 => ?_)
          · skip
            refine lv_iconst (v := 0) hx hb dX3_isNearer_74 (by decide) ?_
            exact gx_zretR hx hb hr hlocks (by unfold mNear; (try first | rw [if_pos c_1] | rw [if_neg c_1]); (try first | rw [if_pos c_2] | rw [if_neg c_2]); (try first | rw [if_pos c_3] | rw [if_neg c_3]); (try first | rw [if_pos c_4] | rw [if_neg c_4]); (try first | rw [if_pos c_8] | rw [if_neg c_8]); try rfl) rfl (Nat.le_of_ble_eq_true rfl) (Nat.le_of_ble_eq_true rfl) dX3_isNearer_75
          · skip
            refine lv_iconst (v := 1) hx hb dX3_isNearer_70 (by decide) ?_
            refine lv_goto (tgt := 75) hx hb dX3_isNearer_71 (by decide) ?_
            exact gx_zretR hx hb hr hlocks (by unfold mNear; (try first | rw [if_pos c_1] | rw [if_neg c_1]); (try first | rw [if_pos c_2] | rw [if_neg c_2]); (try first | rw [if_pos c_3] | rw [if_neg c_3]); (try first | rw [if_pos c_4] | rw [if_neg c_4]); (try first | rw [if_pos c_8] | rw [if_neg c_8]); try rfl) rfl (Nat.le_of_ble_eq_true rfl) (Nat.le_of_ble_eq_true rfl) dX3_isNearer_75
      · skip
        exact absurd rfl c_3
    · skip
      refine lv_iconst (v := 1) hx hb dX3_isNearer_29 (by decide) ?_
      refine lv_goto (tgt := 34) hx hb dX3_isNearer_30 (by decide) ?_
      refine lv_icmp_eq (tgt := 40) hx hb dX3_isNearer_34 (by decide) (fun c_9 => ?_) (fun c_9 => ?_)
      · skip
        exact absurd c_9 (by decide)
      · skip
        refine lv_iload hx hb dX3_isNearer_37 (lv_at hl 0 rfl) ?_
        exact gx_zretR hx hb hr hlocks (by unfold mNear; (try first | rw [if_pos c_1] | rw [if_neg c_1]); (try first | rw [if_pos c_2] | rw [if_neg c_2]); (try first | rw [if_pos c_9] | rw [if_neg c_9]); try rfl) rfl (Nat.le_of_ble_eq_true rfl) (Nat.le_of_ble_eq_true rfl) dX3_isNearer_39
  · skip
    refine lv_iconst (v := 1) hx hb dX3_isNearer_10 (by decide) ?_
    refine lv_goto (tgt := 15) hx hb dX3_isNearer_11 (by decide) ?_
    refine lv_istore (lv' := [(4, .int (1)), (0, .ref (gad g 8 0)), (1, .int (nI c)), (2, .int (nI b)), (3, .int (z))]) hx hb dX3_isNearer_15 hl (by decide) rfl (fun ls hl => ?_)
    refine lv_iload hx hb dX3_isNearer_17 (lv_at hl 0 rfl) ?_
    refine lv_aload_n hx hb dX3_isNearer_19 rfl (lv_at hl 1 rfl) ?_
    refine gx_get hx hb hown hZ hG 8 0 7 hM.b8 rfl (by decide) k1 (fun _ h => h) (v := .ref (gad g 9 2)) (grf_j (hM.rf (f := 7) rfl) (by decide)) dX3_isNearer_20 ?_
    refine lv_iload_n hx hb dX3_isNearer_23 rfl (lv_at hl 3 rfl) ?_
    refine gx_aldN hx hb hZ hG 9 2 b (by rfl) (hM.b9 (by decide)) rfl rfl ⟨by rw [hM.lc (i := 2) (by decide) (by decide)]; omega, by omega⟩ (v := .int (σ 9 2 b)) rfl dX3_isNearer_24 ?_
    refine lv_iload_n hx hb dX3_isNearer_25 rfl (lv_at hl 4 rfl) ?_
    refine lv_icmp_ne (tgt := 33) hx hb dX3_isNearer_26 (by decide) (fun c_10 => ?_) (fun c_10 => ?_)
    · skip
      refine lv_iconst (v := 0) hx hb dX3_isNearer_33 (by decide) ?_
      refine lv_icmp_eq (tgt := 40) hx hb dX3_isNearer_34 (by decide) (fun c_11 => ?_) (fun c_11 => ?_)
      · skip
        exact absurd c_11 (by decide)
      · skip
        refine lv_iload hx hb dX3_isNearer_37 (lv_at hl 0 rfl) ?_
        exact gx_zretR hx hb hr hlocks (by unfold mNear; (try first | rw [if_pos c_1] | rw [if_neg c_1]); (try first | rw [if_pos c_10] | rw [if_neg c_10]); (try first | rw [if_pos c_11] | rw [if_neg c_11]); try rfl) rfl (Nat.le_of_ble_eq_true rfl) (Nat.le_of_ble_eq_true rfl) dX3_isNearer_39
    · skip
      refine lv_iconst (v := 1) hx hb dX3_isNearer_29 (by decide) ?_
      refine lv_goto (tgt := 34) hx hb dX3_isNearer_30 (by decide) ?_
      refine lv_icmp_eq (tgt := 40) hx hb dX3_isNearer_34 (by decide) (fun c_12 => ?_) (fun c_12 => ?_)
      · skip
        refine lv_aload_n hx hb dX3_isNearer_40 rfl (lv_at hl 1 rfl) ?_
        refine gx_get hx hb hown hZ hG 8 0 7 hM.b8 rfl (by decide) k1 (fun _ h => h) (v := .ref (gad g 9 2)) (grf_j (hM.rf (f := 7) rfl) (by decide)) dX3_isNearer_41 ?_
        refine lv_iload_n hx hb dX3_isNearer_44 rfl (lv_at hl 2 rfl) ?_
        refine gx_aldN hx hb hZ hG 9 2 c (by rfl) (hM.b9 (by decide)) rfl rfl ⟨by rw [hM.lc (i := 2) (by decide) (by decide)]; omega, by omega⟩ (v := .int (σ 9 2 c)) rfl dX3_isNearer_45 ?_
        refine lv_aload_n hx hb dX3_isNearer_46 rfl (lv_at hl 1 rfl) ?_
        refine gx_get hx hb hown hZ hG 8 0 7 hM.b8 rfl (by decide) k1 (fun _ h => h) (v := .ref (gad g 9 2)) (grf_j (hM.rf (f := 7) rfl) (by decide)) dX3_isNearer_47 ?_
        refine lv_iload_n hx hb dX3_isNearer_50 rfl (lv_at hl 3 rfl) ?_
        refine gx_aldN hx hb hZ hG 9 2 b (by rfl) (hM.b9 (by decide)) rfl rfl ⟨by rw [hM.lc (i := 2) (by decide) (by decide)]; omega, by omega⟩ (v := .int (σ 9 2 b)) rfl dX3_isNearer_51 ?_
        refine lv_icmp_ne (tgt := 76) hx hb dX3_isNearer_52 (by decide) (fun c_13 => ?_) (fun c_13 => ?_)
        · skip
          refine lv_aload_n hx hb dX3_isNearer_76 rfl (lv_at hl 1 rfl) ?_
          refine lv_aload_n hx hb dX3_isNearer_77 rfl (lv_at hl 1 rfl) ?_
          refine gx_get hx hb hown hZ hG 8 0 7 hM.b8 rfl (by decide) k1 (fun _ h => h) (v := .ref (gad g 9 2)) (grf_j (hM.rf (f := 7) rfl) (by decide)) dX3_isNearer_78 ?_
          refine lv_iload_n hx hb dX3_isNearer_81 rfl (lv_at hl 2 rfl) ?_
          refine gx_aldN hx hb hZ hG 9 2 c (by rfl) (hM.b9 (by decide)) rfl rfl ⟨by rw [hM.lc (i := 2) (by decide) (by decide)]; omega, by omega⟩ (v := .int (σ 9 2 c)) rfl dX3_isNearer_82 ?_
          refine lv_iload_n hx hb dX3_isNearer_83 rfl (lv_at hl 4 rfl) ?_
          refine gx_cR (gx_runV (As := [.int (σ 9 2 c), .int (z)]) (rest := []) ⟨hx, hb, hml, hown, hts⟩ (c_X3_way l g σ w (σ 9 2 c) z hM (hM.z hc) hz) (cwV 2 hts gX3_isNearer_X3_way rfl rfl rfl (by decide +kernel) ⟨Nat.le_of_ble_eq_true rfl, Nat.le_of_ble_eq_true rfl⟩) (gx_obj hZ hG 8 0 hM.b8 rfl) hZ hG hS rfl hl.1 rfl (Nat.le_of_ble_eq_true rfl) dX3_isNearer_84 ⟨Nat.le_of_ble_eq_true rfl, Nat.le_of_ble_eq_true rfl⟩) ?_
          refine lv_aload_n hx hb dX3_isNearer_87 rfl (lv_at hl 1 rfl) ?_
          refine lv_aload_n hx hb dX3_isNearer_88 rfl (lv_at hl 1 rfl) ?_
          refine gx_get hx hb hown hZ hG 8 0 7 hM.b8 rfl (by decide) k1 (fun _ h => h) (v := .ref (gad g 9 2)) (grf_j (hM.rf (f := 7) rfl) (by decide)) dX3_isNearer_89 ?_
          refine lv_iload_n hx hb dX3_isNearer_92 rfl (lv_at hl 3 rfl) ?_
          refine gx_aldN hx hb hZ hG 9 2 b (by rfl) (hM.b9 (by decide)) rfl rfl ⟨by rw [hM.lc (i := 2) (by decide) (by decide)]; omega, by omega⟩ (v := .int (σ 9 2 b)) rfl dX3_isNearer_93 ?_
          refine lv_iload_n hx hb dX3_isNearer_94 rfl (lv_at hl 4 rfl) ?_
          refine gx_cR (gx_runV (As := [.int (σ 9 2 b), .int (z)]) (rest := [.int (mWay σ (σ 9 2 c) z)]) ⟨hx, hb, hml, hown, hts⟩ (c_X3_way l g σ w (σ 9 2 b) z hM (hM.z hb3) hz) (cwV 2 hts gX3_isNearer_X3_way rfl rfl rfl (by decide +kernel) ⟨Nat.le_of_ble_eq_true rfl, Nat.le_of_ble_eq_true rfl⟩) (gx_obj hZ hG 8 0 hM.b8 rfl) hZ hG hS rfl hl.1 rfl (Nat.le_of_ble_eq_true rfl) dX3_isNearer_95 ⟨Nat.le_of_ble_eq_true rfl, Nat.le_of_ble_eq_true rfl⟩) ?_
          refine lv_isub hx hb dX3_isNearer_98 ?_
          refine lv_istore (lv' := [(5, .int ((mWay σ (σ 9 2 c) z) - (mWay σ (σ 9 2 b) z))), (4, .int (1)), (0, .ref (gad g 8 0)), (1, .int (nI c)), (2, .int (nI b)), (3, .int (z))]) hx hb dX3_isNearer_99 hl (by decide) rfl (fun ls hl => ?_)
          refine lv_iload hx hb dX3_isNearer_101 (lv_at hl 0 rfl) ?_
          refine lv_if_eq (tgt := 119) hx hb dX3_isNearer_103 (by decide) (fun c_14 => ?_) (fun c_14 => ?_)
          · skip
            refine lv_aload_n hx hb dX3_isNearer_119 rfl (lv_at hl 2 rfl) ?_
            refine gx_get hx hb hown hZ hG 8 0 7 hM.b8 rfl (by decide) k1 (fun _ h => h) (v := .ref (gad g 9 2)) (grf_j (hM.rf (f := 7) rfl) (by decide)) dX3_isNearer_120 ?_
            refine lv_iload_n hx hb dX3_isNearer_123 rfl (lv_at hl 3 rfl) ?_
            refine gx_aldN hx hb hZ hG 9 2 c (by rfl) (hM.b9 (by decide)) rfl rfl ⟨by rw [hM.lc (i := 2) (by decide) (by decide)]; omega, by omega⟩ (v := .int (σ 9 2 c)) rfl dX3_isNearer_124 ?_
            refine lv_aload_n hx hb dX3_isNearer_125 rfl (lv_at hl 2 rfl) ?_
            refine gx_get hx hb hown hZ hG 8 0 7 hM.b8 rfl (by decide) k1 (fun _ h => h) (v := .ref (gad g 9 2)) (grf_j (hM.rf (f := 7) rfl) (by decide)) dX3_isNearer_126 ?_
            refine lv_iload_n hx hb dX3_isNearer_129 rfl (lv_at hl 4 rfl) ?_
            refine gx_aldN hx hb hZ hG 9 2 b (by rfl) (hM.b9 (by decide)) rfl rfl ⟨by rw [hM.lc (i := 2) (by decide) (by decide)]; omega, by omega⟩ (v := .int (σ 9 2 b)) rfl dX3_isNearer_130 ?_
            refine lv_icmp_ge (tgt := 138) hx hb dX3_isNearer_131 (by decide) (fun c_15 => ?_) (fun c_15 => ?_)
            · skip
              refine lv_iconst (v := 0) hx hb dX3_isNearer_138 (by decide) ?_
              exact gx_zretR hx hb hr hlocks (by unfold mNear; (try first | rw [if_pos c_1] | rw [if_neg c_1]); (try first | rw [if_pos c_10] | rw [if_neg c_10]); (try first | rw [if_pos c_12] | rw [if_neg c_12]); (try first | rw [if_pos c_13] | rw [if_neg c_13]); (try first | rw [if_pos c_14] | rw [if_neg c_14]); (try first | rw [if_pos c_15] | rw [if_neg c_15]); try rfl) rfl (Nat.le_of_ble_eq_true rfl) (Nat.le_of_ble_eq_true rfl) dX3_isNearer_139
            · skip
              refine lv_iconst (v := 1) hx hb dX3_isNearer_134 (by decide) ?_
              refine lv_goto (tgt := 139) hx hb dX3_isNearer_135 (by decide) ?_
              exact gx_zretR hx hb hr hlocks (by unfold mNear; (try first | rw [if_pos c_1] | rw [if_neg c_1]); (try first | rw [if_pos c_10] | rw [if_neg c_10]); (try first | rw [if_pos c_12] | rw [if_neg c_12]); (try first | rw [if_pos c_13] | rw [if_neg c_13]); (try first | rw [if_pos c_14] | rw [if_neg c_14]); (try first | rw [if_pos c_15] | rw [if_neg c_15]); try rfl) rfl (Nat.le_of_ble_eq_true rfl) (Nat.le_of_ble_eq_true rfl) dX3_isNearer_139
          · skip
            refine lv_iload hx hb dX3_isNearer_106 (lv_at hl 0 rfl) ?_
            refine lv_if_ge (tgt := 115) hx hb dX3_isNearer_108 (by decide) (fun c_16 => ?_) (fun c_16 => ?_)
            · skip
              refine lv_iconst (v := 0) hx hb dX3_isNearer_115 (by decide) ?_
              refine lv_goto (tgt := 139) hx hb dX3_isNearer_116 (by decide) ?_
              exact gx_zretR hx hb hr hlocks (by unfold mNear; (try first | rw [if_pos c_1] | rw [if_neg c_1]); (try first | rw [if_pos c_10] | rw [if_neg c_10]); (try first | rw [if_pos c_12] | rw [if_neg c_12]); (try first | rw [if_pos c_13] | rw [if_neg c_13]); (try first | rw [if_pos c_14] | rw [if_neg c_14]); (try first | rw [if_pos c_16] | rw [if_neg c_16]); try rfl) rfl (Nat.le_of_ble_eq_true rfl) (Nat.le_of_ble_eq_true rfl) dX3_isNearer_139
            · skip
              refine lv_iconst (v := 1) hx hb dX3_isNearer_111 (by decide) ?_
              refine lv_goto (tgt := 139) hx hb dX3_isNearer_112 (by decide) ?_
              exact gx_zretR hx hb hr hlocks (by unfold mNear; (try first | rw [if_pos c_1] | rw [if_neg c_1]); (try first | rw [if_pos c_10] | rw [if_neg c_10]); (try first | rw [if_pos c_12] | rw [if_neg c_12]); (try first | rw [if_pos c_13] | rw [if_neg c_13]); (try first | rw [if_pos c_14] | rw [if_neg c_14]); (try first | rw [if_pos c_16] | rw [if_neg c_16]); try rfl) rfl (Nat.le_of_ble_eq_true rfl) (Nat.le_of_ble_eq_true rfl) dX3_isNearer_139
        · skip
          refine lv_aload_n hx hb dX3_isNearer_55 rfl (lv_at hl 1 rfl) ?_
          refine gx_get hx hb hown hZ hG 8 0 11 hM.b8 rfl (by decide) k2 (fun _ h => h) (v := .ref (gad g 9 6)) (grf_j (hM.rf (f := 11) rfl) (by decide)) dX3_isNearer_56 ?_
          refine lv_iload_n hx hb dX3_isNearer_59 rfl (lv_at hl 2 rfl) ?_
          refine gx_aldN hx hb hZ hG 9 6 c (by rfl) (hM.b9 (by decide)) rfl rfl ⟨by rw [hM.lc (i := 6) (by decide) (by decide)]; omega, by omega⟩ (v := .int (σ 9 6 c)) rfl dX3_isNearer_60 ?_
          refine lv_aload_n hx hb dX3_isNearer_61 rfl (lv_at hl 1 rfl) ?_
          refine gx_get hx hb hown hZ hG 8 0 11 hM.b8 rfl (by decide) k2 (fun _ h => h) (v := .ref (gad g 9 6)) (grf_j (hM.rf (f := 11) rfl) (by decide)) dX3_isNearer_62 ?_
          refine lv_iload_n hx hb dX3_isNearer_65 rfl (lv_at hl 3 rfl) ?_
          refine gx_aldN hx hb hZ hG 9 6 b (by rfl) (hM.b9 (by decide)) rfl rfl ⟨by rw [hM.lc (i := 6) (by decide) (by decide)]; omega, by omega⟩ (v := .int (σ 9 6 b)) rfl dX3_isNearer_66 ?_
          refine lv_icmp_ge (tgt := 74) hx hb dX3_isNearer_67 (by decide) (fun c_17 => ?_) (fun c_17 => ?_)
          · skip
            refine lv_iconst (v := 0) hx hb dX3_isNearer_74 (by decide) ?_
            exact gx_zretR hx hb hr hlocks (by unfold mNear; (try first | rw [if_pos c_1] | rw [if_neg c_1]); (try first | rw [if_pos c_10] | rw [if_neg c_10]); (try first | rw [if_pos c_12] | rw [if_neg c_12]); (try first | rw [if_pos c_13] | rw [if_neg c_13]); (try first | rw [if_pos c_17] | rw [if_neg c_17]); try rfl) rfl (Nat.le_of_ble_eq_true rfl) (Nat.le_of_ble_eq_true rfl) dX3_isNearer_75
          · skip
            refine lv_iconst (v := 1) hx hb dX3_isNearer_70 (by decide) ?_
            refine lv_goto (tgt := 75) hx hb dX3_isNearer_71 (by decide) ?_
            exact gx_zretR hx hb hr hlocks (by unfold mNear; (try first | rw [if_pos c_1] | rw [if_neg c_1]); (try first | rw [if_pos c_10] | rw [if_neg c_10]); (try first | rw [if_pos c_12] | rw [if_neg c_12]); (try first | rw [if_pos c_13] | rw [if_neg c_13]); (try first | rw [if_pos c_17] | rw [if_neg c_17]); try rfl) rfl (Nat.le_of_ble_eq_true rfl) (Nat.le_of_ble_eq_true rfl) dX3_isNearer_75
      · skip
        exact absurd rfl c_12
set_option maxHeartbeats 4000000 in
set_option maxRecDepth 100000 in
theorem c_X3_cabFor (l : Launch) (g : gG) (σ : Mem) (w : Int64) (o : Nat) (hM : Mok g σ) (ho : o < 60) : Met l yX3_cabFor wsX3_cabFor ({ frames := 2, cells := 0, slots := 0, locals := 47 } : Room) (gPc g σ w [.ref (gad g 8 0), .int (nI o)]) (gR (.int (mCf σ o))) 0 0 (fun _ => False) := by
  refine gx_ofW (cc := cX3_cabFor) (maxL := 4) (ret := (some .int)) (by decide) rfl (Nat.le_of_ble_eq_true rfl) ?_
  intro p e s m below meth c0 hx hb hr hml hts hown hlocks hin hG hZ hS ls hl
  have hown : s.vm.findClass RX3 = some m.cls := hown
  have hl : lv_has ls 4 [(0, .ref (gad g 8 0)), (1, .int (nI o))] := hl
  have k1 := hts (.fieldLink RX3 60 "TaxiRankModel" "cabs" "I") (by decide +kernel)
  have hc10 := hM.c10
  have ho60 := hM.o60
  refine lv_iconst (v := (-1)) hx hb dX3_cabFor_0 (by decide) ?_
  refine lv_istore_n (lv' := [(2, .int (-1)), (0, .ref (gad g 8 0)), (1, .int (nI o))]) hx hb dX3_cabFor_1 rfl hl (by decide) rfl (fun ls hl => ?_)
  refine lv_iconst (v := 0) hx hb dX3_cabFor_2 (by decide) ?_
  refine lv_istore_n (lv' := [(3, .int (0)), (2, .int (-1)), (0, .ref (gad g 8 0)), (1, .int (nI o))]) hx hb dX3_cabFor_3 rfl hl (by decide) rfl (fun ls hl => ?_)
  have loop_4 : ∀ (nf : Nat) (r : Nat) (k : Nat) (best : Int32), r < nf → (k + r = mC σ) → (best = -1 ∨ ∃ j, j < 10 ∧ best = nI j) → (mCfGo σ o r k best = mCf σ o) → ∀ ls : Array Slot, lv_has ls 4 [(0, .ref (gad g 8 0)), (1, .int (nI o)), (2, .int (best)), (3, .int (nI k))] → W p l e ({ frames := 2, cells := 0, slots := 0, locals := 47 } : Room) s m ([.ref (gad g 8 0), .int (nI o)] : List Value).toArray below meth c0 s.heap [] 0 0 (MQ below (gR (.int (mCf σ o))) ([.ref (gad g 8 0), .int (nI o)] : List Value).toArray s 0 0 (fun _ => False)) (F0 m 4 ls []) := by
    intro nf
    induction nf with
    | zero => intro r k best hn; exact absurd hn (Nat.not_lt_zero _)
    | succ nf ih =>
      intro r k best hn hk hbst hres ls hl
      refine lv_iload_n hx hb dX3_cabFor_4 rfl (lv_at hl 3 rfl) ?_
      refine lv_aload_n hx hb dX3_cabFor_5 rfl (lv_at hl 0 rfl) ?_
      refine gx_get hx hb hown hZ hG 8 0 5 hM.b8 rfl (by decide) k1 (fun _ h => h) (v := .int (σ 8 0 5)) rfl dX3_cabFor_6 ?_
      refine lv_icmp_ge (tgt := 52) hx hb dX3_cabFor_9 (by decide) (fun c_1 => ?_) (fun c_1 => ?_)
      · skip
        have hge := le_of_nIle (hM.eC ▸ c_1) (by omega) (by omega)
        obtain rfl : r = 0 := by omega
        refine lv_iload_n hx hb dX3_cabFor_52 rfl (lv_at hl 2 rfl) ?_
        exact gx_iretR hx hb hr hlocks (by rw [← hres]; rfl) (Nat.le_of_ble_eq_true rfl) (Nat.le_of_ble_eq_true rfl) dX3_cabFor_53
      · skip
        have hkc := lt_of_nle (hM.eC ▸ c_1) (by omega)
        obtain ⟨r, rfl⟩ : ∃ q, r = q + 1 := ⟨r - 1, by omega⟩
        refine lv_aload_n hx hb dX3_cabFor_12 rfl (lv_at hl 0 rfl) ?_
        refine lv_iload_n hx hb dX3_cabFor_13 rfl (lv_at hl 1 rfl) ?_
        refine lv_iload_n hx hb dX3_cabFor_14 rfl (lv_at hl 3 rfl) ?_
        refine gx_cR (gx_runV (As := [.int (nI o), .int (nI k)]) (rest := []) ⟨hx, hb, hml, hown, hts⟩ (c_X3_canOffer l g σ w o k hM ho (by omega)) (cwV 2 hts gX3_cabFor_X3_canOffer rfl rfl rfl (by decide +kernel) ⟨Nat.le_of_ble_eq_true rfl, Nat.le_of_ble_eq_true rfl⟩) (gx_obj hZ hG 8 0 hM.b8 rfl) hZ hG hS rfl hl.1 rfl (Nat.le_of_ble_eq_true rfl) dX3_cabFor_15 ⟨Nat.le_of_ble_eq_true rfl, Nat.le_of_ble_eq_true rfl⟩) ?_
        refine lv_if_ne (tgt := 24) hx hb dX3_cabFor_18 (by decide) (fun c_2 => ?_) (fun c_2 => ?_)
        · skip
          have c_2 := bI_ne0.mp c_2
          refine lv_iload_n hx hb dX3_cabFor_24 rfl (lv_at hl 2 rfl) ?_
          refine lv_iconst (v := (-1)) hx hb dX3_cabFor_25 (by decide) ?_
          refine lv_icmp_eq (tgt := 44) hx hb dX3_cabFor_26 (by decide) (fun c_3 => ?_) (fun c_3 => ?_)
          · skip
            refine lv_iload_n hx hb dX3_cabFor_44 rfl (lv_at hl 3 rfl) ?_
            refine lv_istore_n (lv' := [(2, .int (nI k)), (0, .ref (gad g 8 0)), (1, .int (nI o)), (3, .int (nI k))]) hx hb dX3_cabFor_45 rfl hl (by decide) rfl (fun ls hl => ?_)
            refine lv_iinc (v := nI (k + 1)) (lv' := [(3, .int (nI (k + 1))), (2, .int (nI k)), (0, .ref (gad g 8 0)), (1, .int (nI o))]) hx hb dX3_cabFor_46 hl (k := 3) rfl (nI_1 _) (by decide) rfl (fun ls hl => ?_)
            refine lv_goto (tgt := 4) hx hb dX3_cabFor_49 (by decide) ?_
            exact ih r (k + 1) (nI k) (by omega) (by omega) (Or.inr ⟨k, by omega, rfl⟩) (by rw [← hres]; simp only [mCfGo, c_1, c_2, c_3, reduceIte, Bool.false_eq_true]) ls (lv_sub hl [2, 3, 1, 0] rfl)
          · skip
            obtain ⟨j, hj, ej⟩ := hbst.resolve_left c_3
            have hbst : best = -1 ∨ ∃ j, j < 10 ∧ best = nI j := Or.inr ⟨j, hj, ej⟩
            have hjb : ix best = j := by rw [ej, ix_nI (by omega)]
            have en : best = nI (ix best) := by rw [hjb]; exact ej
            refine lv_aload_n hx hb dX3_cabFor_29 rfl (lv_at hl 0 rfl) ?_
            refine lv_iload_n hx hb dX3_cabFor_30 rfl (lv_at hl 3 rfl) ?_
            refine lv_iload_n hx hb dX3_cabFor_31 rfl (lv_at hl 2 rfl) ?_
            refine lv_aload_n hx hb dX3_cabFor_32 rfl (lv_at hl 0 rfl) ?_
            refine lv_iload_n hx hb dX3_cabFor_33 rfl (lv_at hl 1 rfl) ?_
            refine lv_iconst (v := 0) hx hb dX3_cabFor_34 (by decide) ?_
            refine gx_cR (gx_runV (As := [.int (nI o), .int (0)]) (rest := [.int (best), .int (nI k), .ref (gad g 8 0)]) ⟨hx, hb, hml, hown, hts⟩ (c_X3_get l g σ w o 0 hM ho (by decide)) (cwV 2 hts gX3_cabFor_X3_get rfl rfl rfl (by decide +kernel) ⟨Nat.le_of_ble_eq_true rfl, Nat.le_of_ble_eq_true rfl⟩) (gx_obj hZ hG 8 0 hM.b8 rfl) hZ hG hS rfl hl.1 rfl (Nat.le_of_ble_eq_true rfl) dX3_cabFor_35 ⟨Nat.le_of_ble_eq_true rfl, Nat.le_of_ble_eq_true rfl⟩) ?_
            refine gx_topV2 (v := .int (nI (ix best))) (congrArg Value.int en) ?_
            refine gx_cR (gx_runV (As := [.int (nI k), .int (nI (ix best)), .int (mT σ o 0)]) (rest := []) ⟨hx, hb, hml, hown, hts⟩ (c_X3_isNearer l g σ w k (ix best) (mT σ o 0) hM (by omega) (by omega) (hM.t0 ho)) (cwV 3 hts gX3_cabFor_X3_isNearer rfl rfl rfl (by decide +kernel) ⟨Nat.le_of_ble_eq_true rfl, Nat.le_of_ble_eq_true rfl⟩) (gx_obj hZ hG 8 0 hM.b8 rfl) hZ hG hS rfl hl.1 rfl (Nat.le_of_ble_eq_true rfl) dX3_cabFor_38 ⟨Nat.le_of_ble_eq_true rfl, Nat.le_of_ble_eq_true rfl⟩) ?_
            refine lv_if_eq (tgt := 46) hx hb dX3_cabFor_41 (by decide) (fun c_4 => ?_) (fun c_4 => ?_)
            · skip
              have c_4 := bI_eq0.mp c_4
              refine lv_iinc (v := nI (k + 1)) (lv' := [(3, .int (nI (k + 1))), (0, .ref (gad g 8 0)), (1, .int (nI o)), (2, .int (best))]) hx hb dX3_cabFor_46 hl (k := 3) rfl (nI_1 _) (by decide) rfl (fun ls hl => ?_)
              refine lv_goto (tgt := 4) hx hb dX3_cabFor_49 (by decide) ?_
              exact ih r (k + 1) (best) (by omega) (by omega) hbst (by rw [← hres]; simp only [mCfGo, c_1, c_2, c_3, c_4, reduceIte, Bool.false_eq_true]) ls (lv_sub hl [1, 2, 3, 0] rfl)
            · skip
              have c_4 := bI_ne0.mp c_4
              refine lv_iload_n hx hb dX3_cabFor_44 rfl (lv_at hl 3 rfl) ?_
              refine lv_istore_n (lv' := [(2, .int (nI k)), (0, .ref (gad g 8 0)), (1, .int (nI o)), (3, .int (nI k))]) hx hb dX3_cabFor_45 rfl hl (by decide) rfl (fun ls hl => ?_)
              refine lv_iinc (v := nI (k + 1)) (lv' := [(3, .int (nI (k + 1))), (2, .int (nI k)), (0, .ref (gad g 8 0)), (1, .int (nI o))]) hx hb dX3_cabFor_46 hl (k := 3) rfl (nI_1 _) (by decide) rfl (fun ls hl => ?_)
              refine lv_goto (tgt := 4) hx hb dX3_cabFor_49 (by decide) ?_
              exact ih r (k + 1) (nI k) (by omega) (by omega) (Or.inr ⟨k, by omega, rfl⟩) (by rw [← hres]; simp only [mCfGo, c_1, c_2, c_3, c_4, reduceIte, Bool.false_eq_true]) ls (lv_sub hl [2, 3, 1, 0] rfl)
        · skip
          have c_2 := bI_eq0.mp c_2
          refine lv_goto (tgt := 46) hx hb dX3_cabFor_21 (by decide) ?_
          refine lv_iinc (v := nI (k + 1)) (lv' := [(3, .int (nI (k + 1))), (0, .ref (gad g 8 0)), (1, .int (nI o)), (2, .int (best))]) hx hb dX3_cabFor_46 hl (k := 3) rfl (nI_1 _) (by decide) rfl (fun ls hl => ?_)
          refine lv_goto (tgt := 4) hx hb dX3_cabFor_49 (by decide) ?_
          exact ih r (k + 1) (best) (by omega) (by omega) hbst (by rw [← hres]; simp only [mCfGo, c_1, c_2, reduceIte, Bool.false_eq_true]) ls (lv_sub hl [1, 2, 3, 0] rfl)
  exact loop_4 (mC σ + 1) (mC σ) 0 (-1) (by omega) (by omega) (Or.inl rfl) rfl ls (lv_sub hl [2, 3, 1, 0] rfl)
