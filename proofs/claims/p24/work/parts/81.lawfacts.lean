theorem rc1 {x : Nat} (h : x ≤ 600104) : x ≤ room_1.cells := h
theorem rs1 {x : Nat} (h : x ≤ 7301314) : x ≤ room_1.slots := h
/-! how many bits -/
theorem bcnt_cnt : ∀ x, x < 1024 → bcnt (nI x) = nI (cntB (fun i => x.testBit i) 10) := by decide +kernel
theorem cntB_mono {f f' : Nat → Bool} : ∀ n, (∀ i, i < n → f i = true → f' i = true) → cntB f n ≤ cntB f' n
  | 0, _ => Nat.le_refl _
  | n + 1, h => by
    have a := cntB_mono n (fun i hi => h i (by omega))
    rw [cntB, cntB]
    by_cases q : f n = true
    · rw [if_pos q, if_pos (h n (by omega) q)]; omega
    · rw [if_neg q]; omega
theorem cntB_le {f : Nat → Bool} {k : Nat} (h : ∀ i, k ≤ i → ¬ f i = true) : ∀ n, cntB f n ≤ k ∧ cntB f n ≤ n
  | 0 => ⟨Nat.zero_le _, Nat.le_refl _⟩
  | n + 1 => by
    obtain ⟨a, b⟩ := cntB_le h n
    rw [cntB]
    by_cases q : f n = true
    · have : ¬ k ≤ n := fun z => h n z q
      rw [if_pos q]; omega
    · rw [if_neg q]; omega
theorem bcnt_mono {x h : Nat} (hx : x < 1024) (hh : x ||| h = x) : ¬ bcnt (nI x) < bcnt (nI h) := by
  have h1 : h < 1024 := by
    have : h ≤ x ||| h := Nat.right_le_or
    omega
  have b := (cntB_le (f := fun i => x.testBit i) (k := 10) (fun i _ => by
    intro q
    have : x.testBit i = false := Nat.testBit_lt_two_pow (Nat.lt_of_lt_of_le hx (Nat.pow_le_pow_right (n := 2) (i := 10) (by decide) (by omega)))
    simp [this] at q) 10).1
  rw [bcnt_cnt x hx, bcnt_cnt h h1]
  refine nI_nlt (cntB_mono 10 (fun i _ q => ?_)) (by omega)
  have q' : h.testBit i = true := q
  show x.testBit i = true
  rw [← hh, Nat.testBit_or, q', Bool.or_true]
theorem bcnt_le {x n : Nat} (hn : n ≤ 10) (hx : x < 2 ^ n) : bcnt (nI x) ≤ nI n := by
  have hx2 : x < 1024 := Nat.lt_of_lt_of_le hx (Nat.pow_le_pow_right (n := 2) (j := 10) (by decide) hn)
  rw [bcnt_cnt x hx2]
  refine nI_le (cntB_le (k := n) (fun i hi q => ?_) 10).1 (by omega)
  have : x.testBit i = false := Nat.testBit_lt_two_pow (Nat.lt_of_lt_of_le hx (Nat.pow_le_pow_right (by decide) hi))
  simp [this] at q
theorem xod0 {σ : Mem} {o : Nat} : xOrdDet σ o 0 = σ 7 o 5 := rfl
theorem xod2 {σ : Mem} {o : Nat} : xOrdDet σ o 2 = σ 7 o 9 := by unfold xOrdDet; rw [if_neg (by decide), if_neg (by decide), if_pos rfl]
theorem xod3 {σ : Mem} {o : Nat} : xOrdDet σ o 3 = σ 7 o 10 := by unfold xOrdDet; rw [if_neg (by decide), if_neg (by decide), if_neg (by decide), if_pos rfl]
theorem xod4 {σ : Mem} {o : Nat} : xOrdDet σ o 4 = bcnt (σ 7 o 8) := by unfold xOrdDet; rw [if_neg (by decide), if_neg (by decide), if_neg (by decide), if_neg (by decide)]
theorem xcd2 {σ : Mem} {o : Nat} : xCabDet σ o 2 = σ 6 o 1 := by unfold xCabDet; rw [if_neg (by decide), if_neg (by decide), if_pos rfl]
theorem xcd0 {σ : Mem} {o : Nat} : xCabDet σ o 0 = σ 6 o 3 := rfl
theorem toldE {g : gG} {σ : Mem} (hX : Xok g σ) {o : Nat} (ho : o < gcn g 7) {x : Int32} (h0 : ¬ x < 0) (h5 : x < 5) : xToldE σ (nI o) x = 0 := by
  have := hX.n7
  unfold xToldE
  rw [if_pos (okO_nI (by rw [hX.eO]; exact ho) (by rw [hX.eO]; exact this)), if_neg h0, if_pos h5]
theorem cabE {g : gG} {σ : Mem} (hX : Xok g σ) {o : Nat} (ho : o < gcn g 6) {x : Int32} (h0 : ¬ x < 0) (h5 : x < 5) : xCabE σ (nI o) x = 0 := by
  have := hX.n6
  unfold xCabE
  rw [if_pos (okC_nI (by rw [hX.eC]; exact ho) (by rw [hX.eC]; exact this)), if_neg h0, if_pos h5]
theorem nlt15 {t d : Nat} (ht : t < 100000) (hd : d < 100000) (h : d ≤ t + 15) : ¬ nI t < nI d - 15 := by
  intro q
  rw [Int32.lt_iff_toInt_lt, nI_toInt (by omega), show (nI d - 15 : Int32) = nI d - nI 15 from rfl, pk_sub_toInt (by omega) (by decide)] at q
  omega
def LC (p : Program) (s : State) (m : MethodId) (c0 : Code) (args : Array Value) : Prop := p.tables.exec = Jvm.exec ∧ c0.code = cL_law ∧ c0.maxLocals = 11 ∧ s.vm.findClass RL = some m.cls ∧ (∀ w ∈ wsL_law, w.before args s = true)
