/-- nothing but cabs, orders and the count of turns is another -/
def Un (σ σ' : Mem) : Prop := ∀ k i f, k ≠ 6 → k ≠ 7 → ¬ (k = 0 ∧ f = 6) → σ' k i f = σ k i f
theorem Un.rf (σ : Mem) : Un σ σ := fun _ _ _ _ _ _ => rfl
theorem Un.tr {a b c : Mem} (h : Un a b) (h2 : Un b c) : Un a c := fun k i f h6 h7 h0 => (h2 k i f h6 h7 h0).trans (h k i f h6 h7 h0)
theorem Un.g6 {σ σ' : Mem} {i f : Nat} {v : Int32} (h : Un σ σ') : Un σ (gst σ' 6 i f v) := fun k j q h6 h7 h0 => (gst_nk h6).trans (h k j q h6 h7 h0)
theorem Un.g7 {σ σ' : Mem} {i f : Nat} {v : Int32} (h : Un σ σ') : Un σ (gst σ' 7 i f v) := fun k j q h6 h7 h0 => (gst_nk h7).trans (h k j q h6 h7 h0)
theorem Un.g0 {σ σ' : Mem} {v : Int32} (h : Un σ σ') : Un σ (gst σ' 0 0 6 v) := fun k j q h6 h7 h0 => by
  rw [gst_app, if_neg (fun z => h0 ⟨z.1, z.2.2⟩)]
  exact h k j q h6 h7 h0
theorem Un.join {σ σ' : Mem} {c : Nat} (h : Un σ σ') : Un σ (xJoin σ' c) := h.g6.g6.g0
theorem Un.turn {σ σ' : Mem} {c : Nat} (h : Un σ σ') : Un σ (xTurn σ' c) := by
  unfold xTurn
  split
  · exact h
  · exact h.g7.g7.g7.g6.join
theorem Un.rel {σ σ' : Mem} {o : Nat} (h : Un σ σ') : Un σ (xRel σ' o) := by
  unfold xRel
  split
  · exact h
  · split
    · exact h.g7.g6.join
    · exact h.g7.g6
theorem Un.roGo {σ : Mem} : ∀ (r k : Nat) {σ' : Mem}, Un σ σ' → Un σ (xRoGo r k σ')
  | 0, _, _, h => h
  | r + 1, k, σ', h => by
    simp only [xRoGo]
    repeat' split
    all_goals first | exact Un.roGo r (k + 1) h | exact Un.roGo r (k + 1) h.turn
theorem Un.beg {σ σ' : Mem} {c o : Nat} (h : Un σ σ') : Un σ (xBegin σ' c o) := h.g6.g6.g6.g7.g7.g7.g7.g7.g7
theorem Un.fin {σ σ' : Mem} {c o : Nat} (h : Un σ σ') : Un σ (xEnd σ' c o) := h.g6.g6.g6.g6.join.g7.g7
theorem Un.bcGo {σ : Mem} : ∀ (r k : Nat) (acc : Int32) {σ' : Mem}, Un σ σ' → Un σ (xBcGo r k acc σ').2
  | 0, _, _, _, h => h
  | r + 1, k, acc, σ', h => by
    simp only [xBcGo]
    repeat' split
    all_goals first | exact Un.bcGo r (k + 1) _ h | exact Un.bcGo r (k + 1) _ h.beg | exact Un.bcGo r (k + 1) _ h.fin
theorem Un.mno {σ σ' : Mem} (h : Un σ σ') : Un σ (xMno σ') := by
  unfold xMno
  split
  · exact h
  · split
    · exact h
    · exact h.g7.g7.g7.g6
theorem Un.moGo {σ : Mem} : ∀ (r : Nat) {σ' : Mem}, Un σ σ' → Un σ (xMoGo r σ')
  | 0, _, h => h
  | r + 1, σ', h => by
    simp only [xMoGo]
    split
    · exact Un.moGo r h.mno
    · exact h.mno
theorem Un.mo {σ σ' : Mem} (h : Un σ σ') : Un σ (xMo σ') := Un.moGo _ h
theorem Un.pm (σ : Mem) : Un (gst σ 0 0 3 (σ 0 0 3 + 1)) (xPm σ).2 := (Un.bcGo _ 0 0 (Un.roGo _ 0 (Un.rf _))).mo
/-- .. of the model: nothing but its own -/
def Um (μ μ' : Mem) : Prop := ∀ k i f, k ≠ 8 → k ≠ 9 → μ' k i f = μ k i f
theorem Um.rf (σ : Mem) : Um σ σ := fun _ _ _ _ _ => rfl
theorem Um.tr {a b c : Mem} (h : Um a b) (h2 : Um b c) : Um a c := fun k i f h6 h7 => (h2 k i f h6 h7).trans (h k i f h6 h7)
theorem Um.g8 {σ σ' : Mem} {i f : Nat} {v : Int32} (h : Um σ σ') : Um σ (gst σ' 8 i f v) := fun k j q h6 h7 => (gst_nk h6).trans (h k j q h6 h7)
theorem Um.g9 {σ σ' : Mem} {i f : Nat} {v : Int32} (h : Um σ σ') : Um σ (gst σ' 9 i f v) := fun k j q h6 h7 => (gst_nk h7).trans (h k j q h6 h7)
theorem Um.qup {σ σ' : Mem} {c : Nat} (h : Um σ σ') : Um σ (mQup σ' c) := h.g8.g9
theorem Um.free {σ σ' : Mem} {c : Nat} {z : Int32} (h : Um σ σ') : Um σ (mFree σ' c z) := Um.qup h.g9.g9.g9
theorem Um.rfd {σ σ' : Mem} {c : Nat} (h : Um σ σ') : Um σ (mRfd σ' c) := by
  unfold mRfd
  split
  · exact h
  · exact h.g9.g9.g9.g9
theorem Um.ride {σ σ' : Mem} {c o : Nat} (h : Um σ σ') : Um σ (mRide σ' c o) := h.g9.g9.g9.g9.g9.g9.g9.g9.g9
theorem Um.done {σ σ' : Mem} {c o : Nat} (h : Um σ σ') : Um σ (mDone σ' c o) := Um.free h.g9.g9.g9.g9
theorem Um.off1 {σ σ' : Mem} (h : Um σ σ') : Um σ (mOff1 σ') := h.g9.g9.g9.g9
theorem Um.oaGo {σ : Mem} : ∀ (r : Nat) {σ' : Mem}, Um σ σ' → Um σ (mOAGo r σ')
  | 0, _, h => h
  | r + 1, σ', h => by
    simp only [mOAGo]
    split
    · exact h
    · exact Um.oaGo r h.off1
theorem Um.oa {σ σ' : Mem} (h : Um σ σ') : Um σ (mOA σ') := Um.oaGo 11 h
theorem Um.ageGo {σ : Mem} : ∀ (r k : Nat) {σ' : Mem}, Um σ σ' → Um σ (mAgeGo r k σ')
  | 0, _, _, h => h
  | r + 1, k, σ', h => by
    simp only [mAgeGo]
    repeat' split
    all_goals first | exact Um.ageGo r (k + 1) h | exact Um.ageGo r (k + 1) h.rfd.qup
theorem Um.runGo {σ : Mem} : ∀ (r k : Nat) (acc : Int32) {σ' : Mem}, Um σ σ' → Um σ (mRunGo r k acc σ').2
  | 0, _, _, _, h => h
  | r + 1, k, acc, σ', h => by
    simp only [mRunGo]
    repeat' split
    all_goals first | exact Um.runGo r (k + 1) _ h | exact Um.runGo r (k + 1) _ h.ride | exact Um.runGo r (k + 1) _ h.done
theorem Um.min {σ σ' : Mem} (h : Um σ σ') : Um σ (mMin σ').2 := (Um.runGo _ 0 0 (Um.ageGo _ 0 h.g8)).oa
section PMIN
variable {B : Nat} {σ μ : Mem} {g : gG}
/-- a minute -/
theorem rlR.pm (h : rlR B σ μ) (hB : B + 20 < 2 ^ 31) (hF : Mf g μ) {t : Nat} (ht : σ 0 0 3 = nI t) (hlt : t < 9999) : (xPm σ).1 = (mMin μ).1 ∧ rlR (B + 20) (xPm σ).2 (mMin μ).2 ∧ (xPm σ).2 0 0 3 = nI (t + 1) := by
  have h1 := h.time ht hlt
  have e1 := h1.ec
  have d1 := h1.c10
  have h2 : rlR (B + 10) (xRo (gst σ 0 0 3 (σ 0 0 3 + 1))) (mAge (gst μ 8 0 1 (μ 8 0 1 + 1))) := by
    unfold xRo mAge
    rw [← e1]
    exact (rlR.roGo _ 0 h1 (by omega)).mono (by omega)
  have e2 := h2.ec
  have d2 := h2.c10
  obtain ⟨p1, p2⟩ := rlR.bcGo (nC (xRo (gst σ 0 0 3 (σ 0 0 3 + 1)))) 0 0 h2 (by omega)
  have h3 : rlR (B + 20) (xBc (xRo (gst σ 0 0 3 (σ 0 0 3 + 1)))).2 (mRun (mAge (gst μ 8 0 1 (μ 8 0 1 + 1)))).2 := by
    unfold xBc mRun
    rw [← e2]
    exact p2.mono (by omega)
  have k3 := Un.pm σ 0 0 3 (by decide) (by decide) (by decide)
  have k4 : rlR (B + 20) (xMo (xBc (xRo (gst σ 0 0 3 (σ 0 0 3 + 1)))).2) (mOA (mRun (mAge (gst μ 8 0 1 (μ 8 0 1 + 1)))).2) := h3.mo hB (hF.now.age.run).1
  have k5 : (xBc (xRo (gst σ 0 0 3 (σ 0 0 3 + 1)))).1 = (mRun (mAge (gst μ 8 0 1 (μ 8 0 1 + 1)))).1 := by
    unfold xBc mRun
    rw [← e2]
    exact p1
  refine ⟨?_, ?_, ?_⟩
  · unfold xPm mMin
    exact k5
  · unfold xPm mMin
    exact k4
  · rw [k3, gst_eq, ht]
    exact nI_1 t
/-- some minutes -/
theorem rlR.tick : ∀ (n : Nat) (acc : Int32) {B : Nat} {σ μ : Mem} {t : Nat}, rlR B σ μ → B + 20 * n < 2 ^ 31 → Mf g μ → σ 0 0 3 = nI t → t + n ≤ 9999 →
    (xTickGo n acc σ).1 = (mTickGo n acc μ).1 ∧ rlR (B + 20 * n) (xTickGo n acc σ).2 (mTickGo n acc μ).2 ∧ Mf g (mTickGo n acc μ).2 ∧ (xTickGo n acc σ).2 0 0 3 = nI (t + n)
  | 0, _, _, _, _, _, h, _, hF, ht, _ => ⟨rfl, h, hF, ht⟩
  | n + 1, acc, B, σ, μ, t, h, hB, hF, ht, hle => by
    obtain ⟨q1, q2, q3⟩ := h.pm (by omega) hF ht (by omega)
    obtain ⟨r1, r2, r3, r4⟩ := rlR.tick n (acc + (xPm σ).1) q2 (by omega) hF.min q3 (by omega)
    have e : t + (n + 1) = t + 1 + n := by omega
    rw [e]
    simp only [xTickGo, mTickGo]
    rw [← q1]
    exact ⟨r1, r2.mono (by omega), r3, r4⟩
end PMIN
