theorem Xok.cong {g : gG} {σ σ' : Mem} (h : Xok g σ) (e : ∀ k i f, k < 8 → σ' k i f = σ k i f) : Xok g σ' := by
  obtain ⟨h1, ⟨a1, a2, a3⟩, ⟨b1, b2⟩, h4, h5, h6, h7, h8, h9⟩ := h
  refine ⟨h1, ⟨?_, ?_, ?_⟩, ⟨?_, ?_⟩, ?_, ?_, fun j hj => ?_, fun j hj => ?_, fun j hj => ?_, fun j hj => ?_⟩
  · rw [e 0 0 0 (by decide)]; exact a1
  · rw [e 0 0 1 (by decide)]; exact a2
  · rw [e 0 0 2 (by decide)]; exact a3
  · rw [e 2 0 2 (by decide)]; exact b1
  · rw [e 3 0 2 (by decide)]; exact b2
  · rw [e 2 0 1 (by decide)]; exact h4
  · rw [e 3 0 1 (by decide)]; exact h5
  · rw [e 4 0 j (by decide)]; exact h6 j hj
  · rw [e 5 0 j (by decide)]; exact h7 j hj
  · rw [e 6 j 0 (by decide)]; exact h8 j hj
  · rw [e 7 j 0 (by decide)]; exact h9 j hj
theorem Mok.cong {g : gG} {σ σ' : Mem} (h : Mok g σ) (e8 : ∀ i f, σ' 8 i f = σ 8 i f) (e9 : ∀ i f, σ' 9 i f = σ 9 i f) : Mok g σ' := by
  obtain ⟨h1, h2, h3, h4, h5, h6, h7⟩ := h
  have eC : mC σ' = mC σ := by unfold mC; rw [e8]
  have eO : mO σ' = mO σ := by unfold mO; rw [e8]
  refine ⟨h1, fun f i hr => ?_, ?_, ?_, h5, fun c hc => ?_, fun o ho => ?_⟩
  · rw [e8]; exact h2 f i hr
  · rw [eC, e8]; exact h3
  · rw [eO, e8]; exact h4
  · rw [e9]; exact h6 c hc
  · rw [e9, e9]; exact h7 o ho
theorem Mf.cong {g : gG} {σ σ' : Mem} (h : Mf g σ) (e8 : ∀ i f, σ' 8 i f = σ 8 i f) (e9 : ∀ i f, σ' 9 i f = σ 9 i f) : Mf g σ' := by
  refine ⟨h.1.cong e8 e9, fun c hc => ?_, fun c hc hh => ?_⟩
  · rw [e9]; exact h.2.1 c hc
  · rw [e9 3 c] at hh
    rw [e9 4 c]
    exact h.2.2 c hc hh
/-- what holds between two calls of the script -/
def LI (g : gG) (σ : Mem) (B : Nat) : Prop := Xok g σ ∧ Mf g σ ∧ rlR B σ σ ∧ (gcn g 10 = 1 ∧ gln g 10 0 = 1) ∧ gcn g 9 = 12 + nO σ
section LIS
variable {g : gG} {σ σ1 μ' : Mem} {B B' B'' : Nat}
theorem LI.pre (h : LI g σ B) (e : ∀ k i f, 8 ≤ k → σ1 k i f = σ k i f) : rlR B σ (gst σ1 8 0 0 0) ∧ Mf g (gst σ1 8 0 0 0) ∧ gst σ1 8 0 0 0 8 0 0 = 0 :=
  ⟨h.2.2.1.congr (fun _ => rfl) (fun _ => rfl) rfl rfl (fun _ _ => rfl) (fun _ _ => rfl) (fun f hf => by rw [gst_nf hf]; exact e 8 0 f (by decide)) (fun i j _ => by rw [gst_nk (by decide)]; exact e 9 i j (by decide)), (h.2.1.cong (fun i f => e 8 i f (by decide)) (fun i f => e 9 i f (by decide))).thr, gst_eq _ _ _ _ _⟩
theorem LI.ok (h : LI g σ B) (hX : Xok g σ1) (hr : rlR B' σ1 μ') (hm : Mf g μ') (hu : Um (gst σ1 8 0 0 0) μ') (e3 : σ1 3 0 2 = σ 3 0 2) (hB : B' ≤ B'') : LI g μ' B'' := by
  have e : ∀ k i f, k < 8 → μ' k i f = σ1 k i f := fun k i f hk => (hu k i f (by omega) (by omega)).trans (gst_nk (by omega))
  have eO : nO μ' = nO σ := by unfold nO; rw [e 3 0 2 (by decide), e3]
  refine ⟨hX.cong e, hm, ?_, h.2.2.2.1, by rw [eO]; exact h.2.2.2.2⟩
  exact (hr.congr (fun f => e 0 0 f (by decide)) (fun j => e 1 0 j (by decide)) (e 2 0 2 (by decide)) (e 3 0 2 (by decide)) (fun i f => e 6 i f (by decide)) (fun i f => e 7 i f (by decide)) (fun _ _ => rfl) (fun _ _ _ => rfl)).mono hB
theorem LI.thr (h : LI g σ B) {E : Int32} (hB : B ≤ B') : LI g (gst (gst σ 8 0 0 0) 8 0 0 E) B' := by
  refine h.ok h.1 (B' := B) ?_ h.2.1.thr.thr (Um.rf _).g8 rfl hB
  exact h.2.2.1.congr (fun _ => rfl) (fun _ => rfl) rfl rfl (fun _ _ => rfl) (fun _ _ => rfl) (fun f hf => by rw [gst_nf hf, gst_nf hf]) (fun i j _ => by rw [gst_nk (by decide), gst_nk (by decide)])
theorem LI.thr1 (h : LI g σ B) {E : Int32} (hB : B ≤ B') : LI g (gst σ 8 0 0 E) B' := by
  refine h.ok h.1 (B' := B) ?_ h.2.1.thr (fun k i f h8 h9 => by rw [gst_nk h8, gst_nk h8]) rfl hB
  exact h.2.2.1.congr (fun _ => rfl) (fun _ => rfl) rfl rfl (fun _ _ => rfl) (fun _ _ => rfl) (fun f hf => by rw [gst_nf hf]) (fun i j _ => by rw [gst_nk (by decide)])
/-- a call of the class is over, and the model's, over what it left, will answer alike -/
def ZC (g : gG) (B : Nat) (F : Mem → Int32 × Mem) (v : Option Value) (H : Heap) : Prop := ∃ (kv : Int32) (σ1 : Mem) (w1 : Int64), v = some (.int kv) ∧ GW g σ1 w1 H ∧ Mf g σ1 ∧ (∀ o, o < 60 → mT σ1 o 4 = 1 ∨ mT σ1 o 4 = 2 → o < mO σ1 → ∃ c, c < 10 ∧ mT σ1 o 5 = nI c) ∧ (F (gst σ1 8 0 0 0)).2 8 0 0 = kv ∧ (kv = 0 → w1 = (F (gst σ1 8 0 0 0)).1.toInt64) ∧ LI g (F (gst σ1 8 0 0 0)).2 B
theorem LI.hca (h : LI g σ B) (e : ∀ k i f, 8 ≤ k → σ1 k i f = σ k i f) : ∀ o, o < 60 → mT σ1 o 4 = 1 ∨ mT σ1 o 4 = 2 → o < mO σ1 → ∃ c, c < 10 ∧ mT σ1 o 5 = nI c := by
  intro o _ h4 ho
  have e9 : ∀ k, mT σ1 o k = mT σ o k := fun k => e 9 9 _ (by decide)
  have hm : mO σ1 = mO σ := by unfold mO; rw [e 8 0 15 (by decide)]
  rw [e9] at h4
  rw [e9]
  have hr := h.2.2.1
  have ho' : o < nO σ := by rw [hr.eo, ← hm]; exact ho
  obtain ⟨⟨-, -, -, -, -, a5, a6, -, -⟩, -⟩ := hr.ord ho'
  rw [← a5] at h4
  rw [← a6]
  have h10 := hr.c10
  rcases hr.2.2.2.2.1.2 o ho' with ⟨s0, -⟩ | ⟨c, hc, q, -⟩ | s0 | s0
  · rw [s0] at h4; exact absurd h4 (by decide)
  · exact ⟨c, by omega, q⟩
  · rw [s0] at h4; exact absurd h4 (by decide)
  · rw [s0] at h4; exact absurd h4 (by decide)
theorem ZC.of {F : Mem → Int32 × Mem} {E a : Int32} {w : Int64} {v : Option Value} {H : Heap} (h : LI g σ B) (hD : (¬ E = 0 ∧ v = some (.int E) ∧ GW g σ w H) ∨ (E = 0 ∧ v = some (.int 0) ∧ GW g σ1 a.toInt64 H)) (hX : Xok g σ1) (e8 : ∀ k i f, 8 ≤ k → σ1 k i f = σ k i f) (e3 : σ1 3 0 2 = σ 3 0 2)
    (he : ¬ E = 0 → (F (gst σ 8 0 0 0)).2 = gst (gst σ 8 0 0 0) 8 0 0 E) (ho : E = 0 → ∃ B', (F (gst σ1 8 0 0 0)).1 = a ∧ rlR B' σ1 (F (gst σ1 8 0 0 0)).2 ∧ Mf g (F (gst σ1 8 0 0 0)).2 ∧ Um (gst σ1 8 0 0 0) (F (gst σ1 8 0 0 0)).2 ∧ Ut (gst σ1 8 0 0 0) (F (gst σ1 8 0 0 0)).2 ∧ B' ≤ B'') (h1 : B ≤ B'') : ZC g B'' F v H := by
  rcases hD with ⟨q1, q2, q3⟩ | ⟨q1, q2, q3⟩
  · refine ⟨E, σ, w, q2, q3, h.2.1, h.hca (fun _ _ _ _ => rfl), ?_, fun z => absurd z q1, ?_⟩
    · rw [he q1]; exact gst_eq _ _ _ _ _
    · rw [he q1]; exact h.thr h1
  · obtain ⟨B', o1, o2, o3, o4, o5, h2⟩ := ho q1
    exact ⟨0, σ1, a.toInt64, q2, q3, h.2.1.cong (fun i f => e8 8 i f (by decide)) (fun i f => e8 9 i f (by decide)), h.hca e8, o5.trans (gst_eq _ _ _ _ _), fun _ => by rw [o1], h.ok hX o2 o3 o4 e3 h2⟩
theorem ZC.ofQ {F : Mem → Int32 × Mem} {E a : Int32} {w : Int64} {v : Option Value} {H : Heap} (h : LI g σ B) (hD : (¬ E = 0 ∧ v = some (.int E) ∧ GW g σ w H) ∨ (E = 0 ∧ v = some (.int 0) ∧ GW g σ a.toInt64 H))
    (hs : (F (gst σ 8 0 0 0)).2 = gst (gst σ 8 0 0 0) 8 0 0 E ∧ (E = 0 → (F (gst σ 8 0 0 0)).1 = a)) (h1 : B ≤ B'') : ZC g B'' F v H := by
  rcases hD with ⟨q1, q2, q3⟩ | ⟨q1, q2, q3⟩
  · refine ⟨E, σ, w, q2, q3, h.2.1, h.hca (fun _ _ _ _ => rfl), ?_, fun z => absurd z q1, ?_⟩
    · rw [hs.1]; exact gst_eq _ _ _ _ _
    · rw [hs.1]; exact h.thr h1
  · refine ⟨E, σ, a.toInt64, by rw [q1]; exact q2, q3, h.2.1, h.hca (fun _ _ _ _ => rfl), ?_, fun z => by rw [hs.2 z], ?_⟩
    · rw [hs.1]; exact gst_eq _ _ _ _ _
    · rw [hs.1]; exact h.thr h1
theorem xPutWay_8 {a b v : Int32} {k i f : Nat} (hk : k ≠ 1) : xPutWay σ a b v k i f = σ k i f := by
  unfold xPutWay
  repeat' split
  all_goals first | rfl | exact gst_nk hk
theorem xTick_8 : ∀ (r : Nat) (acc : Int32) (σ : Mem) {k : Nat} (i f : Nat), k ≠ 0 → k ≠ 6 → k ≠ 7 → (xTickGo r acc σ).2 k i f = σ k i f
  | 0, _, _, _, _, _, _, _, _ => rfl
  | r + 1, acc, σ, k, i, f, h0, h6, h7 => by
    simp only [xTickGo]
    rw [xTick_8 r _ _ i f h0 h6 h7, (Un.pm σ) k i f h6 h7 (fun z => h0 z.1), gst_nk h0]
theorem xAcc_n (c o : Nat) : Un σ (xAcc σ c o) := (Un.rf σ).g6.g6.g7
end LIS
