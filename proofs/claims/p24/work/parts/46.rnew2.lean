def rMem (σ : Mem) : Mem := gst (gst (gst (gMs (gst (gMs (gst (gMs (gst (gFre (gst (gFre (gst (gMs (σ) 9 6) 8 0 0 (nI 0)) 10 0) 8 0 1 (nI 0)) 11 0) 8 0 2 (nI 0)) 12 6) 8 0 3 (nI 0)) 13 60) 8 0 4 (nI 0)) 14 10) 8 0 5 (nI 0)) 8 0 9 4) 8 0 10 2
theorem rMem_80 {σ : Mem} : rMem σ 8 0 0 = 0 := by unfold rMem; simp [gst_app, gMs_app, gFre_app, gDef, gtg, nI_0]
theorem rMem_81 {σ : Mem} : rMem σ 8 0 1 = 0 := by unfold rMem; simp [gst_app, gMs_app, gFre_app, gDef, gtg, nI_0]
theorem rMem_82 {σ : Mem} : rMem σ 8 0 2 = 0 := by unfold rMem; simp [gst_app, gMs_app, gFre_app, gDef, gtg, nI_0]
theorem rMem_83 {σ : Mem} : rMem σ 8 0 3 = 0 := by unfold rMem; simp [gst_app, gMs_app, gFre_app, gDef, gtg, nI_0]
theorem rMem_84 {σ : Mem} : rMem σ 8 0 4 = 0 := by unfold rMem; simp [gst_app, gMs_app, gFre_app, gDef, gtg, nI_0]
theorem rMem_85 {σ : Mem} : rMem σ 8 0 5 = 0 := by unfold rMem; simp [gst_app, gMs_app, gFre_app, gDef, gtg, nI_0]
theorem rMem_86 {σ : Mem} (h : σ 8 0 6 = 0) : rMem σ 8 0 6 = 0 := by unfold rMem; simp [gst_app, gMs_app, gFre_app, gDef, gtg, nI_0, h]
theorem rMem_87 {σ : Mem} (h : σ 8 0 7 = 0) : rMem σ 8 0 7 = 0 := by unfold rMem; simp [gst_app, gMs_app, gFre_app, gDef, gtg, nI_0, h]
theorem rMem_88 {σ : Mem} (h : σ 8 0 8 = 0) : rMem σ 8 0 8 = 0 := by unfold rMem; simp [gst_app, gMs_app, gFre_app, gDef, gtg, nI_0, h]
theorem rMem_t9 {σ : Mem} {j : Nat} (hj : j < 6) : rMem σ 9 0 j = nI j := by unfold rMem; simp [gst_app, gMs_app, gFre_app, gDef, gtg, nI_0, hj]
theorem rMem_t12 {σ : Mem} {j : Nat} (hj : j < 6) : rMem σ 12 0 j = nI j := by unfold rMem; simp [gst_app, gMs_app, gFre_app, gDef, gtg, nI_0, hj]
theorem rMem_t13 {σ : Mem} {j : Nat} (hj : j < 60) : rMem σ 13 0 j = nI j := by unfold rMem; simp [gst_app, gMs_app, gFre_app, gDef, gtg, nI_0, hj]
theorem rMem_t14 {σ : Mem} {j : Nat} (hj : j < 10) : rMem σ 14 0 j = nI j := by unfold rMem; simp [gst_app, gMs_app, gFre_app, gDef, gtg, nI_0, hj]
theorem rMem_18 {σ : Mem} (z j : Nat) : rMem σ 18 z j = 0 := by unfold rMem; simp [gst_app, gMs_app, gFre_app, gDef, gtg, nI_0]
theorem rMem_19 {σ : Mem} (z j : Nat) : rMem σ 19 z j = 0 := by unfold rMem; simp [gst_app, gMs_app, gFre_app, gDef, gtg, nI_0]
theorem rMem_o {σ : Mem} {k i f : Nat} (hk : k < 8 ∨ 21 ≤ k) : rMem σ k i f = σ k i f := by
  have d8 : k ≠ 8 := by omega
  have d9 : k ≠ 9 := by omega
  have d10 : k ≠ 10 := by omega
  have d11 : k ≠ 11 := by omega
  have d12 : k ≠ 12 := by omega
  have d13 : k ≠ 13 := by omega
  have d14 : k ≠ 14 := by omega
  have d15 : k ≠ 15 := by omega
  have d16 : k ≠ 16 := by omega
  have d17 : k ≠ 17 := by omega
  have d18 : k ≠ 18 := by omega
  have d19 : k ≠ 19 := by omega
  have d20 : k ≠ 20 := by omega
  unfold rMem
  simp [gst_app, gMs_app, gFre_app, d8, d9, d10, d11, d12, d13, d14, d15, d16, d17, d18, d19, d20]
theorem rMem_R {g : gG} {σ : Mem} (hG : RrG g) (w16 : gcn g 16 = 0) (w17 : gcn g 17 = 0) (h6 : σ 8 0 6 = 0) (h7 : σ 8 0 7 = 0) : Rr g (rMem σ) := by
  refine ⟨hG, fun f hf => ?_, fun K h9 h14 j hj => ?_, by rw [w16, rMem_86 h6]; rfl, by rw [w17, rMem_87 h7]; rfl⟩
  · match f, hf with
    | 0, _ => exact rMem_80
    | 1, _ => exact rMem_81
    | 2, _ => exact rMem_82
    | 3, _ => exact rMem_83
    | 4, _ => exact rMem_84
    | 5, _ => exact rMem_85
  · rcases r_K h9 h14 with rfl | rfl | rfl | rfl | rfl | rfl
    · exact rMem_t9 hj
    · simp only [rTn, w16] at hj; exact absurd hj (Nat.not_lt_zero _)
    · simp only [rTn, w17] at hj; exact absurd hj (Nat.not_lt_zero _)
    · exact rMem_t12 hj
    · exact rMem_t13 hj
    · exact rMem_t14 hj
