section LAWO
variable {t B : Nat} {hs : Nat → Nat × Bool} {σ σ' μ : Mem} {g : gG}
theorem LI.arr (h : LI g hs t B σ) (hB : B < 2 ^ 31) (e : ∀ k i f, k ≤ 20 → σ' k i f = σ k i f) : LI g hs t B σ' := by
  obtain ⟨hX, hR, hP, hW, hA, hz⟩ := h
  have h0 : LI g hs t B σ := ⟨hX, hR, hP, hW, hA, hz⟩
  have hP2 : pR t (fun _ => 1) hs B σ' σ' := hP.congr (fun k i f hk => e k i f (by omega)) (fun k i f _ hk => e k i f hk)
  have eO : nO σ' = nO σ := nO_c (fun k i f hk => e k i f (by omega))
  have eC : nC σ' = nC σ := nC_c (fun k i f hk => e k i f (by omega))
  refine ⟨hX.cong (fun k i f hk => e k i f (by omega)), hR.cong (fun f _ => e 8 0 f (by decide)) (fun K j _ h14 => e K 0 j (by omega)), hP2, ?_, hA, fun o ho => hz o (by omega)⟩
  refine h0.nw hB hP2 eO (fun o ho hl => ?_) (fun o c ho hc hcan => ⟨by omega, ?_⟩)
  · unfold xLook at hl ⊢
    rw [e 7 o 5 (by decide), e 0 0 3 (by decide), e 7 o 4 (by decide)] at hl
    exact hl
  · rw [← hcan]
    unfold xCan xIdle xBit
    rw [e 6 c 3 (by decide), e 6 c 6 (by decide), e 6 c 1 (by decide), e 7 o 3 (by decide), e 7 o 8 (by decide), e 6 c 0 (by decide)]
theorem le2_3 {x : Int32} (h : ¬ x ≤ 2) : 3 ≤ x := by
  rw [Int32.le_iff_toInt_le] at h ⊢
  have a : (2 : Int32).toInt = 2 := by decide
  have b : (3 : Int32).toInt = 3 := by decide
  omega
theorem oSt_3 {x : Int32} (h : oSt x) : 3 ≤ x := by
  rcases h with h | h | h <;> rw [h] <;> decide
def OF (g : gG) (hs : Nat → Nat × Bool) (t : Nat) (μ : Mem) (o d : Nat) : Prop := d ≤ 9999 ∧ μ 17 o 3 = nI d ∧ ¬ bcnt (μ 7 o 8) < bcnt (nI (hs o).1) ∧ bcnt (μ 7 o 8) ≤ nI (gcn g 16) ∧
    (μ 7 o 5 = 1 → ∃ c a1, c < gcn g 6 ∧ c < gcn g 16 ∧ xOrdDet μ o 1 = nI c ∧ μ 19 o c = 0 ∧ ¬ μ 6 c 1 < μ 17 o 2 ∧ μ 16 c 4 = nI a1 ∧ a1 ≤ t ∧ t ≤ a1 + 1 ∧ d ≤ t + 15) ∧
    (μ 7 o 5 = 0 → ¬ nI t < nI d - 15 → ∀ c, c < gcn g 16 → ¬ (μ 6 c 3 = 1 ∧ xCabDet μ c 3 < 0 ∧ ¬ μ 6 c 1 < μ 17 o 2 ∧ μ 19 o c = 0)) ∧
    (μ 7 o 9 = -1 ∨ ∃ b1, μ 7 o 9 = nI b1 ∧ d ≤ b1 ∧ b1 ≤ t) ∧ (μ 7 o 5 = 4 → μ 7 o 9 < μ 7 o 10) ∧ ((hs o).2 = true → oSt (μ 7 o 5)) ∧ (¬ μ 7 o 5 ≤ 2 → oSt (μ 7 o 5))
theorem LI.ordF (h : LI g hs t B μ) (hB : B < 2 ^ 31) {o : Nat} (ho : o < nO μ) : ∃ d, OF g hs t μ o d := by
  have hP := h.2.2.1
  have h10 := hP.c10
  have h60 := hP.o60
  have t9 := hP.t9
  have e16 := hP.cC h.2.1
  have e6 := h.1.eC
  obtain ⟨⟨-, e1, -, e3, e4, e5, e66⟩, -⟩ := hP.ord ho
  obtain ⟨⟨x, ex, hx, hxh⟩, hbits, hst⟩ := hP.bit ho
  obtain ⟨d, hd, ed, h9, h4⟩ := hP.tim ho
  refine ⟨d, hd, e4.symm.trans ed, ?_, ?_, fun q => ?_, fun q hl c hc hh => ?_, h9, fun q => ?_, hst, fun q => ?_⟩
  · rw [ex]
    exact bcnt_mono (Nat.lt_of_lt_of_le hx (Nat.pow_le_pow_right (n := 2) (j := 10) (by decide) h10)) hxh
  · rw [ex, ← e16]
    exact bcnt_le h10 hx
  · obtain ⟨c, hc, q6, q7, q3⟩ := hP.linked ho (Or.inl q)
    obtain ⟨-, hL⟩ := hP.lc hc (by omega) q6
    obtain ⟨a', d', -, ha, ha2, ea, ed', hd', hseat, hr⟩ := hL.s1 (q3.trans q)
    obtain rfl : d' = d := nI_inj (by omega) (by omega) (ed'.symm.trans ed)
    refine ⟨c, a', by omega, by omega, ?_, hr, by rw [← e3]; exact hseat, ea, ha, ha2, hd'⟩
    unfold xOrdDet
    rw [if_neg (by decide), if_pos rfl, q7, if_neg (nI_nm (by omega)), ix_nI (by omega)]
    exact (hP.cab hc).1
  · obtain ⟨q3, qn, qs, qr⟩ := hh
    have hc' : c < nC μ := by omega
    have h66 : μ 6 c 6 = -1 := by
      by_cases z : μ 6 c 6 = -1
      · exact z
      · obtain ⟨o', ho', eo', eix, -⟩ := hP.of6 hc' z
        exfalso
        unfold xCabDet at qn
        rw [if_neg (by decide), if_neg (by decide), if_neg (by decide), if_pos rfl, if_neg z, eix, (hP.ord ho').1.1] at qn
        exact nI_pos (by omega) qn
    have hcan : xCan μ o c = true := (hP.can ho hc' q3).mpr ⟨(hP.m1 hc').mpr h66, by rw [← (hP.cab hc').2.1]; exact qs, qr⟩
    have hlook : xLook μ o = true := by
      unfold xLook
      rw [if_pos q, hP.now, ed, if_neg hl]
    rcases (hP.cf hB ho).2 with ⟨-, z⟩ | ⟨c', z, hc2, -⟩
    · exact z c hc' hcan
    · exact h.2.2.2.1 o ho ⟨hlook, by rw [z]; exact nI_nm (by omega)⟩
  · obtain ⟨b, e, hb1, hb2, hbe, he⟩ := h4 q
    rw [hb1, hb2]
    exact nI_lt hbe (by omega)
  · rcases hP.l2 ho with ⟨z, -⟩ | ⟨c, hc, q6, q7⟩ | z | z
    · rw [z] at q; exact absurd (by decide) q
    · obtain ⟨-, hL⟩ := hP.lc hc (by omega) q6
      rcases hP.state hc with z | z | z | z
      · rw [hL.2.1, z] at q; exact absurd (by decide) q
      · rw [hL.2.1, z] at q; exact absurd (by decide) q
      · rw [hL.2.1, z] at q; exact absurd (by decide) q
      · exact Or.inl (hL.2.1.trans z)
    · exact Or.inr (Or.inl z)
    · exact Or.inr (Or.inr z)
/-- the law's two arrays, as orders up to o are looked at */ -/
def IA (hs : Nat → Nat × Bool) (o : Nat) (μ : Mem) : Prop := ∀ j, j < 60 → (j < o → μ 21 0 j = bcnt (μ 7 j 8) ∧ (¬ μ 22 0 j ≤ 2 → oSt (μ 7 j 5))) ∧ (o ≤ j → μ 21 0 j = bcnt (nI (hs j).1) ∧ (¬ μ 22 0 j ≤ 2 → (hs j).2 = true))
theorem IA.step {o d : Nat} (h : IA hs o μ) (ho : o < 60) (hF : OF g hs t μ o d) : IA hs (o + 1) (gst (gst μ 21 0 o (bcnt (μ 7 o 8))) 22 0 o (if μ 22 0 o < μ 7 o 5 then μ 7 o 5 else μ 22 0 o)) := by
  intro j hj
  obtain ⟨a, b⟩ := h j hj
  have e7 : ∀ f, gst (gst μ 21 0 o (bcnt (μ 7 o 8))) 22 0 o (if μ 22 0 o < μ 7 o 5 then μ 7 o 5 else μ 22 0 o) 7 j f = μ 7 j f := fun f => by rw [gst_nk (by decide), gst_nk (by decide)]
  by_cases e : j = o
  · subst e
    refine ⟨fun _ => ?_, fun q => absurd q (by omega)⟩
    rw [e7, e7, gst_nk (by decide), gst_eq, gst_eq]
    refine ⟨rfl, fun q => ?_⟩
    split at q
    · exact hF.2.2.2.2.2.2.2.2.2 q
    · exact hF.2.2.2.2.2.2.2.2.1 ((b (Nat.le_refl _)).2 q)
  · rw [e7, e7, gst_nk (by decide), gst_nf e, gst_nf e, gst_nk (by decide)]
    exact ⟨fun q => a (by omega), fun q => b (by omega)⟩
end LAWO
section LAWP
variable {p : Program} {e : Env} {s : State} {m : MethodId} {args : Array Value} {below : List Frame} {meth : Method} {c0 : Code} {H : Heap} {locs : List Loc} {Q : State → Prop} {ls : Array Slot} {g : gG} {σ μ : Mem} {w : Int64} {hs : Nat → Nat × Bool} {t B b : Nat} {cells slots : Nat}
abbrev lwO (b : Nat) (g : gG) (i : Nat) (x : Int32) (o : Nat) : List (Nat × Value) := [(0, .ref b), (1, .ref (gad g 0 0)), (2, .ref (gad g 8 0)), (3, .ref (gad g 21 0)), (4, .ref (gad g 22 0)), (5, .int (nI i)), (6, .int x), (7, .int (nI o))]
theorem law_Cl (l : Launch) (hl0 : l.stackTraces = false) (C : LC p s m c0 args) (hZ : ZZ g s) (hG : GW g μ w H) (hS : va_S (gA g) s.heap H locs) (hX : Xok g μ) (hR : Rr g μ) (hA : LA g) {o i d : Nat} {x sv : Int32} (hog : o < gcn g 7) (hog17 : o < gcn g 17) (ho60 : o < 60) (e66 : gcn g 6 = gcn g 16)
    (hno : ∀ c, c < gcn g 16 → ¬ (μ 6 c 3 = 1 ∧ xCabDet μ c 3 < 0 ∧ ¬ μ 6 c 1 < μ 17 o 2 ∧ μ 19 o c = 0)) :
    ∀ (r c cells slots : Nat) (ls : Array Slot), c + r = gcn g 16 → (cells + 6 * r + 100 ≤ 600104 ∧ slots + 36 * r + 600 ≤ 7301314) → lv_has ls 11 [(0, .ref b), (1, .ref (gad g 0 0)), (2, .ref (gad g 8 0)), (3, .ref (gad g 21 0)), (4, .ref (gad g 22 0)), (5, .int (nI i)), (6, .int x), (7, .int (nI o)), (8, .int sv), (9, .int (nI d)), (10, .int (nI c))] →
    (∀ ls : Array Slot, lv_has ls 11 [(0, .ref b), (1, .ref (gad g 0 0)), (2, .ref (gad g 8 0)), (3, .ref (gad g 21 0)), (4, .ref (gad g 22 0)), (5, .int (nI i)), (6, .int x), (7, .int (nI o)), (8, .int sv), (9, .int (nI d))] → W p l e room_1 s m args below meth c0 H locs (cells + 6 * r) (slots + 36 * r) Q (F0 m 310 ls [])) →
    W p l e room_1 s m args below meth c0 H locs cells slots Q (F0 m 240 ls []) := by
  have h10 := hR.c10
  intro r
  induction r with
  | zero =>
    intro c cells slots ls hc hroom hl kk
    refine law_C1 l hl0 C hZ hG hS hX hR hA hog hog17 ho60 e66 (hno c) (by omega) ⟨by omega, by omega⟩ hl (fun hge ls hl => ?_) (fun hlt ls hl => absurd hlt (by omega))
    exact W.widen (by omega) (by omega) (kk ls hl)
  | succ r ih =>
    intro c cells slots ls hc hroom hl kk
    refine law_C1 l hl0 C hZ hG hS hX hR hA hog hog17 ho60 e66 (hno c) (by omega) ⟨by omega, by omega⟩ hl (fun hge ls hl => absurd hge (by omega)) (fun hlt ls hl => ?_)
    refine ih (c + 1) (cells + 6) (slots + 36) ls (by omega) ⟨by omega, by omega⟩ hl (fun ls hl => ?_)
    exact W.widen (by omega) (by omega) (kk ls hl)
set_option maxHeartbeats 1000000 in
theorem law_ord (l : Launch) (hl0 : l.stackTraces = false) (C : LC p s m c0 args) (hZ : ZZ g s) (hG : GW g μ w H) (hS : va_S (gA g) s.heap H locs) (h : LI g hs t B μ) (hB : B < 2 ^ 31) {o i : Nat} {x : Int32} (ho : o < nO μ) (hI : IA hs o μ) (hroom : cells + 200 ≤ 600104 ∧ slots + 1200 ≤ 7301314) (hl : lv_has ls 11 (lwO b g i x o))
    (kk : ∀ (H : Heap) (locs : List Loc) (ls : Array Slot) (μ' : Mem), (∀ k i f, k ≤ 20 → μ' k i f = μ k i f) → LI g hs t B μ' → IA hs (o + 1) μ' → GW g μ' w H → va_S (gA g) s.heap H locs → lv_has ls 11 (lwO b g i x (o + 1)) → W p l e room_1 s m args below meth c0 H locs (cells + 90) (slots + 540) Q (F0 m 71 ls [])) :
    W p l e room_1 s m args below meth c0 H locs cells slots Q (F0 m 80 ls []) := by
  have h60 := h.2.2.1.o60
  have h10 := h.2.2.1.c10
  have t9 := h.2.2.1.t9
  have e17 := h.2.2.1.cO h.2.1
  have e16 := h.2.2.1.cC h.2.1
  have e7 := h.1.eO
  have e6 := h.1.eC
  obtain ⟨d, hF⟩ := h.ordF hB ho
  have hA := h.2.2.2.2.1
  have hIo := (hI o (by omega)).2 (Nat.le_refl _)
  refine law_A l hl0 C hZ hG hS h.1 h.2.1 hA (by omega) (by omega) (by omega) (by rw [hIo.1]; exact hF.2.2.1) hF.2.2.2.1 hF.2.1 ⟨by omega, by omega⟩ hl (fun H locs ls hG hS hl => ?_)
  have hst := hI.step (t := t) (by omega) hF
  obtain ⟨μ1, hμ1⟩ : ∃ y, y = gst μ 21 0 o (bcnt (μ 7 o 8)) := ⟨_, rfl⟩
  rw [← hμ1] at hG hst
  have e1 : ∀ k i f, k ≤ 20 → μ1 k i f = μ k i f := fun k i f hk => by rw [hμ1, gst_nk (by omega)]
  have h1 := h.arr hB e1
  have eO1 : nO μ1 = nO μ := nO_c (fun k i f hk => e1 k i f (by omega))
  obtain ⟨d1, hF1⟩ := h1.ordF hB (o := o) (by omega)
  obtain rfl : d1 = d := nI_inj (by have := hF1.1; omega) (by have := hF.1; omega) (hF1.2.1.symm.trans ((e1 17 o 3 (by decide)).trans hF.2.1))
  have e75 : μ1 7 o 5 = μ 7 o 5 := e1 7 o 5 (by decide)
  have e22 : μ1 22 0 o = μ 22 0 o := by rw [hμ1, gst_nk (by decide)]
  have hd9 := hF.1
  obtain ⟨-, -, -, -, f1, f2, f3, f4, f5, f6⟩ := hF1
  rw [e75] at f1 f2 f4 f5 f6
  have et := h1.2.2.1.now
  refine law_B l hl0 C hZ hG hS h1.1 h1.2.1 hA (by omega) (by omega) (by omega) f1 hd9 t9 et ⟨by omega, by omega⟩ hl (fun ls hl => ?_)
  have k310 : ∀ ls : Array Slot, lv_has ls 11 [(0, .ref b), (1, .ref (gad g 0 0)), (2, .ref (gad g 8 0)), (3, .ref (gad g 21 0)), (4, .ref (gad g 22 0)), (5, .int (nI i)), (6, .int x), (7, .int (nI o)), (8, .int (μ 7 o 5)), (9, .int (nI d1))] → W p l e room_1 s m args below meth c0 H locs (cells + 75) (slots + 450) Q (F0 m 310 ls []) := by
    intro ls hl
    refine law_D l hl0 C hZ hG hS h1.1 h1.2.1 hA (by omega) (by omega) (by omega) f3 t9 et ⟨by omega, by omega⟩ hl (fun ls hl => ?_)
    refine law_E l hl0 C hZ hG hS h1.1 h1.2.1 hA (by omega) (by omega) (by omega) f4 ⟨by omega, by omega⟩ hl (fun ls hl => ?_)
    refine law_F l hl0 C hZ hG hS h1.1 h1.2.1 hA (by omega) (by omega) (by omega) (fun q => ?_) ⟨by omega, by omega⟩ hl (fun H locs ls hG hS hl => ?_)
    · split at q
      · exact le2_3 q
      · rw [e22] at q
        exact oSt_3 (f5 (hIo.2 q))
    · rw [e22] at hG
      have e2 : ∀ k i f, k ≤ 20 → gst μ1 22 0 o (if μ 22 0 o < μ 7 o 5 then μ 7 o 5 else μ 22 0 o) k i f = μ k i f := fun k i f hk => by rw [gst_nk (by omega)]; exact e1 k i f hk
      exact W.widen (by omega) (by omega) (kk H locs ls _ e2 (h.arr hB e2) hst hG hS hl)
  refine law_C0 l hl0 C hZ hG hS h1.1 h1.2.1 hA (by omega) (by omega) (by omega) et ⟨by omega, by omega⟩ hl (fun ls hl => ?_) (fun q0 ql ls hl => ?_)
  · exact W.widen (by omega) (by omega) (k310 ls hl)
  · refine law_Cl l hl0 C hZ hG hS h1.1 h1.2.1 hA (by omega) (by omega) (by omega) (by omega) (f2 q0 ql) (gcn g 16) 0 _ _ ls (by omega) ⟨by omega, by omega⟩ hl (fun ls hl => ?_)
    exact W.widen (by omega) (by omega) (k310 ls hl)
end LAWP
