def mOrdE (σ : Mem) (a b c d : Int32) : Int32 := if mZo a = true then (if mZo b = true then (if mIn c 1 8 = true then (if mIn d (σ 8 0 1) 9999 = true then (if σ 8 0 15 = 60 then 3 else 0) else 2) else 2) else 1) else 1
def mOrdT (σ : Mem) (o : Nat) (a b c d : Int32) : Mem := gst (gst (gst (gst (gst (gst (gst (gst σ 9 9 (8 * o + 0) a) 9 9 (8 * o + 1) b) 9 9 (8 * o + 2) c) 9 9 (8 * o + 3) d) 9 9 (8 * o + 4) 0) 9 9 (8 * o + 5) (-1)) 9 9 (8 * o + 6) (-1)) 9 9 (8 * o + 7) (-1)
def mOrdNew (σ : Mem) (o : Nat) (a b c d : Int32) : Mem := gst (mOrdT σ o a b c d) 8 0 15 (nI (o + 1))
def mSaid (σ : Mem) (n9 : Nat) (a b c d : Int32) : Mem := gst (gst (gst (gst (gst (gst (gst (gst (gFre σ 9 n9) 9 n9 0 a) 9 n9 1 b) 9 n9 2 c) 9 n9 3 d) 9 n9 4 0) 9 n9 5 (-1)) 9 n9 6 (-1)) 9 n9 7 (-1)
theorem gst_nki {σ : Mem} {K I f : Nat} {v : Int32} {k i f' : Nat} (h : ¬ (k = K ∧ i = I)) : gst σ K I f v k i f' = σ k i f' := by
  unfold gst
  rw [if_neg (fun z => h ⟨z.1, z.2.1⟩)]
theorem said_o {σ : Mem} {n9 : Nat} {a b c d : Int32} {k i f : Nat} (h : ¬ (k = 9 ∧ i = n9)) : mSaid σ n9 a b c d k i f = σ k i f := by
  unfold mSaid
  rw [gst_nki h, gst_nki h, gst_nki h, gst_nki h, gst_nki h, gst_nki h, gst_nki h, gst_nki h, gFre_app, if_neg h]
theorem ordT_o {σ : Mem} {o : Nat} {a b c d : Int32} {k i f : Nat} (h : ¬ (k = 9 ∧ i = 9)) : mOrdT σ o a b c d k i f = σ k i f := by
  unfold mOrdT
  rw [gst_nki h, gst_nki h, gst_nki h, gst_nki h, gst_nki h, gst_nki h, gst_nki h, gst_nki h]
theorem ordT_f {σ : Mem} {o : Nat} {a b c d : Int32} {f : Nat} (h : ¬ (8 * o ≤ f ∧ f < 8 * o + 8)) : mOrdT σ o a b c d 9 9 f = σ 9 9 f := by
  unfold mOrdT
  rw [gst_nf (by omega), gst_nf (by omega), gst_nf (by omega), gst_nf (by omega), gst_nf (by omega), gst_nf (by omega), gst_nf (by omega), gst_nf (by omega)]
theorem ord_in {σ : Mem} {o n9 : Nat} {a b c d : Int32} : ∀ j, j < 8 → mSaid σ n9 a b c d 9 n9 j = mOrdT σ o a b c d 9 9 (8 * o + j)
  | 0, _ => by simp [mSaid, mOrdT, gst_app]
  | 1, _ => by simp [mSaid, mOrdT, gst_app]
  | 2, _ => by simp [mSaid, mOrdT, gst_app]
  | 3, _ => by simp [mSaid, mOrdT, gst_app]
  | 4, _ => by simp [mSaid, mOrdT, gst_app]
  | 5, _ => by simp [mSaid, mOrdT, gst_app]
  | 6, _ => by simp [mSaid, mOrdT, gst_app]
  | 7, _ => by simp [mSaid, mOrdT, gst_app]
  | j + 8, h => absurd h (by omega)
theorem ord_cop {σ : Mem} {o n9 : Nat} {a b c d : Int32} (h12 : 12 ≤ n9) (k i f : Nat) (h : k ≠ 9 ∨ i < 12) : gCop (mSaid σ n9 a b c d) n9 9 0 (8 * o) 8 k i f = mOrdT σ o a b c d k i f := by
  have hs : ¬ (k = 9 ∧ i = n9) := fun z => by rcases h with h | h; exact h z.1; omega
  unfold gCop
  by_cases e : k = 9 ∧ i = 9
  · obtain ⟨rfl, rfl⟩ := e
    by_cases c : 8 * o ≤ f ∧ f < 8 * o + 8
    · rw [if_pos ⟨rfl, rfl, c⟩]
      obtain ⟨j, rfl⟩ : ∃ j, f = 8 * o + j := ⟨f - 8 * o, by omega⟩
      rw [show 0 + (8 * o + j - 8 * o) = j by omega]
      exact ord_in j (by omega)
    · rw [if_neg (fun z => c z.2.2), said_o hs, ordT_f c]
  · rw [if_neg (fun z => e ⟨z.1, z.2.1⟩), said_o hs, ordT_o e]
theorem ord_new {σ : Mem} {o n9 : Nat} {a b c d : Int32} (h12 : 12 ≤ n9) (k i f : Nat) (h : k ≠ 9 ∨ i < 12) : gst (gCop (mSaid σ n9 a b c d) n9 9 0 (8 * o) 8) 8 0 15 (nI (o + 1)) k i f = mOrdNew σ o a b c d k i f := by
  rw [mOrdNew, gst_app, gst_app]
  split
  · rfl
  · exact ord_cop h12 k i f h
/-- what Mok says is of the rows 0 to 11 -/
theorem Mok.agree {g : gG} {σ σ' : Mem} (h : Mok g σ) (he : ∀ k i f, k ≠ 9 ∨ i < 12 → σ' k i f = σ k i f) : Mok g σ' := by
  obtain ⟨h1, h2, h3, h4, h5, h6, h7⟩ := h
  have eC : mC σ' = mC σ := by unfold mC; rw [he _ _ _ (Or.inl (by decide))]
  have eO : mO σ' = mO σ := by unfold mO; rw [he _ _ _ (Or.inl (by decide))]
  refine ⟨h1, fun f' i hr => ?_, ?_, ?_, h5, fun c hc => ?_, fun o ho => ?_⟩
  · rw [he _ _ _ (Or.inl (by decide))]; exact h2 f' i hr
  · rw [eC, he _ _ _ (Or.inl (by decide))]; exact h3
  · rw [eO, he _ _ _ (Or.inl (by decide))]; exact h4
  · rw [he _ _ _ (Or.inr (by decide))]; exact h6 c hc
  · rw [he _ _ _ (Or.inr (by decide)), he _ _ _ (Or.inr (by decide))]; exact h7 o ho
theorem Mok.world {g g' : gG} {σ : Mem} {q n : Nat} (h : Mok g σ) (hg : g' = gAdd g 9 q n) (h9 : gcn g 9 < 100) : Mok g' σ := by
  subst hg
  obtain ⟨⟨a1, a2, a3, a4, a5, a6, a7⟩, h2, h3, h4, h5, h6⟩ := h
  have e : ∀ i, i < 12 → gln (gAdd g 9 q n) 9 i = gln g 9 i := fun i hi => by rw [gAdd_ln, if_neg (fun z => by have := z.2; omega)]
  refine ⟨⟨?_, ?_, ?_, fun i hi hj => ?_, ?_, ?_, ?_⟩, h2, h3, h4, ?_, h6⟩
  · rw [gAdd_cn, if_neg (by decide)]; exact a1
  · rw [gAdd_cn, if_pos rfl]; omega
  · rw [e 0 (by decide)]; exact a3
  · rw [e i (by omega)]; exact a4 i hi hj
  · rw [e 9 (by decide)]; exact a5
  · rw [e 10 (by decide)]; exact a6
  · rw [e 11 (by decide)]; exact a7
  · rw [gAdd_cn, if_pos rfl]; omega
theorem Mok.ordT {g : gG} {σ : Mem} {o : Nat} {a b c d : Int32} (h : Mok g σ) (ha : mZ a) (hb : mZ b) : Mok g (mOrdT σ o a b c d) := by
  have hx : Mok g (gst (gst σ 9 9 (8 * o + 0) a) 9 9 (8 * o + 1) b) := by
    obtain ⟨h1, h2, h3, h4, h5, h6, h7⟩ := h
    have e : ∀ f', gst (gst σ 9 9 (8 * o + 0) a) 9 9 (8 * o + 1) b 8 0 f' = σ 8 0 f' := fun f' => by rw [gst_nk (by decide), gst_nk (by decide)]
    have eC : mC (gst (gst σ 9 9 (8 * o + 0) a) 9 9 (8 * o + 1) b) = mC σ := by unfold mC; rw [e 5]
    have eO : mO (gst (gst σ 9 9 (8 * o + 0) a) 9 9 (8 * o + 1) b) = mO σ := by unfold mO; rw [e 15]
    refine ⟨h1, fun f' i hr => ?_, ?_, ?_, h5, fun c hc => ?_, fun o' ho => ?_⟩
    · rw [e f']; exact h2 f' i hr
    · rw [eC, e 5]; exact h3
    · rw [eO, e 15]; exact h4
    · rw [gst_ni (by decide), gst_ni (by decide)]; exact h6 c hc
    · by_cases e9 : o' = o
      · subst e9
        refine ⟨?_, ?_⟩
        · rw [gst_nf (by omega), show 8 * o' = 8 * o' + 0 from rfl, gst_eq]; exact ha
        · rw [gst_eq]; exact hb
      · rw [gst_nf (by omega), gst_nf (by omega), gst_nf (by omega), gst_nf (by omega)]; exact h7 o' ho
  exact (((((hx.stT (by decide)).stT (by decide)).stT (by decide)).stT (by decide)).stT (by decide)).stT (by decide)
theorem Mok.inc {g : gG} {σ : Mem} {n : Nat} (h : Mok g σ) (hn : n ≤ 60) : Mok g (gst σ 8 0 15 (nI n)) := by
  obtain ⟨h1, h2, h3, h4, h5, h6, h7⟩ := h
  have e : ∀ f', f' ≠ 15 → gst σ 8 0 15 (nI n) 8 0 f' = σ 8 0 f' := fun f' h' => gst_nf h'
  have eC : mC (gst σ 8 0 15 (nI n)) = mC σ := by unfold mC; rw [e 5 (by decide)]
  have eO : mO (gst σ 8 0 15 (nI n)) = n := by unfold mO; rw [gst_eq, ix_nI (by omega)]
  refine ⟨h1, fun f' i hr => ?_, ?_, ?_, h5, fun c hc => ?_, fun o ho => ?_⟩
  · rw [e f' (by rintro rfl; cases hr)]; exact h2 f' i hr
  · rw [eC, e 5 (by decide)]; exact h3
  · rw [eO, gst_eq]; exact ⟨rfl, hn⟩
  · rw [gst_nk (by decide)]; exact h6 c hc
  · rw [gst_nk (by decide), gst_nk (by decide)]; exact h7 o ho
theorem mO_lt60 {g : gG} {σ : Mem} (h : Mok g σ) (hc : ¬ σ 8 0 15 = 60) : mO σ < 60 := by
  have h1 := h.o60
  rcases Nat.lt_or_ge (mO σ) 60 with z | z
  · exact z
  · exact absurd (by rw [h.eO, show mO σ = 60 by omega]; rfl) hc
theorem nI_s1 {n : Nat} : nI (n + 1) - 1 = nI n := by
  have k := pk_sub (a := n + 1) (b := 1) (by omega)
  exact k
set_option maxHeartbeats 4000000 in
set_option maxRecDepth 100000 in
theorem c_X3_order (l : Launch) (g : gG) (σ : Mem) (w : Int64) (a b c d : Int32) (hF : Mf g σ) (h9 : gcn g 9 < 100) : Met l yX3_order wsX3_order ({ frames := 4, cells := 1, slots := 8, locals := 100 } : Room) (gPc g σ w [.ref (gad g 8 0), .int (a), .int (b), .int (c), .int (d)]) (gE g (fun v H => (¬ mOrdE (gst σ 8 0 0 0) a b c d = 0 ∧ v = some (.int 0) ∧ GW g (gst (gst σ 8 0 0 0) 8 0 0 (mOrdE (gst σ 8 0 0 0) a b c d)) w H) ∨ (mOrdE (gst σ 8 0 0 0) a b c d = 0 ∧ v = some (.int (nI (mO (gst σ 8 0 0 0)))) ∧ ∃ (q : Nat) (g2 : gG) (σ2 : Mem), g2 = gAdd g 9 q 8 ∧ Mok g2 σ2 ∧ (∀ k i f, k ≠ 9 ∨ i < 12 → σ2 k i f = mOrdNew (gst σ 8 0 0 0) (mO (gst σ 8 0 0 0)) a b c d k i f) ∧ GW g2 (mOA σ2) w H))) 1 8 (gA g) := by
  refine gx_ofW (cc := cX3_order) (maxL := 7) (ret := (some .int)) (by decide) rfl (Nat.le_of_ble_eq_true rfl) ?_
  intro p e s m below meth c0 hx hb hr hml hts hown hlocks hin hG hZ hS ls hl
  have hown : s.vm.findClass RX3 = some m.cls := hown
  have hl : lv_has ls 7 [(0, .ref (gad g 8 0)), (1, .int (a)), (2, .int (b)), (3, .int (c)), (4, .int (d))] := hl
  have k1 := hts (.fieldLink RX3 53 "TaxiRankModel" "thrown" "I") (by decide +kernel)
  have k2 := hts (.fieldLink RX3 121 "TaxiRankModel" "now" "I") (by decide +kernel)
  have k3 := hts (.fieldLink RX3 63 "TaxiRankModel" "orders" "I") (by decide +kernel)
  have k4 := hts (.arrayClass .int) (by decide +kernel)
  have k5 := hts (.fieldLink RX3 44 "TaxiRankModel" "table" "[I") (by decide +kernel)
  have k6 := hts (.methodLink RX3 127 arraycopyName) (by decide +kernel)
  have k7 := hts (.native arraycopyName) (by decide +kernel)
  have k8 := hts (.static arraycopyName) (by decide +kernel)
  have k9 := hts (.initialized "java/lang/System") (by decide +kernel)
  have hM := hF.1
  have hc10 := hM.c10
  have ho60 := hM.o60
  refine lv_aload_n hx hb dX3_order_0 rfl (lv_at hl 0 rfl) ?_
  refine lv_iconst (v := 0) hx hb dX3_order_1 (by decide) ?_
  refine gx_put hx hb hown hZ hG hS 8 0 0 (0) hM.b8 rfl (by decide) k1 (fun _ h => h) rfl rfl trivial rfl rfl dX3_order_2 (fun H locs hG hS => ?_)
  have hM := hM.st8 (f := 0) (v := 0) rfl
  have hF := hF.thr (v := 0)
  obtain ⟨σ0, hσ0⟩ : ∃ z : Mem, z = gst σ 8 0 0 0 := ⟨_, rfl⟩
  rw [← hσ0] at hG hF
  rw [← hσ0]
  have hM := hF.1
  have hc10 := hM.c10
  have ho60 := hM.o60
  refine lv_iload_n hx hb dX3_order_5 rfl (lv_at hl 1 rfl) ?_
  refine gx_cR (gx_runS (As := [.int (a)]) (rest := []) ⟨hx, hb, hml, hown, hts⟩ (c_X3_isZone l g σ0 w a) (va_cwS 1 hts gX3_order_X3_isZone rfl rfl rfl (by decide +kernel) ⟨Nat.le_of_ble_eq_true rfl, Nat.le_of_ble_eq_true rfl⟩) hZ hG hS rfl hl.1 rfl (Nat.le_of_ble_eq_true rfl) dX3_order_6 ⟨Nat.le_of_ble_eq_true rfl, Nat.le_of_ble_eq_true rfl⟩) ?_
  refine lv_if_eq (tgt := 19) hx hb dX3_order_9 (by decide) (fun c_1 => ?_) (fun c_1 => ?_)
  · skip
    have c_1 := bI_eq0.mp c_1
    refine lv_aload_n hx hb dX3_order_19 rfl (lv_at hl 0 rfl) ?_
    refine lv_iconst (v := 1) hx hb dX3_order_20 (by decide) ?_
    refine gx_cM (gx_runV (As := [.int (1)]) (rest := []) ⟨hx, hb, hml, hown, hts⟩ (c_X3_fail l g σ0 w 1 hM) (cwV 1 hts gX3_order_X3_fail rfl rfl rfl (by decide +kernel) ⟨Nat.le_of_ble_eq_true rfl, Nat.le_of_ble_eq_true rfl⟩) (gx_obj hZ hG 8 0 hM.b8 rfl) hZ hG hS rfl hl.1 rfl (Nat.le_of_ble_eq_true rfl) dX3_order_21 ⟨Nat.le_of_ble_eq_true rfl, Nat.le_of_ble_eq_true rfl⟩) hS (fun H locs hG hS hsz => ?_)
    have hE9 : mOrdE σ0 a b c d = 1 := (by unfold mOrdE; (try first | rw [if_pos c_1] | rw [if_neg c_1] | rw [if_neg (ne_true_of_eq_false c_1)]); try rfl)
    exact gx_iretE hx hb hr hlocks hS (Or.inl ⟨by rw [hE9]; decide, rfl, by rw [hE9]; exact hG⟩) (Nat.le_of_ble_eq_true rfl) (Nat.le_of_ble_eq_true rfl) dX3_order_24
  · skip
    have c_1 := bI_ne0.mp c_1
    refine lv_iload_n hx hb dX3_order_12 rfl (lv_at hl 2 rfl) ?_
    refine gx_cR (gx_runS (As := [.int (b)]) (rest := []) ⟨hx, hb, hml, hown, hts⟩ (c_X3_isZone l g σ0 w b) (va_cwS 1 hts gX3_order_X3_isZone rfl rfl rfl (by decide +kernel) ⟨Nat.le_of_ble_eq_true rfl, Nat.le_of_ble_eq_true rfl⟩) hZ hG hS rfl hl.1 rfl (Nat.le_of_ble_eq_true rfl) dX3_order_13 ⟨Nat.le_of_ble_eq_true rfl, Nat.le_of_ble_eq_true rfl⟩) ?_
    refine lv_if_ne (tgt := 25) hx hb dX3_order_16 (by decide) (fun c_2 => ?_) (fun c_2 => ?_)
    · skip
      have c_2 := bI_ne0.mp c_2
      refine lv_iload_n hx hb dX3_order_25 rfl (lv_at hl 3 rfl) ?_
      refine lv_iconst (v := 1) hx hb dX3_order_26 (by decide) ?_
      refine lv_bipush (v := 8) hx hb dX3_order_27 (by decide) ?_
      refine gx_cR (gx_runS (As := [.int (c), .int (1), .int (8)]) (rest := []) ⟨hx, hb, hml, hown, hts⟩ (c_X3_isIn l g σ0 w c 1 8) (va_cwS 3 hts gX3_order_X3_isIn rfl rfl rfl (by decide +kernel) ⟨Nat.le_of_ble_eq_true rfl, Nat.le_of_ble_eq_true rfl⟩) hZ hG hS rfl hl.1 rfl (Nat.le_of_ble_eq_true rfl) dX3_order_29 ⟨Nat.le_of_ble_eq_true rfl, Nat.le_of_ble_eq_true rfl⟩) ?_
      refine lv_if_eq (tgt := 50) hx hb dX3_order_32 (by decide) (fun c_3 => ?_) (fun c_3 => ?_)
      · skip
        have c_3 := bI_eq0.mp c_3
        refine lv_aload_n hx hb dX3_order_50 rfl (lv_at hl 0 rfl) ?_
        refine lv_iconst (v := 2) hx hb dX3_order_51 (by decide) ?_
        refine gx_cM (gx_runV (As := [.int (2)]) (rest := []) ⟨hx, hb, hml, hown, hts⟩ (c_X3_fail l g σ0 w 2 hM) (cwV 1 hts gX3_order_X3_fail rfl rfl rfl (by decide +kernel) ⟨Nat.le_of_ble_eq_true rfl, Nat.le_of_ble_eq_true rfl⟩) (gx_obj hZ hG 8 0 hM.b8 rfl) hZ hG hS rfl hl.1 rfl (Nat.le_of_ble_eq_true rfl) dX3_order_52 ⟨Nat.le_of_ble_eq_true rfl, Nat.le_of_ble_eq_true rfl⟩) hS (fun H locs hG hS hsz => ?_)
        have hE9 : mOrdE σ0 a b c d = 2 := (by unfold mOrdE; (try first | rw [if_pos c_1] | rw [if_neg c_1] | rw [if_neg (ne_true_of_eq_false c_1)]); (try first | rw [if_pos c_2] | rw [if_neg c_2] | rw [if_neg (ne_true_of_eq_false c_2)]); (try first | rw [if_pos c_3] | rw [if_neg c_3] | rw [if_neg (ne_true_of_eq_false c_3)]); try rfl)
        exact gx_iretE hx hb hr hlocks hS (Or.inl ⟨by rw [hE9]; decide, rfl, by rw [hE9]; exact hG⟩) (Nat.le_of_ble_eq_true rfl) (Nat.le_of_ble_eq_true rfl) dX3_order_55
      · skip
        have c_3 := bI_ne0.mp c_3
        refine lv_iload hx hb dX3_order_35 (lv_at hl 4 rfl) ?_
        refine lv_aload_n hx hb dX3_order_37 rfl (lv_at hl 0 rfl) ?_
        refine gx_get hx hb hown hZ hG 8 0 1 hM.b8 rfl (by decide) k2 (fun _ h => h) (v := .int (σ0 8 0 1)) rfl dX3_order_38 ?_
        refine lv_sipush (v := 9999) hx hb dX3_order_41 (by decide) ?_
        refine gx_cR (gx_runS (As := [.int (d), .int (σ0 8 0 1), .int (9999)]) (rest := []) ⟨hx, hb, hml, hown, hts⟩ (c_X3_isIn l g σ0 w d (σ0 8 0 1) 9999) (va_cwS 3 hts gX3_order_X3_isIn rfl rfl rfl (by decide +kernel) ⟨Nat.le_of_ble_eq_true rfl, Nat.le_of_ble_eq_true rfl⟩) hZ hG hS rfl hl.1 rfl (Nat.le_of_ble_eq_true rfl) dX3_order_44 ⟨Nat.le_of_ble_eq_true rfl, Nat.le_of_ble_eq_true rfl⟩) ?_
        refine lv_if_ne (tgt := 56) hx hb dX3_order_47 (by decide) (fun c_4 => ?_) (fun c_4 => ?_)
        · skip
          have c_4 := bI_ne0.mp c_4
          refine lv_aload_n hx hb dX3_order_56 rfl (lv_at hl 0 rfl) ?_
          refine gx_get hx hb hown hZ hG 8 0 15 hM.b8 rfl (by decide) k3 (fun _ h => h) (v := .int (σ0 8 0 15)) rfl dX3_order_57 ?_
          refine lv_bipush (v := 60) hx hb dX3_order_60 (by decide) ?_
          refine lv_icmp_ne (tgt := 71) hx hb dX3_order_62 (by decide) (fun c_5 => ?_) (fun c_5 => ?_)
          · skip
            have hE9 : mOrdE σ0 a b c d = 0 := (by unfold mOrdE; (try first | rw [if_pos c_1] | rw [if_neg c_1] | rw [if_neg (ne_true_of_eq_false c_1)]); (try first | rw [if_pos c_2] | rw [if_neg c_2] | rw [if_neg (ne_true_of_eq_false c_2)]); (try first | rw [if_pos c_3] | rw [if_neg c_3] | rw [if_neg (ne_true_of_eq_false c_3)]); (try first | rw [if_pos c_4] | rw [if_neg c_4] | rw [if_neg (ne_true_of_eq_false c_4)]); (try first | rw [if_pos c_5] | rw [if_neg c_5] | rw [if_neg (ne_true_of_eq_false c_5)]); try rfl)
            obtain ⟨o, ho⟩ : ∃ z, z = mO σ0 := ⟨_, rfl⟩
            have ho6 : o < 60 := by rw [ho]; exact mO_lt60 hM c_5
            have e15 : σ0 8 0 15 = nI o := by rw [ho]; exact hM.eO
            have hza : mZ a := mZo_z (by assumption)
            have hzb : mZ b := mZo_z (by assumption)
            refine lv_bipush (v := 8) hx hb dX3_order_71 (by decide) ?_
            obtain ⟨n9, hn9⟩ : ∃ z, z = gcn g 9 := ⟨_, rfl⟩
            have h12 := hM.1.2.1
            refine gx_newI hx hb k4 hZ hG hS 9 8 (by decide) (by omega) rfl (by decide) (Nat.le_of_ble_eq_true rfl) (Nat.le_of_ble_eq_true rfl) dX3_order_73 (fun q H hG hS1 hsz => ?_)
            rw [← hn9] at hG h12
            have hAA := gx_stA (g := g) (g' := gAdd g 9 q 8) rfl
            obtain ⟨g, hg⟩ : ∃ z : gG, z = gAdd g 9 q 8 := ⟨_, rfl⟩
            have hMw := hM.world hg h9
            rw [← hg] at hG hAA
            have hZ : ZZ g s := by rw [hg]; exact gx_stZ rfl rfl rfl hZ
            rw [← hAA] at hS1
            have hS := hS1
            have hn9b : n9 < gcn g 9 := by rw [hg, gAdd_cn, if_pos rfl, ← hn9]; exact Nat.lt_succ_self n9
            have hl8 : gln g 9 n9 = 8 := by rw [hg, gAdd_ln, if_pos ⟨rfl, hn9⟩]
            have hq : gad g 9 n9 = q := by rw [hg, gAdd_ad, if_pos ⟨rfl, hn9⟩]
            have hl : lv_has ls 7 [(0, .ref (gad g 8 0)), (1, .int (a)), (2, .int (b)), (3, .int (c)), (4, .int (d))] := by subst hg; exact hl
            have hM : Mok g (gFre σ0 9 n9) := hMw.agree (fun k i f h => by rw [gFre_app, if_neg]; rintro ⟨h1, h2⟩; rcases h with h | h; exact h h1; omega)
            have hMf := hM
            refine gx_topV (congrArg Value.ref hq.symm) ?_
            refine lv_dup hx hb dX3_order_75 rfl ?_
            refine lv_iconst (v := 0) hx hb dX3_order_76 (by decide) ?_
            refine lv_iload_n hx hb dX3_order_77 rfl (lv_at hl 1 rfl) ?_
            refine gx_astN hx hb hZ hG hS 9 n9 0 (by rfl) hn9b rfl rfl ⟨by rw [hl8]; decide, by decide⟩ rfl trivial dX3_order_78 (fun H locs hG hS => ?_)
            refine lv_dup hx hb dX3_order_79 rfl ?_
            refine lv_iconst (v := 1) hx hb dX3_order_80 (by decide) ?_
            refine lv_iload_n hx hb dX3_order_81 rfl (lv_at hl 2 rfl) ?_
            refine gx_astN hx hb hZ hG hS 9 n9 1 (by rfl) hn9b rfl rfl ⟨by rw [hl8]; decide, by decide⟩ rfl trivial dX3_order_82 (fun H locs hG hS => ?_)
            refine lv_dup hx hb dX3_order_83 rfl ?_
            refine lv_iconst (v := 2) hx hb dX3_order_84 (by decide) ?_
            refine lv_iload_n hx hb dX3_order_85 rfl (lv_at hl 3 rfl) ?_
            refine gx_astN hx hb hZ hG hS 9 n9 2 (by rfl) hn9b rfl rfl ⟨by rw [hl8]; decide, by decide⟩ rfl trivial dX3_order_86 (fun H locs hG hS => ?_)
            refine lv_dup hx hb dX3_order_87 rfl ?_
            refine lv_iconst (v := 3) hx hb dX3_order_88 (by decide) ?_
            refine lv_iload hx hb dX3_order_89 (lv_at hl 4 rfl) ?_
            refine gx_astN hx hb hZ hG hS 9 n9 3 (by rfl) hn9b rfl rfl ⟨by rw [hl8]; decide, by decide⟩ rfl trivial dX3_order_91 (fun H locs hG hS => ?_)
            refine lv_dup hx hb dX3_order_92 rfl ?_
            refine lv_iconst (v := 4) hx hb dX3_order_93 (by decide) ?_
            refine lv_iconst (v := 0) hx hb dX3_order_94 (by decide) ?_
            refine gx_astN hx hb hZ hG hS 9 n9 4 (by rfl) hn9b rfl rfl ⟨by rw [hl8]; decide, by decide⟩ rfl trivial dX3_order_95 (fun H locs hG hS => ?_)
            refine lv_dup hx hb dX3_order_96 rfl ?_
            refine lv_iconst (v := 5) hx hb dX3_order_97 (by decide) ?_
            refine lv_iconst (v := (-1)) hx hb dX3_order_98 (by decide) ?_
            refine gx_astN hx hb hZ hG hS 9 n9 5 (by rfl) hn9b rfl rfl ⟨by rw [hl8]; decide, by decide⟩ rfl trivial dX3_order_99 (fun H locs hG hS => ?_)
            refine lv_dup hx hb dX3_order_100 rfl ?_
            refine lv_bipush (v := 6) hx hb dX3_order_101 (by decide) ?_
            refine lv_iconst (v := (-1)) hx hb dX3_order_103 (by decide) ?_
            refine gx_astN hx hb hZ hG hS 9 n9 6 (by rfl) hn9b rfl rfl ⟨by rw [hl8]; decide, by decide⟩ rfl trivial dX3_order_104 (fun H locs hG hS => ?_)
            refine lv_dup hx hb dX3_order_105 rfl ?_
            refine lv_bipush (v := 7) hx hb dX3_order_106 (by decide) ?_
            refine lv_iconst (v := (-1)) hx hb dX3_order_108 (by decide) ?_
            refine gx_astN hx hb hZ hG hS 9 n9 7 (by rfl) hn9b rfl rfl ⟨by rw [hl8]; decide, by decide⟩ rfl trivial dX3_order_109 (fun H locs hG hS => ?_)
            refine lv_astore (lv' := [(5, .ref (gad g 9 n9)), (0, .ref (gad g 8 0)), (1, .int (a)), (2, .int (b)), (3, .int (c)), (4, .int (d))]) hx hb dX3_order_110 hl (by decide) rfl (fun ls hl => ?_)
            refine lv_aload hx hb dX3_order_112 (lv_at hl 0 rfl) ?_
            refine lv_iconst (v := 0) hx hb dX3_order_114 (by decide) ?_
            refine lv_aload_n hx hb dX3_order_115 rfl (lv_at hl 1 rfl) ?_
            refine gx_get hx hb hown hZ hG 8 0 16 hM.b8 rfl (by decide) k5 (fun _ h => h) (v := .ref (gad g 9 9)) (grf_j (hM.rf (f := 16) rfl) (by decide)) dX3_order_116 ?_
            refine lv_bipush (v := 8) hx hb dX3_order_119 (by decide) ?_
            refine lv_aload_n hx hb dX3_order_121 rfl (lv_at hl 1 rfl) ?_
            refine gx_get hx hb hown hZ hG 8 0 15 hM.b8 rfl (by decide) k3 (fun _ h => h) (v := .int ((gFre σ0 9 n9) 8 0 15)) (congrArg Value.int (by simp [gst_app])) dX3_order_122 ?_
            refine gx_topN (y := nI o) e15 ?_
            refine lv_imul hx hb dX3_order_125 ?_
            refine gx_topN (y := nI (8 * o)) (by rw [show (8 : Int32) = nI 8 from rfl, pk_mul]) ?_
            refine lv_bipush (v := 8) hx hb dX3_order_126 (by decide) ?_
            refine gx_copyI hx hb (hml.trans hl.1.symm) hown k6 k7 k8 k9 hZ hG hS n9 9 0 (8 * o) 8 hn9b (hMw.b9 (by decide)) rfl rfl rfl (by rw [hl8]; decide) (by rw [hMw.l9]; omega) (by rw [hl8]; decide) (by rw [hMw.l9]; decide) (Nat.le_of_ble_eq_true rfl) (Nat.le_of_ble_eq_true rfl) dX3_order_128 (fun H locs hG hS => ?_)
            have hM : Mok g (gCop (mSaid σ0 n9 a b c d) n9 9 0 (8 * o) 8) := (hMw.ordT hza hzb).agree (fun k i f h => ord_cop h12 k i f h)
            refine lv_aload_n hx hb dX3_order_131 rfl (lv_at hl 1 rfl) ?_
            refine lv_dup hx hb dX3_order_132 rfl ?_
            refine gx_get hx hb hown hZ hG 8 0 15 hM.b8 rfl (by decide) k3 (fun _ h => h) (v := .int ((gCop (mSaid σ0 n9 a b c d) n9 9 0 (8 * o) 8) 8 0 15)) rfl dX3_order_133 ?_
            refine gx_topN (y := nI o) e15 ?_
            refine lv_iconst (v := 1) hx hb dX3_order_136 (by decide) ?_
            refine lv_iadd hx hb dX3_order_137 ?_
            refine gx_topN (y := nI (o + 1)) (by rw [show (1 : Int32) = nI 1 from rfl, nI_add]) ?_
            refine gx_put hx hb hown hZ hG hS 8 0 15 (nI (o + 1)) hM.b8 rfl (by decide) k3 (fun _ h => h) rfl rfl trivial rfl rfl dX3_order_138 (fun H locs hG hS => ?_)
            have hM := hM.inc (n := o + 1) (by omega)
            refine lv_aload_n hx hb dX3_order_141 rfl (lv_at hl 1 rfl) ?_
            refine gx_get hx hb hown hZ hG 8 0 15 hM.b8 rfl (by decide) k3 (fun _ h => h) (v := .int (nI (o + 1))) (congrArg Value.int (by simp [gst_app])) dX3_order_142 ?_
            refine gx_topN (y := nI (o + 1)) rfl ?_
            refine lv_iconst (v := 1) hx hb dX3_order_145 (by decide) ?_
            refine lv_isub hx hb dX3_order_146 ?_
            refine gx_topN (y := nI o) nI_s1 ?_
            refine lv_istore (lv' := [(6, .int (nI o)), (5, .ref (gad g 9 n9)), (0, .ref (gad g 8 0)), (1, .int (a)), (2, .int (b)), (3, .int (c)), (4, .int (d))]) hx hb dX3_order_147 hl (by decide) rfl (fun ls hl => ?_)
            refine lv_aload_n hx hb dX3_order_149 rfl (lv_at hl 2 rfl) ?_
            have hM7 := hM
            refine gx_cM (gx_runV (As := []) (rest := []) ⟨hx, hb, hml, hown, hts⟩ (c_X3_offerAll l g (gst (gCop (mSaid σ0 n9 a b c d) n9 9 0 (8 * o) 8) 8 0 15 (nI (o + 1))) w hM) (cwV 0 hts gX3_order_X3_offerAll rfl rfl rfl (by decide +kernel) ⟨Nat.le_of_ble_eq_true rfl, Nat.le_of_ble_eq_true rfl⟩) (gx_obj hZ hG 8 0 hM.b8 rfl) hZ hG hS rfl hl.1 rfl (Nat.le_of_ble_eq_true rfl) dX3_order_150 ⟨Nat.le_of_ble_eq_true rfl, Nat.le_of_ble_eq_true rfl⟩) hS (fun H locs hG hS hsz => ?_)
            refine lv_iload hx hb dX3_order_153 (lv_at hl 0 rfl) ?_
            rw [hAA] at hS
            exact gx_iretE hx hb hr hlocks hS (Or.inr ⟨hE9, by rw [ho], q, g, _, hg, hM7, fun k i f h => by rw [← ho]; exact ord_new h12 k i f h, hG⟩) (Nat.le_of_ble_eq_true rfl) (Nat.le_of_ble_eq_true rfl) dX3_order_155
          · skip
            refine lv_aload_n hx hb dX3_order_65 rfl (lv_at hl 0 rfl) ?_
            refine lv_iconst (v := 3) hx hb dX3_order_66 (by decide) ?_
            refine gx_cM (gx_runV (As := [.int (3)]) (rest := []) ⟨hx, hb, hml, hown, hts⟩ (c_X3_fail l g σ0 w 3 hM) (cwV 1 hts gX3_order_X3_fail rfl rfl rfl (by decide +kernel) ⟨Nat.le_of_ble_eq_true rfl, Nat.le_of_ble_eq_true rfl⟩) (gx_obj hZ hG 8 0 hM.b8 rfl) hZ hG hS rfl hl.1 rfl (Nat.le_of_ble_eq_true rfl) dX3_order_67 ⟨Nat.le_of_ble_eq_true rfl, Nat.le_of_ble_eq_true rfl⟩) hS (fun H locs hG hS hsz => ?_)
            have hE9 : mOrdE σ0 a b c d = 3 := (by unfold mOrdE; (try first | rw [if_pos c_1] | rw [if_neg c_1] | rw [if_neg (ne_true_of_eq_false c_1)]); (try first | rw [if_pos c_2] | rw [if_neg c_2] | rw [if_neg (ne_true_of_eq_false c_2)]); (try first | rw [if_pos c_3] | rw [if_neg c_3] | rw [if_neg (ne_true_of_eq_false c_3)]); (try first | rw [if_pos c_4] | rw [if_neg c_4] | rw [if_neg (ne_true_of_eq_false c_4)]); (try first | rw [if_pos c_5] | rw [if_neg c_5] | rw [if_neg (ne_true_of_eq_false c_5)]); try rfl)
            exact gx_iretE hx hb hr hlocks hS (Or.inl ⟨by rw [hE9]; decide, rfl, by rw [hE9]; exact hG⟩) (Nat.le_of_ble_eq_true rfl) (Nat.le_of_ble_eq_true rfl) dX3_order_70
        · skip
          have c_4 := bI_eq0.mp c_4
          refine lv_aload_n hx hb dX3_order_50 rfl (lv_at hl 0 rfl) ?_
          refine lv_iconst (v := 2) hx hb dX3_order_51 (by decide) ?_
          refine gx_cM (gx_runV (As := [.int (2)]) (rest := []) ⟨hx, hb, hml, hown, hts⟩ (c_X3_fail l g σ0 w 2 hM) (cwV 1 hts gX3_order_X3_fail rfl rfl rfl (by decide +kernel) ⟨Nat.le_of_ble_eq_true rfl, Nat.le_of_ble_eq_true rfl⟩) (gx_obj hZ hG 8 0 hM.b8 rfl) hZ hG hS rfl hl.1 rfl (Nat.le_of_ble_eq_true rfl) dX3_order_52 ⟨Nat.le_of_ble_eq_true rfl, Nat.le_of_ble_eq_true rfl⟩) hS (fun H locs hG hS hsz => ?_)
          have hE9 : mOrdE σ0 a b c d = 2 := (by unfold mOrdE; (try first | rw [if_pos c_1] | rw [if_neg c_1] | rw [if_neg (ne_true_of_eq_false c_1)]); (try first | rw [if_pos c_2] | rw [if_neg c_2] | rw [if_neg (ne_true_of_eq_false c_2)]); (try first | rw [if_pos c_3] | rw [if_neg c_3] | rw [if_neg (ne_true_of_eq_false c_3)]); (try first | rw [if_pos c_4] | rw [if_neg c_4] | rw [if_neg (ne_true_of_eq_false c_4)]); try rfl)
          exact gx_iretE hx hb hr hlocks hS (Or.inl ⟨by rw [hE9]; decide, rfl, by rw [hE9]; exact hG⟩) (Nat.le_of_ble_eq_true rfl) (Nat.le_of_ble_eq_true rfl) dX3_order_55
    · skip
      have c_2 := bI_eq0.mp c_2
      refine lv_aload_n hx hb dX3_order_19 rfl (lv_at hl 0 rfl) ?_
      refine lv_iconst (v := 1) hx hb dX3_order_20 (by decide) ?_
      refine gx_cM (gx_runV (As := [.int (1)]) (rest := []) ⟨hx, hb, hml, hown, hts⟩ (c_X3_fail l g σ0 w 1 hM) (cwV 1 hts gX3_order_X3_fail rfl rfl rfl (by decide +kernel) ⟨Nat.le_of_ble_eq_true rfl, Nat.le_of_ble_eq_true rfl⟩) (gx_obj hZ hG 8 0 hM.b8 rfl) hZ hG hS rfl hl.1 rfl (Nat.le_of_ble_eq_true rfl) dX3_order_21 ⟨Nat.le_of_ble_eq_true rfl, Nat.le_of_ble_eq_true rfl⟩) hS (fun H locs hG hS hsz => ?_)
      have hE9 : mOrdE σ0 a b c d = 1 := (by unfold mOrdE; (try first | rw [if_pos c_1] | rw [if_neg c_1] | rw [if_neg (ne_true_of_eq_false c_1)]); (try first | rw [if_pos c_2] | rw [if_neg c_2] | rw [if_neg (ne_true_of_eq_false c_2)]); try rfl)
      exact gx_iretE hx hb hr hlocks hS (Or.inl ⟨by rw [hE9]; decide, rfl, by rw [hE9]; exact hG⟩) (Nat.le_of_ble_eq_true rfl) (Nat.le_of_ble_eq_true rfl) dX3_order_24
