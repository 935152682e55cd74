/-! worlds that grow: the Rank's structure beside its two counts -/
def Rw (g : gG) (σ : Mem) : Prop := RrG g ∧ ∀ f, f < 6 → σ 8 0 f = 0
section RW
variable {g : gG} {σ : Mem}
theorem Rw.k8 (h : Rw g σ) : 0 < gcn g 8 := by rw [h.1.1.1]; decide
theorem Rw.k1 (h : Rw g σ) (K : Nat) (h9 : 9 ≤ K) (h14 : K ≤ 14) : 0 < gcn g K := by rw [(h.1.1.2 K h9 h14).1]; decide
theorem Rw.tl (h : Rw g σ) (K : Nat) (h9 : 9 ≤ K) (h14 : K ≤ 14) : gln g K 0 = rTl K := (h.1.1.2 K h9 h14).2
theorem Rw.rf (h : Rw g σ) {f : Nat} (hf : f < 6) : σ 8 0 f = 0 := h.2 f hf
theorem Rw.ln (h : Rw g σ) (K : Nat) (h15 : 15 ≤ K) (h20 : K ≤ 20) {i : Nat} (hi : i < gcn g K) : gln g K i = rLn K := h.1.2.2 K h15 h20 i hi
theorem Rw.st (h : Rw g σ) {k i f : Nat} {v : Int32} (hk : 9 ≤ k) : Rw g (gst σ k i f v) := ⟨h.1, fun f hf => by rw [gst_nk (by omega)]; exact h.2 f hf⟩
theorem RrG.add {q k n : Nat} (h : RrG g) (hk : (k = 16 ∧ n = 5 ∧ gcn g 16 < 10) ∨ (k = 17 ∧ n = 10 ∧ gcn g 17 < 60)) : RrG (gAdd g k q n) := by
  have hc : ∀ K, K ≠ k → gcn (gAdd g k q n) K = gcn g K := fun K hK => by rw [gAdd_cn, if_neg hK]
  have hl : ∀ K i, ¬ (K = k ∧ i = gcn g k) → gln (gAdd g k q n) K i = gln g K i := fun K i hK => by rw [gAdd_ln, if_neg hK]
  obtain ⟨⟨g8, gK⟩, ⟨b15, b16, b17, b18, b19, b20⟩, bl⟩ := h
  refine ⟨⟨(hc 8 (by omega)).trans g8, fun K h9 h14 => ⟨(hc K (by omega)).trans (gK K h9 h14).1, (hl K 0 (by omega)).trans (gK K h9 h14).2⟩⟩, ⟨(hc 15 (by omega)).trans b15, ?_, ?_, (hc 18 (by omega)).trans b18, (hc 19 (by omega)).trans b19, (hc 20 (by omega)).trans b20⟩, fun K h15 h20 i hi => ?_⟩
  · rcases hk with ⟨rfl, -, z⟩ | ⟨rfl, -, z⟩
    · rw [gAdd_cn, if_pos rfl]; omega
    · rw [hc 16 (by decide)]; exact b16
  · rcases hk with ⟨rfl, -, z⟩ | ⟨rfl, -, z⟩
    · rw [hc 17 (by decide)]; exact b17
    · rw [gAdd_cn, if_pos rfl]; omega
  · by_cases e : K = k ∧ i = gcn g k
    · obtain ⟨rfl, rfl⟩ := e
      rw [gAdd_ln, if_pos ⟨rfl, rfl⟩]
      rcases hk with ⟨rfl, rfl, z⟩ | ⟨rfl, rfl, z⟩ <;> rfl
    · rw [hl K i e]
      refine bl K h15 h20 i ?_
      by_cases eK : K = k
      · subst eK; rw [gAdd_cn, if_pos rfl] at hi; omega
      · rw [hc K eK] at hi; exact hi
end RW
section RROW1
variable {p : Program} {l : Launch} {e : Env} {R : Room} {s : State} {m : MethodId} {args : Array Value} {below : List Frame} {meth : Method} {c : Code} {H : Heap} {locs : List Loc} {cells slots : Nat} {Q : State → Prop}
variable {cc : ByteArray} {pc : Nat} {ls : Array Slot} {rest : List Value} {g : gG} {σ : Mem} {w : Int64}
/-- one row of a table, whose place is known -/
theorem gx_rt1 (hexec : p.tables.exec = Jvm.exec) (hb : c.code = cc) (hZ : ZZ g s) (hG : GW g σ w H) (K n : Nat) {j : Int32} (ej : j = nI n) (hK : K = 10 ∨ K = 11) (hk : 0 < gcn g K) (hn : n < gln g K 0) (h31 : n < 1000) (e1 : σ K 0 n = nI n) (hdg : decode cc pc = .ok (.aaload, 1))
    (kk : W p l e R s m args below meth c H locs cells slots Q (F0 m (pc + 1) ls (.ref (gad g (K + 6) n) :: rest))) : W p l e R s m args below meth c H locs cells slots Q (F0 m pc ls (.int j :: .ref (gad g K 0) :: rest)) := by
  subst ej
  have hin : vp_in (nI n) (gln g K 0) := vp_inN hn (by omega)
  have hty : ArrOfT s (gca g K) (.array .int) := by rcases hK with rfl | rfl <;> exact (gx_KIA hZ).1
  have ht : ∀ j, gtg K j = K + 6 + 4 := fun j => by rcases hK with rfl | rfl <;> rfl
  refine gx_tald hexec hb hZ hG K 0 hk (by rcases hK with rfl | rfl <;> rfl) hty rfl hin (v := .ref (gad g (K + 6) n)) ?_ hdg kk
  unfold gv
  rw [ix_nI (by omega), e1, ht]
  show grf (gad g (K + 6)) (nI n) = _
  exact grf_nI (by omega)
/-- a new row goes into a table -/
theorem gx_ts1 (hexec : p.tables.exec = Jvm.exec) (hb : c.code = cc) (hZ : ZZ g s) (hG : GW g σ w H) (hS0 : va_S (gA g) s.heap H locs) (K n : Nat) {j : Int32} (ej : j = nI n) (hK : K = 10 ∨ K = 11) (hk : 0 < gcn g K) (hn : n < gln g K 0) (h31 : n < 1000) (hr : n < gcn g (K + 6)) (hdg : decode cc pc = .ok (.aastore, 1))
    (kk : ∀ (H1 : Heap) (locs1 : List Loc), GW g (gst σ K 0 n (nI n)) w H1 → va_S (gA g) s.heap H1 locs1 → W p l e R s m args below meth c H1 locs1 cells slots Q (F0 m (pc + 1) ls rest)) : W p l e R s m args below meth c H locs cells slots Q (F0 m pc ls (.ref (gad g (K + 6) n) :: .int j :: .ref (gad g K 0) :: rest)) := by
  subst ej
  have hin : vp_in (nI n) (gln g K 0) := vp_inN hn (by omega)
  have ht : ∀ j, gtg K j = K + 6 + 4 := fun j => by rcases hK with rfl | rfl <;> rfl
  have eix : ix (nI n) = n := ix_nI (by omega)
  refine gx_tast hexec hb hZ hG hS0 K 0 (K + 6) n hk (by rcases hK with rfl | rfl <;> rfl) (by rcases hK with rfl | rfl <;> rfl) hr (by rcases hK with rfl | rfl <;> rfl) (by rcases hK with rfl | rfl <;> rfl) hin (x := nI n) ?_ ?_ hdg (fun H1 locs1 hG hS => ?_)
  · unfold gv
    rw [ht]
    show grf (gad g (K + 6)) (nI n) = _
    exact grf_nI (by omega)
  · unfold gok
    rw [ht]
    exact Or.inr ⟨n, hr, rfl⟩
  · rw [eix] at hG
    exact kk H1 locs1 hG hS
end RROW1
def PoA (g : gG) (μ : Mem) (n : Nat) (a b : Int32) (w : Int64) (v : Option Value) (H : Heap) : Prop := v = some (.int (nI n)) ∧ xAddCabE μ a b = 0 ∧ (∃ (g2 : gG) (σ2 : Mem), gGro g g2 ∧ gcn g2 6 = n + 1 ∧ gcn g2 7 = gcn g 7 ∧ Xok g2 σ2 ∧ (∀ k i f, k ≠ 2 → k ≠ 4 → σ2 k i f = xCabNew μ n a b k i f) ∧ GW g2 σ2 w H)
def PoO (g : gG) (μ : Mem) (n : Nat) (a b c d : Int32) (w : Int64) (v : Option Value) (H : Heap) : Prop := v = some (.int (nI n)) ∧ xOrderE μ a b c d = 0 ∧ (∃ (g2 : gG) (σ2 : Mem), gGro g g2 ∧ gcn g2 6 = gcn g 6 ∧ gcn g2 7 = n + 1 ∧ Xok g2 σ2 ∧ (∀ k i f, k ≠ 3 → k ≠ 5 → σ2 k i f = xOrdNew μ n a b c d k i f) ∧ GW g2 (xMo σ2) w H)
section ACT
variable {p : Program} {e : Env} {s : State} {m : MethodId} {args : Array Value} {below : List Frame} {meth : Method} {c0 : Code} {H : Heap} {locs : List Loc} {Q : State → Prop} {ls : Array Slot} {g : gG} {σ σ1 τ : Mem} {w : Int64} {hs : Nat → Nat × Bool} {t B t1 B1 : Nat}
set_option maxHeartbeats 4000000 in
set_option maxRecDepth 100000 in
theorem act_add1 (l : Launch) (hl0 : l.stackTraces = false) (C : AC p s m c0 args) (hZ : ZZ g s) (hG : GW g σ w H) (hS : va_S (gA g) s.heap H locs) (hR : Rr g σ) {x : Int32} (hn : gcn g 16 < 10) (hl : lv_has ls 10 [(0, .ref (gad g 0 0)), (1, .ref (gad g 8 0)), (2, .int (x))]) (kk : ∀ (q9 : Nat) (H : Heap), GW (gAdd g 16 q9 5) (gFre σ 16 (gcn g 16)) w H → va_S (gA g) s.heap H locs → W p l e rmA s m args below meth c0 H locs 1 5 Q (F0 m 62 ls [.ref q9, .int (nI (gcn g 16)), .ref (gad g 10 0)])) : W p l e rmA s m args below meth c0 H locs 0 0 Q (F0 m 51 ls []) := by
  obtain ⟨hx, hb, hml, hown, hts, hbt⟩ := C
  have k1 := hts (.fieldLink RL 21 "TaxiRankLaw$Rank" "cabs" "[[I") (by decide +kernel)
  have k2 := hts (.fieldLink RL 15 "TaxiRankLaw$Rank" "many" "I") (by decide +kernel)
  have k3 := hts (.arrayClass .int) (by decide +kernel)
  refine lv_aload_n hx hb dL_act_51 rfl (lv_at hl 1 rfl) ?_
  refine gx_get hx hb hown hZ hG 8 0 1 hR.k8 rfl (by decide) k1 (fun _ h => h) (v := .ref (gad g 10 0)) (grf_z (hR.rf (f := 1) (by decide))) dL_act_52 ?_
  refine lv_aload_n hx hb dL_act_55 rfl (lv_at hl 1 rfl) ?_
  refine gx_get hx hb hown hZ hG 8 0 6 hR.k8 rfl (by decide) k2 (fun _ h => h) (v := .int (nI (gcn g 16))) (congrArg Value.int hR.nm) dL_act_56 ?_
  refine lv_iconst (v := 5) hx hb dL_act_59 (by decide) ?_
  refine gx_newI hx hb k3 hZ hG hS 16 5 (by decide) (by omega) rfl (by decide) (Nat.le_of_ble_eq_true rfl) (Nat.le_of_ble_eq_true rfl) dL_act_60 (fun q9 H hG hS hsz => ?_)
  exact kk q9 _ hG hS
set_option maxHeartbeats 4000000 in
set_option maxRecDepth 100000 in
theorem act_add2 (l : Launch) (hl0 : l.stackTraces = false) (C : AC p s m c0 args) (hZ : ZZ g s) (hG : GW g τ w H) (hS : va_S (gA g) s.heap H locs) (hR : Rw g τ) (hX : Xok g τ) {x : Int32} {n j sv z : Nat} (hsv : sv = 1 + j) (hn10 : n < 10) (e6 : τ 8 0 6 = nI n) (hnr : n < gcn g 16) (hn6 : gcn g 6 = n) (hbj : xBl (x >>> (4 &&& 31)) 8 = nI j) (hbz : xBl (x >>> (6 &&& 31)) 4 = nI z) (hE0 : xAddCabE (gst (gst (gst (gst (gst (gst τ 16 n 0 (nI sv)) 16 n 1 (nI z)) 16 n 2 0) 16 n 3 (-1)) 16 n 4 0) 10 0 n (nI n)) (nI sv) (nI z) = 0) (hl : lv_has ls 10 [(0, .ref (gad g 0 0)), (1, .ref (gad g 8 0)), (2, .int (x))]) (kk : ∀ (v : Option Value) (H : Heap) (locs : List Loc), PoA g (gst (gst (gst (gst (gst (gst τ 16 n 0 (nI sv)) 16 n 1 (nI z)) 16 n 2 0) 16 n 3 (-1)) 16 n 4 0) 10 0 n (nI n)) n (nI sv) (nI z) w v H → va_S (gA g) s.heap H locs → W p l e rmA s m args below meth c0 H locs 3 24 Q (F0 m 125 ls (v.toList ++ []))) : W p l e rmA s m args below meth c0 H locs 1 5 Q (F0 m 62 ls [.ref (gad g 16 n), .int (nI n), .ref (gad g 10 0)]) := by
  obtain ⟨hx, hb, hml, hown, hts, hbt⟩ := C
  have k1 := hts (.fieldLink RL 21 "TaxiRankLaw$Rank" "cabs" "[[I") (by decide +kernel)
  have k2 := hts (.fieldLink RL 15 "TaxiRankLaw$Rank" "many" "I") (by decide +kernel)
  have hnl : n < rTl 10 := hn10
  subst hsv
  refine lv_dup hx hb dL_act_62 rfl ?_
  refine lv_iconst (v := 0) hx hb dL_act_63 (by decide) ?_
  refine lv_iconst (v := 1) hx hb dL_act_64 (by decide) ?_
  refine lv_iload_n hx hb dL_act_65 rfl (lv_at hl 2 rfl) ?_
  refine lv_iconst (v := 4) hx hb dL_act_66 (by decide) ?_
  refine lv_ishr hx hb dL_act_67 ?_
  refine lv_bipush (v := 8) hx hb dL_act_68 (by decide) ?_
  refine gx_cR (gx_runS (As := [.int (x >>> (4 &&& 31)), .int (8)]) (rest := [.int (1), .int (0), .ref (gad g 16 n), .ref (gad g 16 n), .int (nI n), .ref (gad g 10 0)]) ⟨hx, hb, hml, hown, hts⟩ (c_L_below l g τ w (x >>> (4 &&& 31)) 8 (by decide)) (va_cwS 2 hts gL_act_L_below rfl rfl rfl (by decide +kernel) ⟨Nat.le_of_ble_eq_true rfl, Nat.le_of_ble_eq_true rfl⟩) hZ hG hS rfl hl.1 rfl (Nat.le_of_ble_eq_true rfl) dL_act_70 ⟨Nat.le_of_ble_eq_true rfl, Nat.le_of_ble_eq_true rfl⟩) ?_
  refine gx_topN (y := nI j) hbj ?_
  refine lv_iadd hx hb dL_act_73 ?_
  refine gx_topN (y := nI (1 + j)) (by rw [show (1 : Int32) = nI 1 from rfl, nI_add]) ?_
  refine gx_astN hx hb hZ hG hS 16 n 0 (by rfl) hnr rfl rfl ⟨by rw [hR.ln 16 (by decide) (by decide) hnr]; decide, by decide⟩ rfl trivial dL_act_74 (fun H locs hG hS => ?_)
  have hR := hR.st (k := 16) (i := n) (f := 0) (v := nI (1 + j)) (by decide)
  refine lv_dup hx hb dL_act_75 rfl ?_
  refine lv_iconst (v := 1) hx hb dL_act_76 (by decide) ?_
  refine lv_iload_n hx hb dL_act_77 rfl (lv_at hl 2 rfl) ?_
  refine lv_bipush (v := 6) hx hb dL_act_78 (by decide) ?_
  refine lv_ishr hx hb dL_act_80 ?_
  refine lv_iconst (v := 4) hx hb dL_act_81 (by decide) ?_
  refine gx_cR (gx_runS (As := [.int (x >>> (6 &&& 31)), .int (4)]) (rest := [.int (1), .ref (gad g 16 n), .ref (gad g 16 n), .int (nI n), .ref (gad g 10 0)]) ⟨hx, hb, hml, hown, hts⟩ (c_L_below l g (gst τ 16 n 0 (nI (1 + j))) w (x >>> (6 &&& 31)) 4 (by decide)) (va_cwS 2 hts gL_act_L_below rfl rfl rfl (by decide +kernel) ⟨Nat.le_of_ble_eq_true rfl, Nat.le_of_ble_eq_true rfl⟩) hZ hG hS rfl hl.1 rfl (Nat.le_of_ble_eq_true rfl) dL_act_82 ⟨Nat.le_of_ble_eq_true rfl, Nat.le_of_ble_eq_true rfl⟩) ?_
  refine gx_topN (y := nI z) hbz ?_
  refine gx_astN hx hb hZ hG hS 16 n 1 (by rfl) hnr rfl rfl ⟨by rw [hR.ln 16 (by decide) (by decide) hnr]; decide, by decide⟩ rfl trivial dL_act_85 (fun H locs hG hS => ?_)
  have hR := hR.st (k := 16) (i := n) (f := 1) (v := nI z) (by decide)
  refine lv_dup hx hb dL_act_86 rfl ?_
  refine lv_iconst (v := 2) hx hb dL_act_87 (by decide) ?_
  refine lv_iconst (v := 0) hx hb dL_act_88 (by decide) ?_
  refine gx_astN hx hb hZ hG hS 16 n 2 (by rfl) hnr rfl rfl ⟨by rw [hR.ln 16 (by decide) (by decide) hnr]; decide, by decide⟩ rfl trivial dL_act_89 (fun H locs hG hS => ?_)
  have hR := hR.st (k := 16) (i := n) (f := 2) (v := 0) (by decide)
  refine lv_dup hx hb dL_act_90 rfl ?_
  refine lv_iconst (v := 3) hx hb dL_act_91 (by decide) ?_
  refine lv_iconst (v := (-1)) hx hb dL_act_92 (by decide) ?_
  refine gx_astN hx hb hZ hG hS 16 n 3 (by rfl) hnr rfl rfl ⟨by rw [hR.ln 16 (by decide) (by decide) hnr]; decide, by decide⟩ rfl trivial dL_act_93 (fun H locs hG hS => ?_)
  have hR := hR.st (k := 16) (i := n) (f := 3) (v := -1) (by decide)
  refine lv_dup hx hb dL_act_94 rfl ?_
  refine lv_iconst (v := 4) hx hb dL_act_95 (by decide) ?_
  refine lv_iconst (v := 0) hx hb dL_act_96 (by decide) ?_
  refine gx_astN hx hb hZ hG hS 16 n 4 (by rfl) hnr rfl rfl ⟨by rw [hR.ln 16 (by decide) (by decide) hnr]; decide, by decide⟩ rfl trivial dL_act_97 (fun H locs hG hS => ?_)
  have hR := hR.st (k := 16) (i := n) (f := 4) (v := 0) (by decide)
  refine gx_ts1 hx hb hZ hG hS 10 n (by rfl) (by decide) (hR.k1 10 (by decide) (by decide)) (by rw [hR.tl 10 (by decide) (by decide)]; exact hnl) (by omega) hnr dL_act_98 (fun H locs hG hS => ?_)
  have hR := hR.st (k := 10) (i := 0) (f := n) (v := nI n) (by decide)
  refine lv_aload_n hx hb dL_act_99 rfl (lv_at hl 0 rfl) ?_
  refine lv_aload_n hx hb dL_act_100 rfl (lv_at hl 1 rfl) ?_
  refine gx_get hx hb hown hZ hG 8 0 1 hR.k8 rfl (by decide) k1 (fun _ h => h) (v := .ref (gad g 10 0)) (grf_z (hR.rf (f := 1) (by decide))) dL_act_101 ?_
  refine lv_aload_n hx hb dL_act_104 rfl (lv_at hl 1 rfl) ?_
  refine gx_get hx hb hown hZ hG 8 0 6 hR.k8 rfl (by decide) k2 (fun _ h => h) (v := .int (nI n)) (congrArg Value.int (by simp [gst_app, e6])) dL_act_105 ?_
  refine gx_rt1 hx hb hZ hG 10 n (by rfl) (by decide) (hR.k1 10 (by decide) (by decide)) (by rw [hR.tl 10 (by decide) (by decide)]; exact hnl) (by omega) (gst_eq _ _ _ _ _) dL_act_108 ?_
  refine lv_iconst (v := 0) hx hb dL_act_109 (by decide) ?_
  refine gx_aldN hx hb hZ hG 16 n 0 (by rfl) hnr rfl rfl ⟨by rw [hR.ln 16 (by decide) (by decide) hnr]; decide, by decide⟩ (v := .int (nI (1 + j))) (congrArg Value.int (by simp [gst_app])) dL_act_110 ?_
  refine lv_aload_n hx hb dL_act_111 rfl (lv_at hl 1 rfl) ?_
  refine gx_get hx hb hown hZ hG 8 0 1 hR.k8 rfl (by decide) k1 (fun _ h => h) (v := .ref (gad g 10 0)) (grf_z (hR.rf (f := 1) (by decide))) dL_act_112 ?_
  refine lv_aload_n hx hb dL_act_115 rfl (lv_at hl 1 rfl) ?_
  refine gx_get hx hb hown hZ hG 8 0 6 hR.k8 rfl (by decide) k2 (fun _ h => h) (v := .int (nI n)) (congrArg Value.int (by simp [gst_app, e6])) dL_act_116 ?_
  refine gx_rt1 hx hb hZ hG 10 n (by rfl) (by decide) (hR.k1 10 (by decide) (by decide)) (by rw [hR.tl 10 (by decide) (by decide)]; exact hnl) (by omega) (gst_eq _ _ _ _ _) dL_act_119 ?_
  refine lv_iconst (v := 1) hx hb dL_act_120 (by decide) ?_
  refine gx_aldN hx hb hZ hG 16 n 1 (by rfl) hnr rfl rfl ⟨by rw [hR.ln 16 (by decide) (by decide) hnr]; decide, by decide⟩ (v := .int (nI z)) (congrArg Value.int (by simp [gst_app])) dL_act_121 ?_
  refine gx_cEx (gx_xrunV (As := [.int (nI (1 + j)), .int (nI z)]) (rest := []) ⟨hx, hb, hml, hown, hts⟩ (c_X2_addCab l hl0 g (gst (gst (gst (gst (gst (gst τ 16 n 0 (nI (1 + j))) 16 n 1 (nI z)) 16 n 2 0) 16 n 3 (-1)) 16 n 4 0) 10 0 n (nI n)) w n (nI (1 + j)) (nI z) ((((((hX.st rfl).st rfl).st rfl).st rfl).st rfl).st rfl) hn6) (cwV 2 hts gL_act_X2_addCab rfl rfl rfl (by decide +kernel) ⟨Nat.le_of_ble_eq_true rfl, Nat.le_of_ble_eq_true rfl⟩) (gx_obj hZ hG 0 0 hX.k0 rfl) hZ hG hS rfl hl.1 rfl (Nat.le_of_ble_eq_true rfl) dL_act_122 ⟨Nat.le_of_ble_eq_true rfl, Nat.le_of_ble_eq_true rfl⟩) hG hS (fun E ce q9 H1 locs1 hPE hG hS hz1 hk1 hce hcv hcl => ?_) (fun v H1 locs1 hP hS hsz => ?_)
  · exfalso; rcases hPE with ⟨-, hE⟩ | ⟨-, hE⟩ <;> exact absurd (hE.symm.trans (hE0)) (by decide)
  exact kk v H1 locs1 hP hS
set_option maxHeartbeats 4000000 in
set_option maxRecDepth 100000 in
theorem act_add3 (l : Launch) (hl0 : l.stackTraces = false) (C : AC p s m c0 args) (hZ : ZZ g s) (hG : GW g τ w H) (hS : va_S (gA g) s.heap H locs) (hR : Rw g τ) {x : Int32} {n : Nat} (e6 : τ 8 0 6 = nI n) (hl : lv_has ls 10 [(0, .ref (gad g 0 0)), (1, .ref (gad g 8 0)), (2, .int (x))]) (kk : ∀ (H : Heap) (locs : List Loc) (ls : Array Slot), GW g (gst τ 8 0 6 (nI (n + 1))) w H → va_S (gA g) s.heap H locs → W p l e rmA s m args below meth c0 H locs 8 300 Q (F0 m 145 ls [.int 1])) : W p l e rmA s m args below meth c0 H locs 8 300 Q (F0 m 125 ls [.int (nI n)]) := by
  obtain ⟨hx, hb, hml, hown, hts, hbt⟩ := C
  have k1 := hts (.fieldLink RL 15 "TaxiRankLaw$Rank" "many" "I") (by decide +kernel)
  refine lv_aload_n hx hb dL_act_125 rfl (lv_at hl 1 rfl) ?_
  refine gx_get hx hb hown hZ hG 8 0 6 hR.k8 rfl (by decide) k1 (fun _ h => h) (v := .int (nI n)) (congrArg Value.int e6) dL_act_126 ?_
  refine lv_icmp_eq (tgt := 134) hx hb dL_act_129 (by decide) (fun c_1 => ?_) (fun c_1 => ?_)
  · skip
    refine lv_aload_n hx hb dL_act_134 rfl (lv_at hl 1 rfl) ?_
    refine lv_dup hx hb dL_act_135 rfl ?_
    refine gx_get hx hb hown hZ hG 8 0 6 hR.k8 rfl (by decide) k1 (fun _ h => h) (v := .int (nI n)) (congrArg Value.int e6) dL_act_136 ?_
    refine lv_iconst (v := 1) hx hb dL_act_139 (by decide) ?_
    refine lv_iadd hx hb dL_act_140 ?_
    refine gx_topN (y := nI (n + 1)) (by rw [show (1 : Int32) = nI 1 from rfl, nI_add]) ?_
    refine gx_put hx hb hown hZ hG hS 8 0 6 (nI (n + 1)) hR.k8 rfl (by decide) k1 (fun _ h => h) rfl rfl trivial rfl rfl dL_act_141 (fun H locs hG hS => ?_)
    refine lv_iconst (v := 1) hx hb dL_act_144 (by decide) ?_
    exact kk _ _ ls hG hS
  · skip
    exact absurd rfl c_1
set_option maxHeartbeats 4000000 in
set_option maxRecDepth 100000 in
theorem act_ord1 (l : Launch) (hl0 : l.stackTraces = false) (C : AC p s m c0 args) (hZ : ZZ g s) (hG : GW g σ w H) (hS : va_S (gA g) s.heap H locs) (hR : Rr g σ) {x : Int32} {t9 d9 : Nat} (et : σ 8 0 8 = nI t9) (hn : gcn g 17 < 60) (hbd : xBl (x >>> (5 &&& 31)) 40 = nI d9) (hd9 : d9 < 40) (hl : lv_has ls 10 [(0, .ref (gad g 0 0)), (1, .ref (gad g 8 0)), (2, .int (x))]) (kk : ∀ (d : Nat), t9 ≤ d → d < t9 + 40 → ∀ (q9 : Nat) (H : Heap) (ls : Array Slot), GW (gAdd g 17 q9 10) (gFre σ 17 (gcn g 17)) w H → va_S (gA g) s.heap H locs → lv_has ls 10 [(0, .ref (gad g 0 0)), (1, .ref (gad g 8 0)), (2, .int (x)), (5, .int (nI d))] → W p l e rmA s m args below meth c0 H locs 1 10 Q (F0 m 201 ls [.ref q9, .int (nI (gcn g 17)), .ref (gad g 11 0)])) : W p l e rmA s m args below meth c0 H locs 0 0 Q (F0 m 160 ls []) := by
  obtain ⟨hx, hb, hml, hown, hts, hbt⟩ := C
  have k1 := hts (.fieldLink RL 33 "TaxiRankLaw$Rank" "now" "I") (by decide +kernel)
  have k2 := hts (.fieldLink RL 36 "TaxiRankLaw$Rank" "orders" "[[I") (by decide +kernel)
  have k3 := hts (.fieldLink RL 30 "TaxiRankLaw$Rank" "all" "I") (by decide +kernel)
  have k4 := hts (.arrayClass .int) (by decide +kernel)
  refine lv_aload_n hx hb dL_act_160 rfl (lv_at hl 1 rfl) ?_
  refine gx_get hx hb hown hZ hG 8 0 8 hR.k8 rfl (by decide) k1 (fun _ h => h) (v := .int (nI t9)) (congrArg Value.int et) dL_act_161 ?_
  refine lv_iload_n hx hb dL_act_164 rfl (lv_at hl 2 rfl) ?_
  refine lv_iconst (v := 3) hx hb dL_act_165 (by decide) ?_
  refine lv_ishr hx hb dL_act_166 ?_
  refine lv_iconst (v := 3) hx hb dL_act_167 (by decide) ?_
  refine gx_cR (gx_runS (As := [.int (x >>> (3 &&& 31)), .int (3)]) (rest := [.int (nI t9)]) ⟨hx, hb, hml, hown, hts⟩ (c_L_below l g σ w (x >>> (3 &&& 31)) 3 (by decide)) (va_cwS 2 hts gL_act_L_below rfl rfl rfl (by decide +kernel) ⟨Nat.le_of_ble_eq_true rfl, Nat.le_of_ble_eq_true rfl⟩) hZ hG hS rfl hl.1 rfl (Nat.le_of_ble_eq_true rfl) dL_act_168 ⟨Nat.le_of_ble_eq_true rfl, Nat.le_of_ble_eq_true rfl⟩) ?_
  refine lv_if_le (tgt := 178) hx hb dL_act_171 (by decide) (fun c_1 => ?_) (fun c_1 => ?_)
  · skip
    refine lv_iload_n hx hb dL_act_178 rfl (lv_at hl 2 rfl) ?_
    refine lv_iconst (v := 5) hx hb dL_act_179 (by decide) ?_
    refine lv_ishr hx hb dL_act_180 ?_
    refine lv_bipush (v := 40) hx hb dL_act_181 (by decide) ?_
    refine gx_cR (gx_runS (As := [.int (x >>> (5 &&& 31)), .int (40)]) (rest := [.int (nI t9)]) ⟨hx, hb, hml, hown, hts⟩ (c_L_below l g σ w (x >>> (5 &&& 31)) 40 (by decide)) (va_cwS 2 hts gL_act_L_below rfl rfl rfl (by decide +kernel) ⟨Nat.le_of_ble_eq_true rfl, Nat.le_of_ble_eq_true rfl⟩) hZ hG hS rfl hl.1 rfl (Nat.le_of_ble_eq_true rfl) dL_act_183 ⟨Nat.le_of_ble_eq_true rfl, Nat.le_of_ble_eq_true rfl⟩) ?_
    refine gx_topN (y := nI d9) hbd ?_
    refine lv_iadd hx hb dL_act_186 ?_
    refine gx_topN (y := nI (t9 + d9)) (by rw [nI_add]) ?_
    refine lv_istore (lv' := [(5, .int (nI (t9 + d9))), (0, .ref (gad g 0 0)), (1, .ref (gad g 8 0)), (2, .int (x))]) hx hb dL_act_187 hl (by decide) rfl (fun ls hl => ?_)
    refine lv_aload_n hx hb dL_act_189 rfl (lv_at hl 2 rfl) ?_
    refine gx_get hx hb hown hZ hG 8 0 2 hR.k8 rfl (by decide) k2 (fun _ h => h) (v := .ref (gad g 11 0)) (grf_z (hR.rf (f := 2) (by decide))) dL_act_190 ?_
    refine lv_aload_n hx hb dL_act_193 rfl (lv_at hl 2 rfl) ?_
    refine gx_get hx hb hown hZ hG 8 0 7 hR.k8 rfl (by decide) k3 (fun _ h => h) (v := .int (nI (gcn g 17))) (congrArg Value.int hR.na) dL_act_194 ?_
    refine lv_bipush (v := 10) hx hb dL_act_197 (by decide) ?_
    refine gx_newI hx hb k4 hZ hG hS 17 10 (by decide) (by omega) rfl (by decide) (Nat.le_of_ble_eq_true rfl) (Nat.le_of_ble_eq_true rfl) dL_act_199 (fun q9 H hG hS hsz => ?_)
    exact kk (t9 + d9) (by omega) (by omega) q9 _ ls hG hS (lv_sub hl [1, 2, 3, 0] rfl)
  · skip
    refine lv_iconst (v := 0) hx hb dL_act_174 (by decide) ?_
    refine lv_goto (tgt := 186) hx hb dL_act_175 (by decide) ?_
    refine lv_iadd hx hb dL_act_186 ?_
    refine gx_topN (y := nI (t9 + 0)) (by rw [show (0 : Int32) = nI 0 from rfl, nI_add]) ?_
    refine lv_istore (lv' := [(5, .int (nI (t9 + 0))), (0, .ref (gad g 0 0)), (1, .ref (gad g 8 0)), (2, .int (x))]) hx hb dL_act_187 hl (by decide) rfl (fun ls hl => ?_)
    refine lv_aload_n hx hb dL_act_189 rfl (lv_at hl 2 rfl) ?_
    refine gx_get hx hb hown hZ hG 8 0 2 hR.k8 rfl (by decide) k2 (fun _ h => h) (v := .ref (gad g 11 0)) (grf_z (hR.rf (f := 2) (by decide))) dL_act_190 ?_
    refine lv_aload_n hx hb dL_act_193 rfl (lv_at hl 2 rfl) ?_
    refine gx_get hx hb hown hZ hG 8 0 7 hR.k8 rfl (by decide) k3 (fun _ h => h) (v := .int (nI (gcn g 17))) (congrArg Value.int hR.na) dL_act_194 ?_
    refine lv_bipush (v := 10) hx hb dL_act_197 (by decide) ?_
    refine gx_newI hx hb k4 hZ hG hS 17 10 (by decide) (by omega) rfl (by decide) (Nat.le_of_ble_eq_true rfl) (Nat.le_of_ble_eq_true rfl) dL_act_199 (fun q9 H hG hS hsz => ?_)
    exact kk (t9 + 0) (by omega) (by omega) q9 _ ls hG hS (lv_sub hl [1, 2, 3, 0] rfl)
set_option maxHeartbeats 4000000 in
set_option maxRecDepth 100000 in
theorem act_ord2 (l : Launch) (hl0 : l.stackTraces = false) (C : AC p s m c0 args) (hZ : ZZ g s) (hG : GW g τ w H) (hS : va_S (gA g) s.heap H locs) (hR : Rw g τ) (hX : Xok g τ) {x : Int32} {n a b i d : Nat} (hn60 : n < 60) (e7 : τ 8 0 7 = nI n) (hnr : n < gcn g 17) (hn7 : gcn g 7 = n) (hba : xBl (x >>> (4 &&& 31)) 4 = nI a) (hbb : xBl (x >>> (6 &&& 31)) 4 = nI b) (hbi : xBl (x >>> (8 &&& 31)) 5 = nI i) (hE0 : xOrderE (gst (gst (gst (gst (gst (gst (gst (gst (gst (gst (gst τ 17 n 0 (nI a)) 17 n 1 (nI b)) 17 n 2 (nI (1 + i))) 17 n 3 (nI d)) 17 n 4 0) 17 n 5 (-1)) 17 n 6 (-1)) 17 n 7 (-1)) 17 n 8 0) 17 n 9 0) 11 0 n (nI n)) (nI a) (nI b) (nI (1 + i)) (nI d) = 0) (hl : lv_has ls 10 [(0, .ref (gad g 0 0)), (1, .ref (gad g 8 0)), (2, .int (x)), (5, .int (nI d))]) (kk : ∀ (v : Option Value) (H : Heap) (locs : List Loc), PoO g (gst (gst (gst (gst (gst (gst (gst (gst (gst (gst (gst τ 17 n 0 (nI a)) 17 n 1 (nI b)) 17 n 2 (nI (1 + i))) 17 n 3 (nI d)) 17 n 4 0) 17 n 5 (-1)) 17 n 6 (-1)) 17 n 7 (-1)) 17 n 8 0) 17 n 9 0) 11 0 n (nI n)) n (nI a) (nI b) (nI (1 + i)) (nI d) w v H → va_S (gA g) s.heap H locs → W p l e rmA s m args below meth c0 H locs 6 250 Q (F0 m 308 ls (v.toList ++ []))) : W p l e rmA s m args below meth c0 H locs 1 10 Q (F0 m 201 ls [.ref (gad g 17 n), .int (nI n), .ref (gad g 11 0)]) := by
  obtain ⟨hx, hb, hml, hown, hts, hbt⟩ := C
  have k1 := hts (.fieldLink RL 36 "TaxiRankLaw$Rank" "orders" "[[I") (by decide +kernel)
  have k2 := hts (.fieldLink RL 30 "TaxiRankLaw$Rank" "all" "I") (by decide +kernel)
  have hnl : n < rTl 11 := hn60
  refine lv_dup hx hb dL_act_201 rfl ?_
  refine lv_iconst (v := 0) hx hb dL_act_202 (by decide) ?_
  refine lv_iload_n hx hb dL_act_203 rfl (lv_at hl 2 rfl) ?_
  refine lv_iconst (v := 4) hx hb dL_act_204 (by decide) ?_
  refine lv_ishr hx hb dL_act_205 ?_
  refine lv_iconst (v := 4) hx hb dL_act_206 (by decide) ?_
  refine gx_cR (gx_runS (As := [.int (x >>> (4 &&& 31)), .int (4)]) (rest := [.int (0), .ref (gad g 17 n), .ref (gad g 17 n), .int (nI n), .ref (gad g 11 0)]) ⟨hx, hb, hml, hown, hts⟩ (c_L_below l g τ w (x >>> (4 &&& 31)) 4 (by decide)) (va_cwS 2 hts gL_act_L_below rfl rfl rfl (by decide +kernel) ⟨Nat.le_of_ble_eq_true rfl, Nat.le_of_ble_eq_true rfl⟩) hZ hG hS rfl hl.1 rfl (Nat.le_of_ble_eq_true rfl) dL_act_207 ⟨Nat.le_of_ble_eq_true rfl, Nat.le_of_ble_eq_true rfl⟩) ?_
  refine gx_topN (y := nI a) hba ?_
  refine gx_astN hx hb hZ hG hS 17 n 0 (by rfl) hnr rfl rfl ⟨by rw [hR.ln 17 (by decide) (by decide) hnr]; decide, by decide⟩ rfl trivial dL_act_210 (fun H locs hG hS => ?_)
  have hR := hR.st (k := 17) (i := n) (f := 0) (v := nI a) (by decide)
  refine lv_dup hx hb dL_act_211 rfl ?_
  refine lv_iconst (v := 1) hx hb dL_act_212 (by decide) ?_
  refine lv_iload_n hx hb dL_act_213 rfl (lv_at hl 2 rfl) ?_
  refine lv_bipush (v := 6) hx hb dL_act_214 (by decide) ?_
  refine lv_ishr hx hb dL_act_216 ?_
  refine lv_iconst (v := 4) hx hb dL_act_217 (by decide) ?_
  refine gx_cR (gx_runS (As := [.int (x >>> (6 &&& 31)), .int (4)]) (rest := [.int (1), .ref (gad g 17 n), .ref (gad g 17 n), .int (nI n), .ref (gad g 11 0)]) ⟨hx, hb, hml, hown, hts⟩ (c_L_below l g (gst τ 17 n 0 (nI a)) w (x >>> (6 &&& 31)) 4 (by decide)) (va_cwS 2 hts gL_act_L_below rfl rfl rfl (by decide +kernel) ⟨Nat.le_of_ble_eq_true rfl, Nat.le_of_ble_eq_true rfl⟩) hZ hG hS rfl hl.1 rfl (Nat.le_of_ble_eq_true rfl) dL_act_218 ⟨Nat.le_of_ble_eq_true rfl, Nat.le_of_ble_eq_true rfl⟩) ?_
  refine gx_topN (y := nI b) hbb ?_
  refine gx_astN hx hb hZ hG hS 17 n 1 (by rfl) hnr rfl rfl ⟨by rw [hR.ln 17 (by decide) (by decide) hnr]; decide, by decide⟩ rfl trivial dL_act_221 (fun H locs hG hS => ?_)
  have hR := hR.st (k := 17) (i := n) (f := 1) (v := nI b) (by decide)
  refine lv_dup hx hb dL_act_222 rfl ?_
  refine lv_iconst (v := 2) hx hb dL_act_223 (by decide) ?_
  refine lv_iconst (v := 1) hx hb dL_act_224 (by decide) ?_
  refine lv_iload_n hx hb dL_act_225 rfl (lv_at hl 2 rfl) ?_
  refine lv_bipush (v := 8) hx hb dL_act_226 (by decide) ?_
  refine lv_ishr hx hb dL_act_228 ?_
  refine lv_iconst (v := 5) hx hb dL_act_229 (by decide) ?_
  refine gx_cR (gx_runS (As := [.int (x >>> (8 &&& 31)), .int (5)]) (rest := [.int (1), .int (2), .ref (gad g 17 n), .ref (gad g 17 n), .int (nI n), .ref (gad g 11 0)]) ⟨hx, hb, hml, hown, hts⟩ (c_L_below l g (gst (gst τ 17 n 0 (nI a)) 17 n 1 (nI b)) w (x >>> (8 &&& 31)) 5 (by decide)) (va_cwS 2 hts gL_act_L_below rfl rfl rfl (by decide +kernel) ⟨Nat.le_of_ble_eq_true rfl, Nat.le_of_ble_eq_true rfl⟩) hZ hG hS rfl hl.1 rfl (Nat.le_of_ble_eq_true rfl) dL_act_230 ⟨Nat.le_of_ble_eq_true rfl, Nat.le_of_ble_eq_true rfl⟩) ?_
  refine gx_topN (y := nI i) hbi ?_
  refine lv_iadd hx hb dL_act_233 ?_
  refine gx_topN (y := nI (1 + i)) (by rw [show (1 : Int32) = nI 1 from rfl, nI_add]) ?_
  refine gx_astN hx hb hZ hG hS 17 n 2 (by rfl) hnr rfl rfl ⟨by rw [hR.ln 17 (by decide) (by decide) hnr]; decide, by decide⟩ rfl trivial dL_act_234 (fun H locs hG hS => ?_)
  have hR := hR.st (k := 17) (i := n) (f := 2) (v := nI (1 + i)) (by decide)
  refine lv_dup hx hb dL_act_235 rfl ?_
  refine lv_iconst (v := 3) hx hb dL_act_236 (by decide) ?_
  refine lv_iload hx hb dL_act_237 (lv_at hl 3 rfl) ?_
  refine gx_astN hx hb hZ hG hS 17 n 3 (by rfl) hnr rfl rfl ⟨by rw [hR.ln 17 (by decide) (by decide) hnr]; decide, by decide⟩ rfl trivial dL_act_239 (fun H locs hG hS => ?_)
  have hR := hR.st (k := 17) (i := n) (f := 3) (v := nI d) (by decide)
  refine lv_dup hx hb dL_act_240 rfl ?_
  refine lv_iconst (v := 4) hx hb dL_act_241 (by decide) ?_
  refine lv_iconst (v := 0) hx hb dL_act_242 (by decide) ?_
  refine gx_astN hx hb hZ hG hS 17 n 4 (by rfl) hnr rfl rfl ⟨by rw [hR.ln 17 (by decide) (by decide) hnr]; decide, by decide⟩ rfl trivial dL_act_243 (fun H locs hG hS => ?_)
  have hR := hR.st (k := 17) (i := n) (f := 4) (v := 0) (by decide)
  refine lv_dup hx hb dL_act_244 rfl ?_
  refine lv_iconst (v := 5) hx hb dL_act_245 (by decide) ?_
  refine lv_iconst (v := (-1)) hx hb dL_act_246 (by decide) ?_
  refine gx_astN hx hb hZ hG hS 17 n 5 (by rfl) hnr rfl rfl ⟨by rw [hR.ln 17 (by decide) (by decide) hnr]; decide, by decide⟩ rfl trivial dL_act_247 (fun H locs hG hS => ?_)
  have hR := hR.st (k := 17) (i := n) (f := 5) (v := -1) (by decide)
  refine lv_dup hx hb dL_act_248 rfl ?_
  refine lv_bipush (v := 6) hx hb dL_act_249 (by decide) ?_
  refine lv_iconst (v := (-1)) hx hb dL_act_251 (by decide) ?_
  refine gx_astN hx hb hZ hG hS 17 n 6 (by rfl) hnr rfl rfl ⟨by rw [hR.ln 17 (by decide) (by decide) hnr]; decide, by decide⟩ rfl trivial dL_act_252 (fun H locs hG hS => ?_)
  have hR := hR.st (k := 17) (i := n) (f := 6) (v := -1) (by decide)
  refine lv_dup hx hb dL_act_253 rfl ?_
  refine lv_bipush (v := 7) hx hb dL_act_254 (by decide) ?_
  refine lv_iconst (v := (-1)) hx hb dL_act_256 (by decide) ?_
  refine gx_astN hx hb hZ hG hS 17 n 7 (by rfl) hnr rfl rfl ⟨by rw [hR.ln 17 (by decide) (by decide) hnr]; decide, by decide⟩ rfl trivial dL_act_257 (fun H locs hG hS => ?_)
  have hR := hR.st (k := 17) (i := n) (f := 7) (v := -1) (by decide)
  refine lv_dup hx hb dL_act_258 rfl ?_
  refine lv_bipush (v := 8) hx hb dL_act_259 (by decide) ?_
  refine lv_iconst (v := 0) hx hb dL_act_261 (by decide) ?_
  refine gx_astN hx hb hZ hG hS 17 n 8 (by rfl) hnr rfl rfl ⟨by rw [hR.ln 17 (by decide) (by decide) hnr]; decide, by decide⟩ rfl trivial dL_act_262 (fun H locs hG hS => ?_)
  have hR := hR.st (k := 17) (i := n) (f := 8) (v := 0) (by decide)
  refine lv_dup hx hb dL_act_263 rfl ?_
  refine lv_bipush (v := 9) hx hb dL_act_264 (by decide) ?_
  refine lv_iconst (v := 0) hx hb dL_act_266 (by decide) ?_
  refine gx_astN hx hb hZ hG hS 17 n 9 (by rfl) hnr rfl rfl ⟨by rw [hR.ln 17 (by decide) (by decide) hnr]; decide, by decide⟩ rfl trivial dL_act_267 (fun H locs hG hS => ?_)
  have hR := hR.st (k := 17) (i := n) (f := 9) (v := 0) (by decide)
  refine gx_ts1 hx hb hZ hG hS 11 n (by rfl) (by decide) (hR.k1 11 (by decide) (by decide)) (by rw [hR.tl 11 (by decide) (by decide)]; exact hnl) (by omega) hnr dL_act_268 (fun H locs hG hS => ?_)
  have hR := hR.st (k := 11) (i := 0) (f := n) (v := nI n) (by decide)
  refine lv_aload_n hx hb dL_act_269 rfl (lv_at hl 0 rfl) ?_
  refine lv_aload_n hx hb dL_act_270 rfl (lv_at hl 1 rfl) ?_
  refine gx_get hx hb hown hZ hG 8 0 2 hR.k8 rfl (by decide) k1 (fun _ h => h) (v := .ref (gad g 11 0)) (grf_z (hR.rf (f := 2) (by decide))) dL_act_271 ?_
  refine lv_aload_n hx hb dL_act_274 rfl (lv_at hl 1 rfl) ?_
  refine gx_get hx hb hown hZ hG 8 0 7 hR.k8 rfl (by decide) k2 (fun _ h => h) (v := .int (nI n)) (congrArg Value.int (by simp [gst_app, e7])) dL_act_275 ?_
  refine gx_rt1 hx hb hZ hG 11 n (by rfl) (by decide) (hR.k1 11 (by decide) (by decide)) (by rw [hR.tl 11 (by decide) (by decide)]; exact hnl) (by omega) (gst_eq _ _ _ _ _) dL_act_278 ?_
  refine lv_iconst (v := 0) hx hb dL_act_279 (by decide) ?_
  refine gx_aldN hx hb hZ hG 17 n 0 (by rfl) hnr rfl rfl ⟨by rw [hR.ln 17 (by decide) (by decide) hnr]; decide, by decide⟩ (v := .int (nI a)) (congrArg Value.int (by simp [gst_app])) dL_act_280 ?_
  refine lv_aload_n hx hb dL_act_281 rfl (lv_at hl 1 rfl) ?_
  refine gx_get hx hb hown hZ hG 8 0 2 hR.k8 rfl (by decide) k1 (fun _ h => h) (v := .ref (gad g 11 0)) (grf_z (hR.rf (f := 2) (by decide))) dL_act_282 ?_
  refine lv_aload_n hx hb dL_act_285 rfl (lv_at hl 1 rfl) ?_
  refine gx_get hx hb hown hZ hG 8 0 7 hR.k8 rfl (by decide) k2 (fun _ h => h) (v := .int (nI n)) (congrArg Value.int (by simp [gst_app, e7])) dL_act_286 ?_
  refine gx_rt1 hx hb hZ hG 11 n (by rfl) (by decide) (hR.k1 11 (by decide) (by decide)) (by rw [hR.tl 11 (by decide) (by decide)]; exact hnl) (by omega) (gst_eq _ _ _ _ _) dL_act_289 ?_
  refine lv_iconst (v := 1) hx hb dL_act_290 (by decide) ?_
  refine gx_aldN hx hb hZ hG 17 n 1 (by rfl) hnr rfl rfl ⟨by rw [hR.ln 17 (by decide) (by decide) hnr]; decide, by decide⟩ (v := .int (nI b)) (congrArg Value.int (by simp [gst_app])) dL_act_291 ?_
  refine lv_aload_n hx hb dL_act_292 rfl (lv_at hl 1 rfl) ?_
  refine gx_get hx hb hown hZ hG 8 0 2 hR.k8 rfl (by decide) k1 (fun _ h => h) (v := .ref (gad g 11 0)) (grf_z (hR.rf (f := 2) (by decide))) dL_act_293 ?_
  refine lv_aload_n hx hb dL_act_296 rfl (lv_at hl 1 rfl) ?_
  refine gx_get hx hb hown hZ hG 8 0 7 hR.k8 rfl (by decide) k2 (fun _ h => h) (v := .int (nI n)) (congrArg Value.int (by simp [gst_app, e7])) dL_act_297 ?_
  refine gx_rt1 hx hb hZ hG 11 n (by rfl) (by decide) (hR.k1 11 (by decide) (by decide)) (by rw [hR.tl 11 (by decide) (by decide)]; exact hnl) (by omega) (gst_eq _ _ _ _ _) dL_act_300 ?_
  refine lv_iconst (v := 2) hx hb dL_act_301 (by decide) ?_
  refine gx_aldN hx hb hZ hG 17 n 2 (by rfl) hnr rfl rfl ⟨by rw [hR.ln 17 (by decide) (by decide) hnr]; decide, by decide⟩ (v := .int (nI (1 + i))) (congrArg Value.int (by simp [gst_app])) dL_act_302 ?_
  refine lv_iload hx hb dL_act_303 (lv_at hl 3 rfl) ?_
  refine gx_cEx (gx_xrunV (As := [.int (nI a), .int (nI b), .int (nI (1 + i)), .int (nI d)]) (rest := []) ⟨hx, hb, hml, hown, hts⟩ (c_X2_order l hl0 g (gst (gst (gst (gst (gst (gst (gst (gst (gst (gst (gst τ 17 n 0 (nI a)) 17 n 1 (nI b)) 17 n 2 (nI (1 + i))) 17 n 3 (nI d)) 17 n 4 0) 17 n 5 (-1)) 17 n 6 (-1)) 17 n 7 (-1)) 17 n 8 0) 17 n 9 0) 11 0 n (nI n)) w n (nI a) (nI b) (nI (1 + i)) (nI d) (((((((((((hX.st rfl).st rfl).st rfl).st rfl).st rfl).st rfl).st rfl).st rfl).st rfl).st rfl).st rfl) hn7) (cwV 4 hts gL_act_X2_order rfl rfl rfl (by decide +kernel) ⟨Nat.le_of_ble_eq_true rfl, Nat.le_of_ble_eq_true rfl⟩) (gx_obj hZ hG 0 0 hX.k0 rfl) hZ hG hS rfl hl.1 rfl (Nat.le_of_ble_eq_true rfl) dL_act_305 ⟨Nat.le_of_ble_eq_true rfl, Nat.le_of_ble_eq_true rfl⟩) hG hS (fun E ce q9 H1 locs1 hPE hG hS hz1 hk1 hce hcv hcl => ?_) (fun v H1 locs1 hP hS hsz => ?_)
  · exfalso; rcases hPE with ⟨-, hE⟩ | ⟨-, hE⟩ | ⟨-, hE⟩ <;> exact absurd (hE.symm.trans (hE0)) (by decide)
  exact kk v H1 locs1 hP hS
set_option maxHeartbeats 4000000 in
set_option maxRecDepth 100000 in
theorem act_ord3 (l : Launch) (hl0 : l.stackTraces = false) (C : AC p s m c0 args) (hZ : ZZ g s) (hG : GW g τ w H) (hS : va_S (gA g) s.heap H locs) (hR : Rw g τ) {x : Int32} {n N : Nat} (e7 : τ 8 0 7 = nI n) (hN : ∀ i, i < N → ¬ rBest (rOffN i (gst τ 8 0 7 (nI (n + 1)))) < 0) (hE : rBest (rOffN N (gst τ 8 0 7 (nI (n + 1)))) < 0) (hQ : ∀ z, z < 6 → rQw (gcn g 16) (gst τ 8 0 7 (nI (n + 1))) z) (ha : ∀ o, o < gcn g 17 → inN 6 (gst τ 8 0 7 (nI (n + 1)) 17 o 0)) (hR2 : Rr g (gst τ 8 0 7 (nI (n + 1)))) (hl : lv_has ls 10 [(0, .ref (gad g 0 0)), (1, .ref (gad g 8 0)), (2, .int (x))]) (kk : ∀ (H : Heap) (locs : List Loc) (ls : Array Slot), GW g (rOffN N (gst τ 8 0 7 (nI (n + 1)))) w H → va_S (gA g) s.heap H locs → W p l e rmA s m args below meth c0 H locs 8 300 Q (F0 m 332 ls [.int 1])) : W p l e rmA s m args below meth c0 H locs 8 300 Q (F0 m 308 ls [.int (nI n)]) := by
  obtain ⟨hx, hb, hml, hown, hts, hbt⟩ := C
  have k1 := hts (.fieldLink RL 30 "TaxiRankLaw$Rank" "all" "I") (by decide +kernel)
  refine lv_aload_n hx hb dL_act_308 rfl (lv_at hl 1 rfl) ?_
  refine gx_get hx hb hown hZ hG 8 0 7 hR.k8 rfl (by decide) k1 (fun _ h => h) (v := .int (nI n)) (congrArg Value.int e7) dL_act_309 ?_
  refine lv_icmp_eq (tgt := 317) hx hb dL_act_312 (by decide) (fun c_1 => ?_) (fun c_1 => ?_)
  · skip
    refine lv_aload_n hx hb dL_act_317 rfl (lv_at hl 1 rfl) ?_
    refine lv_dup hx hb dL_act_318 rfl ?_
    refine gx_get hx hb hown hZ hG 8 0 7 hR.k8 rfl (by decide) k1 (fun _ h => h) (v := .int (nI n)) (congrArg Value.int e7) dL_act_319 ?_
    refine lv_iconst (v := 1) hx hb dL_act_322 (by decide) ?_
    refine lv_iadd hx hb dL_act_323 ?_
    refine gx_topN (y := nI (n + 1)) (by rw [show (1 : Int32) = nI 1 from rfl, nI_add]) ?_
    refine gx_put hx hb hown hZ hG hS 8 0 7 (nI (n + 1)) hR.k8 rfl (by decide) k1 (fun _ h => h) rfl rfl trivial rfl rfl dL_act_324 (fun H locs hG hS => ?_)
    refine lv_aload_n hx hb dL_act_327 rfl (lv_at hl 1 rfl) ?_
    refine gx_cM (gx_runV (As := []) (rest := []) ⟨hx, hb, hml, hown, hts⟩ (c_X3_offer l g (gst τ 8 0 7 (nI (n + 1))) w N hR2 hQ ha hN hE) (cwV 0 hts gL_act_X3_offer rfl rfl rfl (by decide +kernel) ⟨Nat.le_of_ble_eq_true rfl, Nat.le_of_ble_eq_true rfl⟩) (gx_obj hZ hG 8 0 hR.k8 rfl) hZ hG hS rfl hl.1 rfl (Nat.le_of_ble_eq_true rfl) dL_act_328 ⟨Nat.le_of_ble_eq_true rfl, Nat.le_of_ble_eq_true rfl⟩) hS (fun H locs hG hS hsz => ?_)
    refine lv_iconst (v := 1) hx hb dL_act_331 (by decide) ?_
    exact kk _ _ ls hG hS
  · skip
    exact absurd rfl c_1
end ACT
