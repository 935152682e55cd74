theorem LQ_of {kl ka : Nat} {g g' : gG} {σ σ1 : Mem} {n : Nat} {w : Int64} {H : Heap} {z : Int32} (hne : kl ≠ ka) (hla : gLA g g' ka) (hG : GW g' (gst (gst σ1 ka 0 n (nI n)) kl 0 2 z) w H) (hz : z = nI (n + 1)) (h1 : σ1 kl 0 1 = 1) (hc : gcn g' ka = 1) (h2 : n + 1 ≤ gln g' ka 0) (h3 : gln g' ka 0 ≤ 100) (h4 : 10 ≤ gln g' ka 0)
    (hold : ∀ j, j < n → σ1 ka 0 j = σ ka 0 j) (hoth : ∀ k i f, k ≠ kl → k ≠ ka → σ1 k i f = σ k i f) : LQ kl ka g σ n w H := by
  refine ⟨g', _, hla, hG, by rw [gst_eq, hz], ?_, hc, h2, h3, h4, fun j hj => ?_, ?_, fun k i f hk hk2 => ?_⟩
  · rw [gst_nf (by decide), gst_nk hne]; exact h1
  · rw [gst_nk (Ne.symm hne), gst_nf (by omega)]; exact hold j hj
  · rw [gst_nk (Ne.symm hne), gst_eq]
  · rw [gst_nk hk, gst_nk hk2]; exact hoth k i f hk hk2
theorem gElm_l {σ : Mem} {kl ka : Nat} {x : Nat → Int32} (hne : kl ≠ ka) : gElm σ kl ka x kl 0 1 = 1 := by
  unfold gElm
  rw [if_neg (fun z => hne z.1), if_pos ⟨rfl, rfl, rfl⟩]
theorem gElm_a {σ : Mem} {kl ka : Nat} {x : Nat → Int32} {j : Nat} : gElm σ kl ka x ka 0 j = x j := by
  unfold gElm
  rw [if_pos ⟨rfl, rfl⟩]
theorem gElm_o {σ : Mem} {kl ka : Nat} {x : Nat → Int32} {k i f : Nat} (h1 : k ≠ kl) (h2 : k ≠ ka) : gElm σ kl ka x k i f = σ k i f := by
  unfold gElm
  rw [if_neg (fun z => h2 z.1), if_neg (fun z => h1 z.1)]
set_option maxHeartbeats 4000000 in
set_option maxRecDepth 100000 in
theorem c_add3A2 (l : Launch) (g : gG) (σ : Mem) (w : Int64) (n : Nat) (hl1 : gcn g 2 = 1) (hke : n < gcn g 6) (h60 : n ≤ 60) (hn0 : n = 0) (hz1 : σ 2 0 1 = 0) (hca : gcn g 4 = 0) (hz2 : σ 2 0 2 = nI n) : Met l yJx4a65c_add_72be8 wsJx4a65c_add_72be8 ({ frames := 3, cells := 1, slots := 10, locals := 64 } : Room) (gPc g σ w [.ref (gad g 2 0), .ref (gad g 6 n), .ref ((gem g)), .int (nI n)]) (gE g (fun v H => v = none ∧ LQ 2 4 g σ n w H)) 1 10 (gA g) := by
  refine gx_ofW (cc := cJx4a65c_add_72be8) (maxL := 4) (ret := none) (by decide) rfl (Nat.le_of_ble_eq_true rfl) ?_
  intro p e s m below meth c0 hx hb hr hml hts hown hlocks hin hG hZ hS ls hl
  have hown : s.vm.findClass RJx4a65c = some m.cls := hown
  have hl : lv_has ls 4 [(0, .ref (gad g 2 0)), (1, .ref (gad g 6 n)), (2, .ref ((gem g))), (3, .int (nI n))] := hl
  have k1 := hts (.fieldLink RJx4a65c 48 "java/util/ArrayList" "size" "I") (by decide +kernel)
  refine lv_iload_n hx hb dJx4a65c_add_72be8_0 rfl (lv_at hl 3 rfl) ?_
  refine lv_aload_n hx hb dJx4a65c_add_72be8_1 rfl (lv_at hl 2 rfl) ?_
  refine va_tlen hx hb hZ.2.2.2.2.2.2.2.2.1 hS (v := 0) rfl dJx4a65c_add_72be8_2 ?_
  refine lv_icmp_ne (tgt := 11) hx hb dJx4a65c_add_72be8_3 (by decide) (fun c_1 => ?_) (fun c_1 => ?_)
  · skip
    exact absurd (by rw [hn0]; rfl) c_1
  · skip
    refine lv_aload_n hx hb dJx4a65c_add_72be8_6 rfl (lv_at hl 0 rfl) ?_
    refine gx_cE (gx_runV (As := []) (rest := []) ⟨hx, hb, hml, hown, hts⟩ (c_grow0A2 l g σ w hl1 hz1 hca (by rw [hz2, hn0]; rfl)) (cwV 0 hts gJx4a65c_add_72be8_Jx4a65c_grow_d5877 rfl rfl rfl (by decide +kernel) ⟨Nat.le_of_ble_eq_true rfl, Nat.le_of_ble_eq_true rfl⟩) (gx_obj hZ hG 2 0 (by rw [hl1]; decide) rfl) hZ hG hS rfl hl.1 rfl (Nat.le_of_ble_eq_true rfl) dJx4a65c_add_72be8_7 ⟨Nat.le_of_ble_eq_true rfl, Nat.le_of_ble_eq_true rfl⟩) hS (fun vr H1 locs1 hPo hS hsz => ?_)
    obtain ⟨q, rfl, hG⟩ := hPo
    have hS00 := hS
    have hla := gLA.arr g 4 q 10
    obtain ⟨g, hg⟩ : ∃ z : gG, z = gArr g 4 q 10 := ⟨_, rfl⟩
    rw [← hg] at hla
    rw [← hg] at hG
    have hZ : ZZ g s := by rw [hg]; exact hZ
    have hS : va_S (gA g) s.heap H1 locs1 := by rw [hg]; exact hS
    have hl : lv_has ls 4 [(0, .ref (gad g 2 0)), (1, .ref (gad g 6 n)), (2, .ref ((gem g))), (3, .int (nI n))] := by rw [hg]; exact lv_sub hl [0, 1, 2, 3] rfl
    have hca1 : gcn g 4 = 1 := by rw [hg]; rfl
    have hke : n < gcn g 6 := by rw [hg]; exact hke
    have hl1 : gcn g 2 = 1 := by rw [hg]; exact hl1
    have hq0 : gad g 4 0 = q := by rw [hg]; rfl
    refine gx_topV (congrArg Value.ref hq0.symm) ?_
    refine lv_astore_n (lv' := [(2, .ref (gad g 4 0)), (0, .ref (gad g 2 0)), (1, .ref (gad g 6 n)), (3, .int (nI n))]) hx hb dJx4a65c_add_72be8_10 rfl hl (by decide) rfl (fun ls hl => ?_)
    have hln1 : gln g 4 0 = 10 := by rw [hg]; rfl
    refine lv_aload_n hx hb dJx4a65c_add_72be8_11 rfl (lv_at hl 0 rfl) ?_
    refine lv_iload_n hx hb dJx4a65c_add_72be8_12 rfl (lv_at hl 3 rfl) ?_
    refine lv_aload_n hx hb dJx4a65c_add_72be8_13 rfl (lv_at hl 2 rfl) ?_
    refine gx_aast hx hb hZ hG hS 4 0 6 n (x := nI n) (by rw [hca1]; decide) rfl rfl hke rfl (by decide +kernel) (vp_in_nI (by rw [hln1]; omega) (by omega)) (by rw [ix_nI (by omega)]; exact grf_nI (by omega)) (by rw [ix_nI (by omega)]; exact Or.inr ⟨n, hke, rfl⟩) dJx4a65c_add_72be8_14 (fun H locs hG hS => ?_)
    rw [ix_nI (by omega)] at hG
    refine lv_aload_n hx hb dJx4a65c_add_72be8_15 rfl (lv_at hl 1 rfl) ?_
    refine lv_iload_n hx hb dJx4a65c_add_72be8_16 rfl (lv_at hl 3 rfl) ?_
    refine lv_iconst (v := 1) hx hb dJx4a65c_add_72be8_17 (by decide) ?_
    refine lv_iadd hx hb dJx4a65c_add_72be8_18 ?_
    refine gx_topN (y := nI (n + 1)) (by rw [show (1 : Int32) = nI 1 from rfl, nI_add]) ?_
    refine gx_put hx hb hown hZ hG hS 2 0 2 (nI (n + 1)) (by rw [hl1]; decide) rfl (by decide) k1 (fun _ h => h) rfl rfl trivial rfl rfl dJx4a65c_add_72be8_19 (fun H locs hG hS => ?_)
    rw [hg] at hS
    exact gx_vretE hx hb hr hlocks hS ⟨rfl, LQ_of (by decide) hla hG rfl (gElm_l (by decide)) hca1 (by rw [hln1]; omega) (by rw [hln1]; decide) (by rw [hln1]; decide) (fun j hj => by omega) (fun k i f h1 h2 => gElm_o h1 h2)⟩ (Nat.le_of_ble_eq_true rfl) (Nat.le_of_ble_eq_true rfl) dJx4a65c_add_72be8_22
set_option maxHeartbeats 4000000 in
set_option maxRecDepth 100000 in
theorem c_add3B2 (l : Launch) (g : gG) (σ : Mem) (w : Int64) (n : Nat) (hl1 : gcn g 2 = 1) (hke : n < gcn g 6) (h60 : n ≤ 60) (hz1 : σ 2 0 1 = 1) (hca1 : gcn g 4 = 1) (hlt : n < gln g 4 0) (h100 : gln g 4 0 ≤ 100) (h10 : 10 ≤ gln g 4 0) : Met l yJx4a65c_add_72be8 wsJx4a65c_add_72be8 ({ frames := 0, cells := 0, slots := 0, locals := 0 } : Room) (gPc g σ w [.ref (gad g 2 0), .ref (gad g 6 n), .ref (gad g 4 0), .int (nI n)]) (gE g (fun v H => v = none ∧ LQ 2 4 g σ n w H)) 0 0 (gA g) := by
  refine gx_ofW (cc := cJx4a65c_add_72be8) (maxL := 4) (ret := none) (by decide) rfl (Nat.le_of_ble_eq_true rfl) ?_
  intro p e s m below meth c0 hx hb hr hml hts hown hlocks hin hG hZ hS ls hl
  have hown : s.vm.findClass RJx4a65c = some m.cls := hown
  have hl : lv_has ls 4 [(0, .ref (gad g 2 0)), (1, .ref (gad g 6 n)), (2, .ref (gad g 4 0)), (3, .int (nI n))] := hl
  have k1 := hts (.fieldLink RJx4a65c 48 "java/util/ArrayList" "size" "I") (by decide +kernel)
  refine lv_iload_n hx hb dJx4a65c_add_72be8_0 rfl (lv_at hl 3 rfl) ?_
  refine lv_aload_n hx hb dJx4a65c_add_72be8_1 rfl (lv_at hl 2 rfl) ?_
  refine gx_len hx hb hZ hG 4 0 (by rw [hca1]; decide) rfl (gx_KO hZ).1 (v := nI (gln g 4 0)) rfl dJx4a65c_add_72be8_2 ?_
  refine lv_icmp_ne (tgt := 11) hx hb dJx4a65c_add_72be8_3 (by decide) (fun c_1 => ?_) (fun c_1 => ?_)
  · skip
    refine lv_aload_n hx hb dJx4a65c_add_72be8_11 rfl (lv_at hl 2 rfl) ?_
    refine lv_iload_n hx hb dJx4a65c_add_72be8_12 rfl (lv_at hl 3 rfl) ?_
    refine lv_aload_n hx hb dJx4a65c_add_72be8_13 rfl (lv_at hl 1 rfl) ?_
    refine gx_aast hx hb hZ hG hS 4 0 6 n (x := nI n) (by rw [hca1]; decide) rfl rfl hke rfl (by decide +kernel) (vp_in_nI hlt (by omega)) (by rw [ix_nI (by omega)]; exact grf_nI (by omega)) (by rw [ix_nI (by omega)]; exact Or.inr ⟨n, hke, rfl⟩) dJx4a65c_add_72be8_14 (fun H locs hG hS => ?_)
    rw [ix_nI (by omega)] at hG
    refine lv_aload_n hx hb dJx4a65c_add_72be8_15 rfl (lv_at hl 0 rfl) ?_
    refine lv_iload_n hx hb dJx4a65c_add_72be8_16 rfl (lv_at hl 3 rfl) ?_
    refine lv_iconst (v := 1) hx hb dJx4a65c_add_72be8_17 (by decide) ?_
    refine lv_iadd hx hb dJx4a65c_add_72be8_18 ?_
    refine gx_topN (y := nI (n + 1)) (by rw [show (1 : Int32) = nI 1 from rfl, nI_add]) ?_
    refine gx_put hx hb hown hZ hG hS 2 0 2 (nI (n + 1)) (by rw [hl1]; decide) rfl (by decide) k1 (fun _ h => h) rfl rfl trivial rfl rfl dJx4a65c_add_72be8_19 (fun H locs hG hS => ?_)
    exact gx_vretE hx hb hr hlocks hS ⟨rfl, LQ_of (by decide) (gLA.rf _ _) hG rfl hz1 hca1 hlt h100 h10 (fun _ _ => rfl) (fun _ _ _ _ _ => rfl)⟩ (Nat.le_of_ble_eq_true rfl) (Nat.le_of_ble_eq_true rfl) dJx4a65c_add_72be8_22
  · skip
    exact absurd (nI_inj (by omega) (by omega) c_1) (by omega)
theorem LQ_gst2 {g : gG} {σ : Mem} {n : Nat} {w : Int64} {H : Heap} {v : Int32} (h : LQ 2 4 g (gst σ 2 0 0 v) n w H) : LQ 2 4 g σ n w H := by
  obtain ⟨g', σ', h1, h2, h3, h4, h5, h6, h7, h8, h9, h10, h11⟩ := h
  exact ⟨g', σ', h1, h2, h3, h4, h5, h6, h7, h8, fun j hj => by rw [h9 j hj, gst_nk (by decide)], h10, fun k i f hk hk2 => by rw [h11 k i f hk hk2, gst_nk hk]⟩
set_option maxHeartbeats 4000000 in
set_option maxRecDepth 100000 in
theorem c_add12 (l : Launch) (g : gG) (σ : Mem) (w : Int64) (n : Nat) (hL : LPn 2 4 6 g σ n) (hn9 : n < 10) : Met l yJx4a65c_add_9ea2d wsJx4a65c_add_9ea2d ({ frames := 4, cells := 1, slots := 10, locals := 87 } : Room) (gPc g σ w [.ref (gad g 2 0), .ref (gad g 6 n)]) (gE g (fun v H => v = some (.int 1) ∧ LQ 2 4 g σ n w H)) 1 10 (gA g) := by
  refine gx_ofW (cc := cJx4a65c_add_9ea2d) (maxL := 2) (ret := (some .boolean)) (by decide) rfl (Nat.le_of_ble_eq_true rfl) ?_
  intro p e s m below meth c0 hx hb hr hml hts hown hlocks hin hG hZ hS ls hl
  have hown : s.vm.findClass RJx4a65c = some m.cls := hown
  have hl : lv_has ls 2 [(0, .ref (gad g 2 0)), (1, .ref (gad g 6 n))] := hl
  have k1 := hts (.sameField "java/util/ArrayList" "java/util/AbstractList" "modCount" "I") (by decide +kernel)
  have k2 := hts (.fieldLink RJx4a65c 63 "java/util/ArrayList" "modCount" "I") (by decide +kernel)
  have k3 := hts (.fieldLink RJx4a65c 9 "java/util/ArrayList" "elementData" "[Ljava/lang/Object;") (by decide +kernel)
  have k4 := hts (.fieldLink RJx4a65c 48 "java/util/ArrayList" "size" "I") (by decide +kernel)
  obtain ⟨ht3, hl1, hke, hz2, h60, hcs⟩ := hL
  rcases hcs with ⟨hn0, hz1, hca⟩ | ⟨hz1, hca, hle, h100, h10⟩
  · skip
    refine lv_aload_n hx hb dJx4a65c_add_9ea2d_0 rfl (lv_at hl 0 rfl) ?_
    refine lv_dup hx hb dJx4a65c_add_9ea2d_1 rfl ?_
    refine gx_get hx hb hown hZ hG 2 0 0 (by rw [hl1]; decide) rfl (by decide) k2 (u_same k1) (v := .int (σ 2 0 0)) rfl dJx4a65c_add_9ea2d_2 ?_
    refine lv_iconst (v := 1) hx hb dJx4a65c_add_9ea2d_5 (by decide) ?_
    refine lv_iadd hx hb dJx4a65c_add_9ea2d_6 ?_
    refine gx_put hx hb hown hZ hG hS 2 0 0 ((σ 2 0 0) + 1) (by rw [hl1]; decide) rfl (by decide) k2 (u_same k1) rfl rfl trivial rfl rfl dJx4a65c_add_9ea2d_7 (fun H locs hG hS => ?_)
    refine lv_aload_n hx hb dJx4a65c_add_9ea2d_10 rfl (lv_at hl 0 rfl) ?_
    refine lv_aload_n hx hb dJx4a65c_add_9ea2d_11 rfl (lv_at hl 1 rfl) ?_
    refine lv_aload_n hx hb dJx4a65c_add_9ea2d_12 rfl (lv_at hl 0 rfl) ?_
    refine gx_get hx hb hown hZ hG 2 0 1 (by rw [hl1]; decide) rfl (by decide) k3 (fun _ h => h) (v := .ref (gem g)) (gel_0 (by rw [gst_nf (by decide)]; exact hz1)) dJx4a65c_add_9ea2d_13 ?_
    refine lv_aload_n hx hb dJx4a65c_add_9ea2d_16 rfl (lv_at hl 0 rfl) ?_
    refine gx_get hx hb hown hZ hG 2 0 2 (by rw [hl1]; decide) rfl (by decide) k4 (fun _ h => h) (v := .int (nI n)) (congrArg Value.int (by rw [gst_nf (by decide)]; exact hz2)) dJx4a65c_add_9ea2d_17 ?_
    refine gx_cE (gx_runV (As := [.ref (gad g 6 n), .ref ((gem g)), .int (nI n)]) (rest := []) ⟨hx, hb, hml, hown, hts⟩ (c_add3A2 l g (gst σ 2 0 0 ((σ 2 0 0) + 1)) w n hl1 hke h60 hn0 (by rw [gst_nf (by decide)]; exact hz1) hca (by rw [gst_nf (by decide)]; exact hz2)) (cwV 3 hts gJx4a65c_add_9ea2d_Jx4a65c_add_72be8 rfl rfl rfl (by decide +kernel) ⟨Nat.le_of_ble_eq_true rfl, Nat.le_of_ble_eq_true rfl⟩) (gx_obj hZ hG 2 0 (by rw [hl1]; decide) rfl) hZ hG hS rfl hl.1 rfl (Nat.le_of_ble_eq_true rfl) dJx4a65c_add_9ea2d_20 ⟨Nat.le_of_ble_eq_true rfl, Nat.le_of_ble_eq_true rfl⟩) hS (fun vr H1 locs1 hPo hS hsz => ?_)
    obtain ⟨rfl, hLQ⟩ := hPo
    refine lv_iconst (v := 1) hx hb dJx4a65c_add_9ea2d_23 (by decide) ?_
    exact gx_zretE hx hb hr hlocks hS rfl ⟨rfl, LQ_gst2 hLQ⟩ (Nat.le_of_ble_eq_true rfl) (Nat.le_of_ble_eq_true rfl) dJx4a65c_add_9ea2d_24
  · skip
    rcases Nat.lt_or_ge n (gln g 4 0) with hlt | hge
    · skip
      refine lv_aload_n hx hb dJx4a65c_add_9ea2d_0 rfl (lv_at hl 0 rfl) ?_
      refine lv_dup hx hb dJx4a65c_add_9ea2d_1 rfl ?_
      refine gx_get hx hb hown hZ hG 2 0 0 (by rw [hl1]; decide) rfl (by decide) k2 (u_same k1) (v := .int (σ 2 0 0)) rfl dJx4a65c_add_9ea2d_2 ?_
      refine lv_iconst (v := 1) hx hb dJx4a65c_add_9ea2d_5 (by decide) ?_
      refine lv_iadd hx hb dJx4a65c_add_9ea2d_6 ?_
      refine gx_put hx hb hown hZ hG hS 2 0 0 ((σ 2 0 0) + 1) (by rw [hl1]; decide) rfl (by decide) k2 (u_same k1) rfl rfl trivial rfl rfl dJx4a65c_add_9ea2d_7 (fun H locs hG hS => ?_)
      refine lv_aload_n hx hb dJx4a65c_add_9ea2d_10 rfl (lv_at hl 0 rfl) ?_
      refine lv_aload_n hx hb dJx4a65c_add_9ea2d_11 rfl (lv_at hl 1 rfl) ?_
      refine lv_aload_n hx hb dJx4a65c_add_9ea2d_12 rfl (lv_at hl 0 rfl) ?_
      refine gx_get hx hb hown hZ hG 2 0 1 (by rw [hl1]; decide) rfl (by decide) k3 (fun _ h => h) (v := .ref (gad g 4 0)) (gel_1 (by rw [gst_nf (by decide)]; exact hz1)) dJx4a65c_add_9ea2d_13 ?_
      refine lv_aload_n hx hb dJx4a65c_add_9ea2d_16 rfl (lv_at hl 0 rfl) ?_
      refine gx_get hx hb hown hZ hG 2 0 2 (by rw [hl1]; decide) rfl (by decide) k4 (fun _ h => h) (v := .int (nI n)) (congrArg Value.int (by rw [gst_nf (by decide)]; exact hz2)) dJx4a65c_add_9ea2d_17 ?_
      refine gx_cE (gx_runV (As := [.ref (gad g 6 n), .ref (gad g 4 0), .int (nI n)]) (rest := []) ⟨hx, hb, hml, hown, hts⟩ (c_add3B2 l g (gst σ 2 0 0 ((σ 2 0 0) + 1)) w n hl1 hke h60 (by rw [gst_nf (by decide)]; exact hz1) hca hlt h100 h10) (cwV 3 hts gJx4a65c_add_9ea2d_Jx4a65c_add_72be8 rfl rfl rfl (by decide +kernel) ⟨Nat.le_of_ble_eq_true rfl, Nat.le_of_ble_eq_true rfl⟩) (gx_obj hZ hG 2 0 (by rw [hl1]; decide) rfl) hZ hG hS rfl hl.1 rfl (Nat.le_of_ble_eq_true rfl) dJx4a65c_add_9ea2d_20 ⟨Nat.le_of_ble_eq_true rfl, Nat.le_of_ble_eq_true rfl⟩) hS (fun vr H1 locs1 hPo hS hsz => ?_)
      obtain ⟨rfl, hLQ⟩ := hPo
      refine lv_iconst (v := 1) hx hb dJx4a65c_add_9ea2d_23 (by decide) ?_
      exact gx_zretE hx hb hr hlocks hS rfl ⟨rfl, LQ_gst2 hLQ⟩ (Nat.le_of_ble_eq_true rfl) (Nat.le_of_ble_eq_true rfl) dJx4a65c_add_9ea2d_24
    · skip
      exact absurd hn9 (by omega)
set_option maxHeartbeats 4000000 in
set_option maxRecDepth 100000 in
theorem c_add3A3 (l : Launch) (g : gG) (σ : Mem) (w : Int64) (n : Nat) (hl1 : gcn g 3 = 1) (hke : n < gcn g 7) (h60 : n ≤ 60) (hn0 : n = 0) (hz1 : σ 3 0 1 = 0) (hca : gcn g 5 = 0) (hz2 : σ 3 0 2 = nI n) : Met l yJx4a65c_add_72be8 wsJx4a65c_add_72be8 ({ frames := 3, cells := 1, slots := 10, locals := 64 } : Room) (gPc g σ w [.ref (gad g 3 0), .ref (gad g 7 n), .ref ((gem g)), .int (nI n)]) (gE g (fun v H => v = none ∧ LQ 3 5 g σ n w H)) 1 10 (gA g) := by
  refine gx_ofW (cc := cJx4a65c_add_72be8) (maxL := 4) (ret := none) (by decide) rfl (Nat.le_of_ble_eq_true rfl) ?_
  intro p e s m below meth c0 hx hb hr hml hts hown hlocks hin hG hZ hS ls hl
  have hown : s.vm.findClass RJx4a65c = some m.cls := hown
  have hl : lv_has ls 4 [(0, .ref (gad g 3 0)), (1, .ref (gad g 7 n)), (2, .ref ((gem g))), (3, .int (nI n))] := hl
  have k1 := hts (.fieldLink RJx4a65c 48 "java/util/ArrayList" "size" "I") (by decide +kernel)
  refine lv_iload_n hx hb dJx4a65c_add_72be8_0 rfl (lv_at hl 3 rfl) ?_
  refine lv_aload_n hx hb dJx4a65c_add_72be8_1 rfl (lv_at hl 2 rfl) ?_
  refine va_tlen hx hb hZ.2.2.2.2.2.2.2.2.1 hS (v := 0) rfl dJx4a65c_add_72be8_2 ?_
  refine lv_icmp_ne (tgt := 11) hx hb dJx4a65c_add_72be8_3 (by decide) (fun c_1 => ?_) (fun c_1 => ?_)
  · skip
    exact absurd (by rw [hn0]; rfl) c_1
  · skip
    refine lv_aload_n hx hb dJx4a65c_add_72be8_6 rfl (lv_at hl 0 rfl) ?_
    refine gx_cE (gx_runV (As := []) (rest := []) ⟨hx, hb, hml, hown, hts⟩ (c_grow0A3 l g σ w hl1 hz1 hca (by rw [hz2, hn0]; rfl)) (cwV 0 hts gJx4a65c_add_72be8_Jx4a65c_grow_d5877 rfl rfl rfl (by decide +kernel) ⟨Nat.le_of_ble_eq_true rfl, Nat.le_of_ble_eq_true rfl⟩) (gx_obj hZ hG 3 0 (by rw [hl1]; decide) rfl) hZ hG hS rfl hl.1 rfl (Nat.le_of_ble_eq_true rfl) dJx4a65c_add_72be8_7 ⟨Nat.le_of_ble_eq_true rfl, Nat.le_of_ble_eq_true rfl⟩) hS (fun vr H1 locs1 hPo hS hsz => ?_)
    obtain ⟨q, rfl, hG⟩ := hPo
    have hS00 := hS
    have hla := gLA.arr g 5 q 10
    obtain ⟨g, hg⟩ : ∃ z : gG, z = gArr g 5 q 10 := ⟨_, rfl⟩
    rw [← hg] at hla
    rw [← hg] at hG
    have hZ : ZZ g s := by rw [hg]; exact hZ
    have hS : va_S (gA g) s.heap H1 locs1 := by rw [hg]; exact hS
    have hl : lv_has ls 4 [(0, .ref (gad g 3 0)), (1, .ref (gad g 7 n)), (2, .ref ((gem g))), (3, .int (nI n))] := by rw [hg]; exact lv_sub hl [0, 1, 2, 3] rfl
    have hca1 : gcn g 5 = 1 := by rw [hg]; rfl
    have hke : n < gcn g 7 := by rw [hg]; exact hke
    have hl1 : gcn g 3 = 1 := by rw [hg]; exact hl1
    have hq0 : gad g 5 0 = q := by rw [hg]; rfl
    refine gx_topV (congrArg Value.ref hq0.symm) ?_
    refine lv_astore_n (lv' := [(2, .ref (gad g 5 0)), (0, .ref (gad g 3 0)), (1, .ref (gad g 7 n)), (3, .int (nI n))]) hx hb dJx4a65c_add_72be8_10 rfl hl (by decide) rfl (fun ls hl => ?_)
    have hln1 : gln g 5 0 = 10 := by rw [hg]; rfl
    refine lv_aload_n hx hb dJx4a65c_add_72be8_11 rfl (lv_at hl 0 rfl) ?_
    refine lv_iload_n hx hb dJx4a65c_add_72be8_12 rfl (lv_at hl 3 rfl) ?_
    refine lv_aload_n hx hb dJx4a65c_add_72be8_13 rfl (lv_at hl 2 rfl) ?_
    refine gx_aast hx hb hZ hG hS 5 0 7 n (x := nI n) (by rw [hca1]; decide) rfl rfl hke rfl (by decide +kernel) (vp_in_nI (by rw [hln1]; omega) (by omega)) (by rw [ix_nI (by omega)]; exact grf_nI (by omega)) (by rw [ix_nI (by omega)]; exact Or.inr ⟨n, hke, rfl⟩) dJx4a65c_add_72be8_14 (fun H locs hG hS => ?_)
    rw [ix_nI (by omega)] at hG
    refine lv_aload_n hx hb dJx4a65c_add_72be8_15 rfl (lv_at hl 1 rfl) ?_
    refine lv_iload_n hx hb dJx4a65c_add_72be8_16 rfl (lv_at hl 3 rfl) ?_
    refine lv_iconst (v := 1) hx hb dJx4a65c_add_72be8_17 (by decide) ?_
    refine lv_iadd hx hb dJx4a65c_add_72be8_18 ?_
    refine gx_topN (y := nI (n + 1)) (by rw [show (1 : Int32) = nI 1 from rfl, nI_add]) ?_
    refine gx_put hx hb hown hZ hG hS 3 0 2 (nI (n + 1)) (by rw [hl1]; decide) rfl (by decide) k1 (fun _ h => h) rfl rfl trivial rfl rfl dJx4a65c_add_72be8_19 (fun H locs hG hS => ?_)
    rw [hg] at hS
    exact gx_vretE hx hb hr hlocks hS ⟨rfl, LQ_of (by decide) hla hG rfl (gElm_l (by decide)) hca1 (by rw [hln1]; omega) (by rw [hln1]; decide) (by rw [hln1]; decide) (fun j hj => by omega) (fun k i f h1 h2 => gElm_o h1 h2)⟩ (Nat.le_of_ble_eq_true rfl) (Nat.le_of_ble_eq_true rfl) dJx4a65c_add_72be8_22
set_option maxHeartbeats 4000000 in
set_option maxRecDepth 100000 in
theorem c_add3B3 (l : Launch) (g : gG) (σ : Mem) (w : Int64) (n : Nat) (hl1 : gcn g 3 = 1) (hke : n < gcn g 7) (h60 : n ≤ 60) (hz1 : σ 3 0 1 = 1) (hca1 : gcn g 5 = 1) (hlt : n < gln g 5 0) (h100 : gln g 5 0 ≤ 100) (h10 : 10 ≤ gln g 5 0) : Met l yJx4a65c_add_72be8 wsJx4a65c_add_72be8 ({ frames := 0, cells := 0, slots := 0, locals := 0 } : Room) (gPc g σ w [.ref (gad g 3 0), .ref (gad g 7 n), .ref (gad g 5 0), .int (nI n)]) (gE g (fun v H => v = none ∧ LQ 3 5 g σ n w H)) 0 0 (gA g) := by
  refine gx_ofW (cc := cJx4a65c_add_72be8) (maxL := 4) (ret := none) (by decide) rfl (Nat.le_of_ble_eq_true rfl) ?_
  intro p e s m below meth c0 hx hb hr hml hts hown hlocks hin hG hZ hS ls hl
  have hown : s.vm.findClass RJx4a65c = some m.cls := hown
  have hl : lv_has ls 4 [(0, .ref (gad g 3 0)), (1, .ref (gad g 7 n)), (2, .ref (gad g 5 0)), (3, .int (nI n))] := hl
  have k1 := hts (.fieldLink RJx4a65c 48 "java/util/ArrayList" "size" "I") (by decide +kernel)
  refine lv_iload_n hx hb dJx4a65c_add_72be8_0 rfl (lv_at hl 3 rfl) ?_
  refine lv_aload_n hx hb dJx4a65c_add_72be8_1 rfl (lv_at hl 2 rfl) ?_
  refine gx_len hx hb hZ hG 5 0 (by rw [hca1]; decide) rfl (gx_KO hZ).1 (v := nI (gln g 5 0)) rfl dJx4a65c_add_72be8_2 ?_
  refine lv_icmp_ne (tgt := 11) hx hb dJx4a65c_add_72be8_3 (by decide) (fun c_1 => ?_) (fun c_1 => ?_)
  · skip
    refine lv_aload_n hx hb dJx4a65c_add_72be8_11 rfl (lv_at hl 2 rfl) ?_
    refine lv_iload_n hx hb dJx4a65c_add_72be8_12 rfl (lv_at hl 3 rfl) ?_
    refine lv_aload_n hx hb dJx4a65c_add_72be8_13 rfl (lv_at hl 1 rfl) ?_
    refine gx_aast hx hb hZ hG hS 5 0 7 n (x := nI n) (by rw [hca1]; decide) rfl rfl hke rfl (by decide +kernel) (vp_in_nI hlt (by omega)) (by rw [ix_nI (by omega)]; exact grf_nI (by omega)) (by rw [ix_nI (by omega)]; exact Or.inr ⟨n, hke, rfl⟩) dJx4a65c_add_72be8_14 (fun H locs hG hS => ?_)
    rw [ix_nI (by omega)] at hG
    refine lv_aload_n hx hb dJx4a65c_add_72be8_15 rfl (lv_at hl 0 rfl) ?_
    refine lv_iload_n hx hb dJx4a65c_add_72be8_16 rfl (lv_at hl 3 rfl) ?_
    refine lv_iconst (v := 1) hx hb dJx4a65c_add_72be8_17 (by decide) ?_
    refine lv_iadd hx hb dJx4a65c_add_72be8_18 ?_
    refine gx_topN (y := nI (n + 1)) (by rw [show (1 : Int32) = nI 1 from rfl, nI_add]) ?_
    refine gx_put hx hb hown hZ hG hS 3 0 2 (nI (n + 1)) (by rw [hl1]; decide) rfl (by decide) k1 (fun _ h => h) rfl rfl trivial rfl rfl dJx4a65c_add_72be8_19 (fun H locs hG hS => ?_)
    exact gx_vretE hx hb hr hlocks hS ⟨rfl, LQ_of (by decide) (gLA.rf _ _) hG rfl hz1 hca1 hlt h100 h10 (fun _ _ => rfl) (fun _ _ _ _ _ => rfl)⟩ (Nat.le_of_ble_eq_true rfl) (Nat.le_of_ble_eq_true rfl) dJx4a65c_add_72be8_22
  · skip
    exact absurd (nI_inj (by omega) (by omega) c_1) (by omega)
set_option maxHeartbeats 4000000 in
set_option maxRecDepth 100000 in
theorem c_add3C3 (l : Launch) (g : gG) (σ : Mem) (w : Int64) (n : Nat) (hl1 : gcn g 3 = 1) (hke : n < gcn g 7) (h60 : n ≤ 60) (hz1 : σ 3 0 1 = 1) (hca : gcn g 5 = 1) (hln : gln g 5 0 = n) (h10 : 10 ≤ n) (hz2 : σ 3 0 2 = nI n) : Met l yJx4a65c_add_72be8 wsJx4a65c_add_72be8 ({ frames := 5, cells := 1, slots := 200, locals := 115 } : Room) (gPc g σ w [.ref (gad g 3 0), .ref (gad g 7 n), .ref (gad g 5 0), .int (nI n)]) (gE g (fun v H => v = none ∧ LQ 3 5 g σ n w H)) 1 200 (gA g) := by
  refine gx_ofW (cc := cJx4a65c_add_72be8) (maxL := 4) (ret := none) (by decide) rfl (Nat.le_of_ble_eq_true rfl) ?_
  intro p e s m below meth c0 hx hb hr hml hts hown hlocks hin hG hZ hS ls hl
  have hown : s.vm.findClass RJx4a65c = some m.cls := hown
  have hl : lv_has ls 4 [(0, .ref (gad g 3 0)), (1, .ref (gad g 7 n)), (2, .ref (gad g 5 0)), (3, .int (nI n))] := hl
  have k1 := hts (.fieldLink RJx4a65c 48 "java/util/ArrayList" "size" "I") (by decide +kernel)
  refine lv_iload_n hx hb dJx4a65c_add_72be8_0 rfl (lv_at hl 3 rfl) ?_
  refine lv_aload_n hx hb dJx4a65c_add_72be8_1 rfl (lv_at hl 2 rfl) ?_
  refine gx_len hx hb hZ hG 5 0 (by rw [hca]; decide) rfl (gx_KO hZ).1 (v := nI n) (by rw [hln]; rfl) dJx4a65c_add_72be8_2 ?_
  refine lv_icmp_ne (tgt := 11) hx hb dJx4a65c_add_72be8_3 (by decide) (fun c_1 => ?_) (fun c_1 => ?_)
  · skip
    exact absurd rfl c_1
  · skip
    refine lv_aload_n hx hb dJx4a65c_add_72be8_6 rfl (lv_at hl 0 rfl) ?_
    refine gx_cE (gx_runV (As := []) (rest := []) ⟨hx, hb, hml, hown, hts⟩ (c_grow0C3 l g σ w n hl1 hz1 hca hln h10 h60 hz2) (cwV 0 hts gJx4a65c_add_72be8_Jx4a65c_grow_d5877 rfl rfl rfl (by decide +kernel) ⟨Nat.le_of_ble_eq_true rfl, Nat.le_of_ble_eq_true rfl⟩) (gx_obj hZ hG 3 0 (by rw [hl1]; decide) rfl) hZ hG hS rfl hl.1 rfl (Nat.le_of_ble_eq_true rfl) dJx4a65c_add_72be8_7 ⟨Nat.le_of_ble_eq_true rfl, Nat.le_of_ble_eq_true rfl⟩) hS (fun vr H1 locs1 hPo hS hsz => ?_)
    obtain ⟨q, rfl, hG⟩ := hPo
    have hS00 := hS
    have hla := gLA.arr g 5 q (n + n / 2)
    obtain ⟨g, hg⟩ : ∃ z : gG, z = gArr g 5 q (n + n / 2) := ⟨_, rfl⟩
    rw [← hg] at hla
    rw [← hg] at hG
    have hZ : ZZ g s := by rw [hg]; exact hZ
    have hS : va_S (gA g) s.heap H1 locs1 := by rw [hg]; exact hS
    have hl : lv_has ls 4 [(0, .ref (gad g 3 0)), (1, .ref (gad g 7 n)), (3, .int (nI n))] := by rw [hg]; exact lv_sub hl [0, 1, 3] rfl
    have hca1 : gcn g 5 = 1 := by rw [hg]; rfl
    have hke : n < gcn g 7 := by rw [hg]; exact hke
    have hl1 : gcn g 3 = 1 := by rw [hg]; exact hl1
    have hq0 : gad g 5 0 = q := by rw [hg]; rfl
    refine gx_topV (congrArg Value.ref hq0.symm) ?_
    refine lv_astore_n (lv' := [(2, .ref (gad g 5 0)), (0, .ref (gad g 3 0)), (1, .ref (gad g 7 n)), (3, .int (nI n))]) hx hb dJx4a65c_add_72be8_10 rfl hl (by decide) rfl (fun ls hl => ?_)
    have hln1 : gln g 5 0 = n + n / 2 := by rw [hg]; rfl
    refine lv_aload_n hx hb dJx4a65c_add_72be8_11 rfl (lv_at hl 0 rfl) ?_
    refine lv_iload_n hx hb dJx4a65c_add_72be8_12 rfl (lv_at hl 3 rfl) ?_
    refine lv_aload_n hx hb dJx4a65c_add_72be8_13 rfl (lv_at hl 2 rfl) ?_
    refine gx_aast hx hb hZ hG hS 5 0 7 n (x := nI n) (by rw [hca1]; decide) rfl rfl hke rfl (by decide +kernel) (vp_in_nI (by rw [hln1]; omega) (by omega)) (by rw [ix_nI (by omega)]; exact grf_nI (by omega)) (by rw [ix_nI (by omega)]; exact Or.inr ⟨n, hke, rfl⟩) dJx4a65c_add_72be8_14 (fun H locs hG hS => ?_)
    rw [ix_nI (by omega)] at hG
    refine lv_aload_n hx hb dJx4a65c_add_72be8_15 rfl (lv_at hl 1 rfl) ?_
    refine lv_iload_n hx hb dJx4a65c_add_72be8_16 rfl (lv_at hl 3 rfl) ?_
    refine lv_iconst (v := 1) hx hb dJx4a65c_add_72be8_17 (by decide) ?_
    refine lv_iadd hx hb dJx4a65c_add_72be8_18 ?_
    refine gx_topN (y := nI (n + 1)) (by rw [show (1 : Int32) = nI 1 from rfl, nI_add]) ?_
    refine gx_put hx hb hown hZ hG hS 3 0 2 (nI (n + 1)) (by rw [hl1]; decide) rfl (by decide) k1 (fun _ h => h) rfl rfl trivial rfl rfl dJx4a65c_add_72be8_19 (fun H locs hG hS => ?_)
    rw [hg] at hS
    exact gx_vretE hx hb hr hlocks hS ⟨rfl, LQ_of (by decide) hla hG rfl (gElm_l (by decide)) hca1 (by rw [hln1]; omega) (by rw [hln1]; omega) (by rw [hln1]; omega) (fun j hj => by rw [gElm_a, if_pos hj]) (fun k i f h1 h2 => gElm_o h1 h2)⟩ (Nat.le_of_ble_eq_true rfl) (Nat.le_of_ble_eq_true rfl) dJx4a65c_add_72be8_22
theorem LQ_gst3 {g : gG} {σ : Mem} {n : Nat} {w : Int64} {H : Heap} {v : Int32} (h : LQ 3 5 g (gst σ 3 0 0 v) n w H) : LQ 3 5 g σ n w H := by
  obtain ⟨g', σ', h1, h2, h3, h4, h5, h6, h7, h8, h9, h10, h11⟩ := h
  exact ⟨g', σ', h1, h2, h3, h4, h5, h6, h7, h8, fun j hj => by rw [h9 j hj, gst_nk (by decide)], h10, fun k i f hk hk2 => by rw [h11 k i f hk hk2, gst_nk hk]⟩
set_option maxHeartbeats 4000000 in
set_option maxRecDepth 100000 in
theorem c_add13 (l : Launch) (g : gG) (σ : Mem) (w : Int64) (n : Nat) (hL : LPn 3 5 7 g σ n) : Met l yJx4a65c_add_9ea2d wsJx4a65c_add_9ea2d ({ frames := 6, cells := 1, slots := 200, locals := 138 } : Room) (gPc g σ w [.ref (gad g 3 0), .ref (gad g 7 n)]) (gE g (fun v H => v = some (.int 1) ∧ LQ 3 5 g σ n w H)) 1 200 (gA g) := by
  refine gx_ofW (cc := cJx4a65c_add_9ea2d) (maxL := 2) (ret := (some .boolean)) (by decide) rfl (Nat.le_of_ble_eq_true rfl) ?_
  intro p e s m below meth c0 hx hb hr hml hts hown hlocks hin hG hZ hS ls hl
  have hown : s.vm.findClass RJx4a65c = some m.cls := hown
  have hl : lv_has ls 2 [(0, .ref (gad g 3 0)), (1, .ref (gad g 7 n))] := hl
  have k1 := hts (.sameField "java/util/ArrayList" "java/util/AbstractList" "modCount" "I") (by decide +kernel)
  have k2 := hts (.fieldLink RJx4a65c 63 "java/util/ArrayList" "modCount" "I") (by decide +kernel)
  have k3 := hts (.fieldLink RJx4a65c 9 "java/util/ArrayList" "elementData" "[Ljava/lang/Object;") (by decide +kernel)
  have k4 := hts (.fieldLink RJx4a65c 48 "java/util/ArrayList" "size" "I") (by decide +kernel)
  obtain ⟨ht3, hl1, hke, hz2, h60, hcs⟩ := hL
  rcases hcs with ⟨hn0, hz1, hca⟩ | ⟨hz1, hca, hle, h100, h10⟩
  · skip
    refine lv_aload_n hx hb dJx4a65c_add_9ea2d_0 rfl (lv_at hl 0 rfl) ?_
    refine lv_dup hx hb dJx4a65c_add_9ea2d_1 rfl ?_
    refine gx_get hx hb hown hZ hG 3 0 0 (by rw [hl1]; decide) rfl (by decide) k2 (u_same k1) (v := .int (σ 3 0 0)) rfl dJx4a65c_add_9ea2d_2 ?_
    refine lv_iconst (v := 1) hx hb dJx4a65c_add_9ea2d_5 (by decide) ?_
    refine lv_iadd hx hb dJx4a65c_add_9ea2d_6 ?_
    refine gx_put hx hb hown hZ hG hS 3 0 0 ((σ 3 0 0) + 1) (by rw [hl1]; decide) rfl (by decide) k2 (u_same k1) rfl rfl trivial rfl rfl dJx4a65c_add_9ea2d_7 (fun H locs hG hS => ?_)
    refine lv_aload_n hx hb dJx4a65c_add_9ea2d_10 rfl (lv_at hl 0 rfl) ?_
    refine lv_aload_n hx hb dJx4a65c_add_9ea2d_11 rfl (lv_at hl 1 rfl) ?_
    refine lv_aload_n hx hb dJx4a65c_add_9ea2d_12 rfl (lv_at hl 0 rfl) ?_
    refine gx_get hx hb hown hZ hG 3 0 1 (by rw [hl1]; decide) rfl (by decide) k3 (fun _ h => h) (v := .ref (gem g)) (gel_0 (by rw [gst_nf (by decide)]; exact hz1)) dJx4a65c_add_9ea2d_13 ?_
    refine lv_aload_n hx hb dJx4a65c_add_9ea2d_16 rfl (lv_at hl 0 rfl) ?_
    refine gx_get hx hb hown hZ hG 3 0 2 (by rw [hl1]; decide) rfl (by decide) k4 (fun _ h => h) (v := .int (nI n)) (congrArg Value.int (by rw [gst_nf (by decide)]; exact hz2)) dJx4a65c_add_9ea2d_17 ?_
    refine gx_cE (gx_runV (As := [.ref (gad g 7 n), .ref ((gem g)), .int (nI n)]) (rest := []) ⟨hx, hb, hml, hown, hts⟩ (c_add3A3 l g (gst σ 3 0 0 ((σ 3 0 0) + 1)) w n hl1 hke h60 hn0 (by rw [gst_nf (by decide)]; exact hz1) hca (by rw [gst_nf (by decide)]; exact hz2)) (cwV 3 hts gJx4a65c_add_9ea2d_Jx4a65c_add_72be8 rfl rfl rfl (by decide +kernel) ⟨Nat.le_of_ble_eq_true rfl, Nat.le_of_ble_eq_true rfl⟩) (gx_obj hZ hG 3 0 (by rw [hl1]; decide) rfl) hZ hG hS rfl hl.1 rfl (Nat.le_of_ble_eq_true rfl) dJx4a65c_add_9ea2d_20 ⟨Nat.le_of_ble_eq_true rfl, Nat.le_of_ble_eq_true rfl⟩) hS (fun vr H1 locs1 hPo hS hsz => ?_)
    obtain ⟨rfl, hLQ⟩ := hPo
    refine lv_iconst (v := 1) hx hb dJx4a65c_add_9ea2d_23 (by decide) ?_
    exact gx_zretE hx hb hr hlocks hS rfl ⟨rfl, LQ_gst3 hLQ⟩ (Nat.le_of_ble_eq_true rfl) (Nat.le_of_ble_eq_true rfl) dJx4a65c_add_9ea2d_24
  · skip
    rcases Nat.lt_or_ge n (gln g 5 0) with hlt | hge
    · skip
      refine lv_aload_n hx hb dJx4a65c_add_9ea2d_0 rfl (lv_at hl 0 rfl) ?_
      refine lv_dup hx hb dJx4a65c_add_9ea2d_1 rfl ?_
      refine gx_get hx hb hown hZ hG 3 0 0 (by rw [hl1]; decide) rfl (by decide) k2 (u_same k1) (v := .int (σ 3 0 0)) rfl dJx4a65c_add_9ea2d_2 ?_
      refine lv_iconst (v := 1) hx hb dJx4a65c_add_9ea2d_5 (by decide) ?_
      refine lv_iadd hx hb dJx4a65c_add_9ea2d_6 ?_
      refine gx_put hx hb hown hZ hG hS 3 0 0 ((σ 3 0 0) + 1) (by rw [hl1]; decide) rfl (by decide) k2 (u_same k1) rfl rfl trivial rfl rfl dJx4a65c_add_9ea2d_7 (fun H locs hG hS => ?_)
      refine lv_aload_n hx hb dJx4a65c_add_9ea2d_10 rfl (lv_at hl 0 rfl) ?_
      refine lv_aload_n hx hb dJx4a65c_add_9ea2d_11 rfl (lv_at hl 1 rfl) ?_
      refine lv_aload_n hx hb dJx4a65c_add_9ea2d_12 rfl (lv_at hl 0 rfl) ?_
      refine gx_get hx hb hown hZ hG 3 0 1 (by rw [hl1]; decide) rfl (by decide) k3 (fun _ h => h) (v := .ref (gad g 5 0)) (gel_1 (by rw [gst_nf (by decide)]; exact hz1)) dJx4a65c_add_9ea2d_13 ?_
      refine lv_aload_n hx hb dJx4a65c_add_9ea2d_16 rfl (lv_at hl 0 rfl) ?_
      refine gx_get hx hb hown hZ hG 3 0 2 (by rw [hl1]; decide) rfl (by decide) k4 (fun _ h => h) (v := .int (nI n)) (congrArg Value.int (by rw [gst_nf (by decide)]; exact hz2)) dJx4a65c_add_9ea2d_17 ?_
      refine gx_cE (gx_runV (As := [.ref (gad g 7 n), .ref (gad g 5 0), .int (nI n)]) (rest := []) ⟨hx, hb, hml, hown, hts⟩ (c_add3B3 l g (gst σ 3 0 0 ((σ 3 0 0) + 1)) w n hl1 hke h60 (by rw [gst_nf (by decide)]; exact hz1) hca hlt h100 h10) (cwV 3 hts gJx4a65c_add_9ea2d_Jx4a65c_add_72be8 rfl rfl rfl (by decide +kernel) ⟨Nat.le_of_ble_eq_true rfl, Nat.le_of_ble_eq_true rfl⟩) (gx_obj hZ hG 3 0 (by rw [hl1]; decide) rfl) hZ hG hS rfl hl.1 rfl (Nat.le_of_ble_eq_true rfl) dJx4a65c_add_9ea2d_20 ⟨Nat.le_of_ble_eq_true rfl, Nat.le_of_ble_eq_true rfl⟩) hS (fun vr H1 locs1 hPo hS hsz => ?_)
      obtain ⟨rfl, hLQ⟩ := hPo
      refine lv_iconst (v := 1) hx hb dJx4a65c_add_9ea2d_23 (by decide) ?_
      exact gx_zretE hx hb hr hlocks hS rfl ⟨rfl, LQ_gst3 hLQ⟩ (Nat.le_of_ble_eq_true rfl) (Nat.le_of_ble_eq_true rfl) dJx4a65c_add_9ea2d_24
    · skip
      have hln : gln g 5 0 = n := by omega
      refine lv_aload_n hx hb dJx4a65c_add_9ea2d_0 rfl (lv_at hl 0 rfl) ?_
      refine lv_dup hx hb dJx4a65c_add_9ea2d_1 rfl ?_
      refine gx_get hx hb hown hZ hG 3 0 0 (by rw [hl1]; decide) rfl (by decide) k2 (u_same k1) (v := .int (σ 3 0 0)) rfl dJx4a65c_add_9ea2d_2 ?_
      refine lv_iconst (v := 1) hx hb dJx4a65c_add_9ea2d_5 (by decide) ?_
      refine lv_iadd hx hb dJx4a65c_add_9ea2d_6 ?_
      refine gx_put hx hb hown hZ hG hS 3 0 0 ((σ 3 0 0) + 1) (by rw [hl1]; decide) rfl (by decide) k2 (u_same k1) rfl rfl trivial rfl rfl dJx4a65c_add_9ea2d_7 (fun H locs hG hS => ?_)
      refine lv_aload_n hx hb dJx4a65c_add_9ea2d_10 rfl (lv_at hl 0 rfl) ?_
      refine lv_aload_n hx hb dJx4a65c_add_9ea2d_11 rfl (lv_at hl 1 rfl) ?_
      refine lv_aload_n hx hb dJx4a65c_add_9ea2d_12 rfl (lv_at hl 0 rfl) ?_
      refine gx_get hx hb hown hZ hG 3 0 1 (by rw [hl1]; decide) rfl (by decide) k3 (fun _ h => h) (v := .ref (gad g 5 0)) (gel_1 (by rw [gst_nf (by decide)]; exact hz1)) dJx4a65c_add_9ea2d_13 ?_
      refine lv_aload_n hx hb dJx4a65c_add_9ea2d_16 rfl (lv_at hl 0 rfl) ?_
      refine gx_get hx hb hown hZ hG 3 0 2 (by rw [hl1]; decide) rfl (by decide) k4 (fun _ h => h) (v := .int (nI n)) (congrArg Value.int (by rw [gst_nf (by decide)]; exact hz2)) dJx4a65c_add_9ea2d_17 ?_
      refine gx_cE (gx_runV (As := [.ref (gad g 7 n), .ref (gad g 5 0), .int (nI n)]) (rest := []) ⟨hx, hb, hml, hown, hts⟩ (c_add3C3 l g (gst σ 3 0 0 ((σ 3 0 0) + 1)) w n hl1 hke h60 (by rw [gst_nf (by decide)]; exact hz1) hca hln (by omega) (by rw [gst_nf (by decide)]; exact hz2)) (cwV 3 hts gJx4a65c_add_9ea2d_Jx4a65c_add_72be8 rfl rfl rfl (by decide +kernel) ⟨Nat.le_of_ble_eq_true rfl, Nat.le_of_ble_eq_true rfl⟩) (gx_obj hZ hG 3 0 (by rw [hl1]; decide) rfl) hZ hG hS rfl hl.1 rfl (Nat.le_of_ble_eq_true rfl) dJx4a65c_add_9ea2d_20 ⟨Nat.le_of_ble_eq_true rfl, Nat.le_of_ble_eq_true rfl⟩) hS (fun vr H1 locs1 hPo hS hsz => ?_)
      obtain ⟨rfl, hLQ⟩ := hPo
      refine lv_iconst (v := 1) hx hb dJx4a65c_add_9ea2d_23 (by decide) ?_
      exact gx_zretE hx hb hr hlocks hS rfl ⟨rfl, LQ_gst3 hLQ⟩ (Nat.le_of_ble_eq_true rfl) (Nat.le_of_ble_eq_true rfl) dJx4a65c_add_9ea2d_24
